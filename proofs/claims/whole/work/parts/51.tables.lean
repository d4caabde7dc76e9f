set_option maxHeartbeats 40000000
set_option maxRecDepth 100000
/-! tables beside: takeRound, supposed; save and putBack of the reference -/
theorem gcp6 {α : Type} {x : Option α} : gcp 0 0 6 6 6 x = x := if_neg (by decide)
theorem gcp24 {α : Type} {x : Option α} : gcp 0 0 24 24 24 x = x := if_neg (by decide)
theorem cpI_o {X : XD} {a d q : Nat} {n : Int32} (h : q ≠ d) : (cpI X a 0 d 0 n).1 q = X.1 q := if_neg h
theorem cpI_s {X : XD} {a d k : Nat} {n : Int32} (h : k < n.toNatClampNeg) : (cpI X a 0 d 0 n).1 d k = X.1 a k := by
  show (if d = d then va_cpy (X.1 a) (X.1 d) (0 : Int32).toNatClampNeg (0 : Int32).toNatClampNeg n.toNatClampNeg else X.1 d) k = X.1 a k
  rw [if_pos rfl]
  unfold va_cpy
  have e0 : (0 : Int32).toNatClampNeg = 0 := i32n (k := 0) (by decide)
  rw [e0, if_pos ⟨Nat.zero_le _, by omega⟩, Nat.sub_zero, Nat.zero_add]
theorem cpI_2 {X : XD} {a d : Nat} {n : Int32} : (cpI X a 0 d 0 n).2 = X.2 := rfl
theorem take_c {Z : XS} {X : XD} {a b : Nat} {r : Rnd} (h : RT X b r) (hd : a + 4 < b ∨ b + 4 < a) : ∃ Y, fX6_takeRound Z a b X = some ((), Y) ∧ RT Y a r ∧ Y.2 = X.2 ∧ (∀ q, (q < a ∨ a + 4 < q) → Y.1 q = X.1 q) ∧ ∀ k, k ≠ 2 → k ≠ 3 → Y.1 a k = X.1 a k := by
  obtain ⟨a1, a2, a3, a4, a5, a6⟩ := h
  have n6 : (6 : Int32).toNatClampNeg = 6 := i32n (k := 6) (by decide)
  have n24 : (24 : Int32).toNatClampNeg = 24 := i32n (k := 24) (by decide)
  unfold fX6_takeRound
  simp only [nm_eq, gcp6, gcp24]
  refine ⟨_, rfl, ⟨fun i hi => ?_, fun i hi => ?_, fun i hi => ?_, fun i hi => ?_, ?_, ?_⟩, rfl, fun q hq => ?_, fun k k2 k3 => ?_⟩
  · rw [cpI_o (by omega), cpI_o (by omega), cpI_o (by omega), cpI_s (by rw [n6]; exact hi), wI_c (by omega), wI_c (by omega)]; exact a1 i hi
  · rw [cpI_o (by omega), cpI_o (by omega), cpI_s (by rw [n6]; exact hi), cpI_o (by omega), wI_c (by omega), wI_c (by omega)]; exact a2 i hi
  · rw [cpI_o (by omega), cpI_s (by rw [n6]; exact hi), cpI_o (by omega), cpI_o (by omega), wI_c (by omega), wI_c (by omega)]; exact a3 i hi
  · rw [cpI_s (by rw [n24]; exact hi), cpI_o (by omega), cpI_o (by omega), cpI_o (by omega), wI_c (by omega), wI_c (by omega)]; exact a4 i hi
  · rw [cpI_o (by omega), cpI_o (by omega), cpI_o (by omega), cpI_o (by omega), wI_k (by decide), wI_s]; exact a5
  · rw [cpI_o (by omega), cpI_o (by omega), cpI_o (by omega), cpI_o (by omega), wI_s, wI_c (by omega)]; exact a6
  · rw [cpI_o (by omega), cpI_o (by omega), cpI_o (by omega), cpI_o (by omega), wI_c (by omega), wI_c (by omega)]
  · rw [cpI_o (by omega), cpI_o (by omega), cpI_o (by omega), cpI_o (by omega), wI_k k3, wI_k k2]
theorem HC.c {X Y : XD} {G : List Cl} (z : HC X G) (q : eqC X Y) : HC Y G := z.eq (by rw [q.1 47 (by unfold scrC; omega)]) (fun i a b c => q.1 i (by unfold scrC; omega))
theorem CK.c {Z : XS} {X Y : XD} {o i k v : Nat} (h : CK Z X o i k v) (q : eqC X Y) : CK Z Y o i k v := h.eq (q.1 o (by have := h.1; unfold scrC; omega))
theorem tlook {Z : XS} {X0 X : XD} {t o n i k v : Nat} {r : Rnd} {G : List Cl} (hL : LayC Z) (ht : 74 ≤ t) (ht2 : t ≤ 134) (hc : eqC X0 X) (hr : RT X t r) (hI : RI n r) (hG : HC X0 G) (hk : CK Z X0 o i k v) : ∃ Y, fX11_look Z t o X = some ((), Y) ∧ VW Y (ntA r i k G) (suA r i k G) (saA r i k G) ∧ fV_X4_side Z o 139 t Y = some (Int32.ofNat (aiA r i k v G)) ∧ RT Y t r ∧ eqC X0 Y := by
  obtain ⟨Y, y1, y2, y3⟩ := look_c hL (show 45 ≤ t by omega) ht2 hr hI (hG.c hc) (hk.c hc)
  exact ⟨Y, y1, y2, side_c (hr.v y3 (by omega) (by omega)) hI ((hk.c hc).v y3) y2, hr.v y3 (by omega) (by omega), hc.trans y3.C⟩
theorem tshot {Z : XS} {X0 X : XD} {t n i s : Nat} {b : Bool} {r : Rnd} (ht : 74 ≤ t) (ht2 : t ≤ 134) (hc : eqC X0 X) (hr : RT X t r) (hI : RI n r) (hi : i < 6) : ∃ Y, fX6_addShot Z t (Int32.ofNat i) (Int32.ofNat s) (b2 b) X = some ((), Y) ∧ RT Y t (rGo r i s b) ∧ eqC X0 Y ∧ (∀ q, (q < t ∨ t + 3 < q) → Y.1 q = X.1 q) ∧ Y.2 = X.2 := by
  obtain ⟨Y, y1, y2, y3, y4, y5⟩ := addShot_c (Z := Z) (s := s) (b := b) hr hI hi
  refine ⟨Y, y1, y2, hc.trans ⟨fun q hq => ?_, fun q _ => by rw [y3]⟩, fun q hq => y4 q (by omega) (by omega) (by omega) (by omega), y3⟩
  unfold scrC at hq
  exact y4 q (by omega) (by omega) (by omega) (by omega)
theorem ttake {Z : XS} {X0 X : XD} {t b : Nat} {r : Rnd} (ht : 74 ≤ t) (ht2 : t ≤ 134) (hd : t + 4 < b ∨ b + 4 < t) (hc : eqC X0 X) (hr : RT X b r) : ∃ Y, fX6_takeRound Z t b X = some ((), Y) ∧ RT Y t r ∧ eqC X0 Y ∧ (∀ q, (q < t ∨ t + 4 < q) → Y.1 q = X.1 q) ∧ Y.2 = X.2 := by
  obtain ⟨Y, y1, y2, y3, y4, y5⟩ := take_c (Z := Z) hr hd
  refine ⟨Y, y1, y2, hc.trans ⟨fun q hq => ?_, fun q _ => by rw [y3]⟩, y4, y3⟩
  unfold scrC at hq
  exact y4 q (by omega)
theorem sup_c {Z : XS} {X : XD} {r : Rnd} (hr : RT X 47 r) : ∃ Y, fX11_supposed Z X = some ((), Y) ∧ RT Y 74 r ∧ eqC X Y ∧ Y.2 = X.2 ∧ ∀ q, (q < 74 ∨ 78 < q) → Y.1 q = X.1 q := by
  obtain ⟨Y, y1, y2, y3, y4, y5⟩ := ttake (Z := Z) (X0 := X) (t := 74) (b := 47) (by decide) (by decide) (by decide) eqC.rfl hr
  refine ⟨Y, ?_, y2, y3, y5, y4⟩
  unfold fX11_supposed
  rw [show (74 + 13 * (0 : Int32).toNatClampNeg) = 74 from by rw [show (0 : Int32).toNatClampNeg = 0 from i32n (k := 0) (by decide)], show gin (0 : Int32) 5 = fun x => x from funext fun x => gin_o (k := 0) (by decide) (by decide)]
  exact bnw_of y1 _
/-! the reference's save and putBack -/
def eqN (X Y : XD) : Prop := Y.2 = X.2 ∧ (∀ q, q ≠ 0 → q ≠ 3 → q ≠ 4 → q ≠ 5 → ¬ (16 ≤ q ∧ q ≤ 19) → Y.1 q = X.1 q) ∧ ∀ k, k ≠ 1 → k ≠ 2 → k ≠ 27 → k ≠ 28 → Y.1 0 k = X.1 0 k
theorem eqN.rfl {X : XD} : eqN X X := ⟨Eq.refl _, fun _ _ _ _ _ _ => Eq.refl _, fun _ _ _ _ _ => Eq.refl _⟩
theorem eqN.trans {X Y Z : XD} (h : eqN X Y) (h2 : eqN Y Z) : eqN X Z := ⟨h2.1.trans h.1, fun q a b c d e => (h2.2.1 q a b c d e).trans (h.2.1 q a b c d e), fun k a b c d => (h2.2.2 k a b c d).trans (h.2.2 k a b c d)⟩
theorem eqG.N {X Y : XD} (h : eqG X Y) : eqN X Y := ⟨h.1, fun q a b c d e => h.2.1 q a b c d (by omega), fun k a b _ _ => h.2.2 k a b⟩
theorem eqP.N {X Y : XD} (h : eqP X Y) : eqN X Y := h.G.N
theorem HM.n {X Y : XD} (h : eqN X Y) {G : List Cl} (z : HM X G) : HM Y G := z.eq (h.2.2 10 (by decide) (by decide) (by decide) (by decide)) (h.2.1 _ (by decide) (by decide) (by decide) (by decide) (by decide)) (h.2.1 _ (by decide) (by decide) (by decide) (by decide) (by decide)) (h.2.1 _ (by decide) (by decide) (by decide) (by decide) (by decide)) (h.2.1 _ (by decide) (by decide) (by decide) (by decide) (by decide)) (h.2.1 _ (by decide) (by decide) (by decide) (by decide) (by decide)) (h.2.1 _ (by decide) (by decide) (by decide) (by decide) (by decide))
theorem MK.n {X Y : XD} {i k v : Nat} (h : MK X i k v) (q : eqN X Y) : MK Y i k v := ⟨h.1, h.2.1, by rw [q.2.1 1 (by decide) (by decide) (by decide) (by decide) (by decide)]; exact h.2.2.1, by rw [q.2.1 2 (by decide) (by decide) (by decide) (by decide) (by decide)]; exact h.2.2.2⟩
/-- what is kept holds a round -/
def RK (X : XD) (n : Nat) (r : Rnd) : Prop := (∀ i, i < n → X.1 17 i = Int32.ofNat (rL r i)) ∧ (∀ i, i < n → X.1 18 i = Int32.ofNat (rS r i)) ∧ (∀ i, i < n → X.1 19 i = Int32.ofNat (rG r i)) ∧ (∀ i, i < 4 * n → X.1 6 i = Int32.ofNat (rR r i)) ∧ X.1 0 27 = Int32.ofNat (rA r) ∧ X.1 0 28 = Int32.ofNat (rB r)
theorem RK.g {X Y : XD} {n : Nat} {r : Rnd} (h : RK X n r) (q : eqG X Y) : RK Y n r := by
  obtain ⟨a1, a2, a3, a4, a5, a6⟩ := h
  have e : ∀ k, k ≠ 0 → k ≠ 3 → k ≠ 4 → k ≠ 5 → k ≠ 16 → Y.1 k = X.1 k := q.2.1
  refine ⟨fun i hi => ?_, fun i hi => ?_, fun i hi => ?_, fun i hi => ?_, ?_, ?_⟩
  · rw [e 17 (by decide) (by decide) (by decide) (by decide) (by decide)]; exact a1 i hi
  · rw [e 18 (by decide) (by decide) (by decide) (by decide) (by decide)]; exact a2 i hi
  · rw [e 19 (by decide) (by decide) (by decide) (by decide) (by decide)]; exact a3 i hi
  · rw [e 6 (by decide) (by decide) (by decide) (by decide) (by decide)]; exact a4 i hi
  · rw [q.2.2 27 (by decide) (by decide)]; exact a5
  · rw [q.2.2 28 (by decide) (by decide)]; exact a6
theorem save_lp : ∀ (d i n : Nat) (X : XD), i + d = 6 → d < n → ∃ Y, fX12_save_18 n (Int32.ofNat i) X = some ((), Y) ∧ (∀ j, i ≤ j → j < 6 → Y.1 17 j = X.1 3 j ∧ Y.1 18 j = X.1 4 j ∧ Y.1 19 j = X.1 5 j) ∧ (∀ j, j < i → Y.1 17 j = X.1 17 j ∧ Y.1 18 j = X.1 18 j ∧ Y.1 19 j = X.1 19 j) ∧ (∀ q, q ≠ 17 → q ≠ 18 → q ≠ 19 → Y.1 q = X.1 q) ∧ Y.2 = X.2 := by
  intro d
  induction d with
  | zero =>
    intro i n X h1 h2
    obtain ⟨n, rfl⟩ : ∃ q, n = q + 1 := ⟨n - 1, by omega⟩
    refine ⟨X, ?_, fun j a b => absurd a (by omega), fun j _ => ⟨rfl, rfl, rfl⟩, fun q _ _ _ => rfl, rfl⟩
    rw [fX12_save_18_s, if_pos (show (6 : Int32) ≤ Int32.ofNat i from (o_le (a := 6) (by omega) (by omega)).mpr (by omega))]
  | succ d ih =>
    intro i n X h1 h2
    obtain ⟨n, rfl⟩ : ∃ q, n = q + 1 := ⟨n - 1, by omega⟩
    have g6 : ∀ {α : Type} (x : Option α), gin (Int32.ofNat i) 6 x = x := fun x => gin_o (by omega) (by omega)
    rw [fX12_save_18_s, if_neg (show ¬ (6 : Int32) ≤ Int32.ofNat i from fun z => by have := (o_le (a := 6) (by omega) (by omega)).mp z; omega)]
    simp only [g6, nm_eq]
    rw [i32n (by omega), show Int32.ofNat i + 1 = Int32.ofNat (i + 1) from o_add i 1, wI_c (show 5 ≠ 18 by decide), wI_c (show 5 ≠ 17 by decide), wI_c (show 4 ≠ 17 by decide)]
    obtain ⟨Y, y1, y2, y3, y4, y5⟩ := ih (i + 1) n (wI (wI (wI X 17 i (X.1 3 i)) 18 i (X.1 4 i)) 19 i (X.1 5 i)) (by omega) (by omega)
    refine ⟨Y, y1, fun j a b => ?_, fun j a => ?_, fun q q1 q2 q3 => ?_, y5⟩
    · by_cases e : j = i
      · subst e
        obtain ⟨z1, z2, z3⟩ := y3 j (by omega)
        refine ⟨z1.trans ?_, z2.trans ?_, z3.trans ?_⟩
        · rw [wI_c (by decide), wI_c (by decide), wI_s]
        · rw [wI_c (by decide), wI_s]
        · rw [wI_s]
      · obtain ⟨z1, z2, z3⟩ := y2 j (by omega) b
        refine ⟨z1.trans ?_, z2.trans ?_, z3.trans ?_⟩
        · rw [wI_c (by decide), wI_c (by decide), wI_c (by decide)]
        · rw [wI_c (by decide), wI_c (by decide), wI_c (by decide)]
        · rw [wI_c (by decide), wI_c (by decide), wI_c (by decide)]
    · obtain ⟨z1, z2, z3⟩ := y3 j (by omega)
      have e : j ≠ i := by omega
      refine ⟨z1.trans ?_, z2.trans ?_, z3.trans ?_⟩
      · rw [wI_c (by decide), wI_c (by decide), wI_k e]
      · rw [wI_c (by decide), wI_k e, wI_c (by decide)]
      · rw [wI_k e, wI_c (by decide), wI_c (by decide)]
    · rw [y4 q q1 q2 q3, wI_c q3, wI_c q2, wI_c q1]
theorem save_m {X : XD} {n : Nat} {r : Rnd} (hn : n ≤ 6) (h : RM X n r) : ∃ Y, fX12_save X = some ((), Y) ∧ RK Y n r ∧ RM Y n r ∧ eqN X Y ∧ Y.1 3 = X.1 3 ∧ Y.1 4 = X.1 4 ∧ Y.1 5 = X.1 5 := by
  unfold fX12_save
  rw [nm_eq, nm_eq]
  rw [wI_k (show 2 ≠ 27 by decide)]
  obtain ⟨Y, y1, y2, y3, y4, y5⟩ := save_lp 6 0 FU (wI (wI X 0 27 (X.1 0 1)) 0 28 (X.1 0 2)) rfl (FU_gt (by decide))
  have e : ∀ q, q ≠ 0 → q ≠ 17 → q ≠ 18 → q ≠ 19 → Y.1 q = X.1 q := fun q a b c d => by rw [y4 q b c d, wI_c a, wI_c a]
  have e0 : ∀ k, k ≠ 27 → k ≠ 28 → Y.1 0 k = X.1 0 k := fun k a b => by rw [y4 0 (by decide) (by decide) (by decide), wI_k b, wI_k a]
  have r1 := h.1
  have r2 := h.2.1
  have r3 := h.2.2.1
  have hm : RM Y n r := h.eq (e0 1 (by decide) (by decide)) (e0 2 (by decide) (by decide)) (fun k a b => e k (by omega) (by omega) (by omega) (by omega))
  refine ⟨Y, y1, ⟨fun i hi => ?_, fun i hi => ?_, fun i hi => ?_, hm.2.2.2.1, ?_, ?_⟩, hm, ⟨y5, fun q q0 _ _ _ qs => e q q0 (by omega) (by omega) (by omega), fun k _ _ a b => e0 k a b⟩, e 3 (by decide) (by decide) (by decide) (by decide), e 4 (by decide) (by decide) (by decide) (by decide), e 5 (by decide) (by decide) (by decide) (by decide)⟩
  · rw [(y2 i (by omega) (by omega)).1, wI_c (by decide), wI_c (by decide)]; exact r1 i hi
  · rw [(y2 i (by omega) (by omega)).2.1, wI_c (by decide), wI_c (by decide)]; exact r2 i hi
  · rw [(y2 i (by omega) (by omega)).2.2, wI_c (by decide), wI_c (by decide)]; exact r3 i hi
  · rw [y4 0 (by decide) (by decide) (by decide), wI_k (by decide), wI_s]; exact h.2.2.2.2.1
  · rw [y4 0 (by decide) (by decide) (by decide), wI_s]; exact h.2.2.2.2.2
theorem put_lp : ∀ (d i n : Nat) (X : XD), i + d = 6 → d < n → ∃ Y, fX12_putBack_18 n (Int32.ofNat i) X = some ((), Y) ∧ (∀ j, i ≤ j → j < 6 → Y.1 3 j = X.1 17 j ∧ Y.1 4 j = X.1 18 j ∧ Y.1 5 j = X.1 19 j) ∧ (∀ j, j < i → Y.1 3 j = X.1 3 j ∧ Y.1 4 j = X.1 4 j ∧ Y.1 5 j = X.1 5 j) ∧ (∀ q, q ≠ 3 → q ≠ 4 → q ≠ 5 → Y.1 q = X.1 q) ∧ Y.2 = X.2 := by
  intro d
  induction d with
  | zero =>
    intro i n X h1 h2
    obtain ⟨n, rfl⟩ : ∃ q, n = q + 1 := ⟨n - 1, by omega⟩
    refine ⟨X, ?_, fun j a b => absurd a (by omega), fun j _ => ⟨rfl, rfl, rfl⟩, fun q _ _ _ => rfl, rfl⟩
    rw [fX12_putBack_18_s, if_pos (show (6 : Int32) ≤ Int32.ofNat i from (o_le (a := 6) (by omega) (by omega)).mpr (by omega))]
  | succ d ih =>
    intro i n X h1 h2
    obtain ⟨n, rfl⟩ : ∃ q, n = q + 1 := ⟨n - 1, by omega⟩
    have g6 : ∀ {α : Type} (x : Option α), gin (Int32.ofNat i) 6 x = x := fun x => gin_o (by omega) (by omega)
    rw [fX12_putBack_18_s, if_neg (show ¬ (6 : Int32) ≤ Int32.ofNat i from fun z => by have := (o_le (a := 6) (by omega) (by omega)).mp z; omega)]
    simp only [g6, nm_eq]
    rw [i32n (by omega), show Int32.ofNat i + 1 = Int32.ofNat (i + 1) from o_add i 1, wI_c (show 19 ≠ 4 by decide), wI_c (show 19 ≠ 3 by decide), wI_c (show 18 ≠ 3 by decide)]
    obtain ⟨Y, y1, y2, y3, y4, y5⟩ := ih (i + 1) n (wI (wI (wI X 3 i (X.1 17 i)) 4 i (X.1 18 i)) 5 i (X.1 19 i)) (by omega) (by omega)
    refine ⟨Y, y1, fun j a b => ?_, fun j a => ?_, fun q q1 q2 q3 => ?_, y5⟩
    · by_cases e : j = i
      · subst e
        obtain ⟨z1, z2, z3⟩ := y3 j (by omega)
        refine ⟨z1.trans ?_, z2.trans ?_, z3.trans ?_⟩
        · rw [wI_c (by decide), wI_c (by decide), wI_s]
        · rw [wI_c (by decide), wI_s]
        · rw [wI_s]
      · obtain ⟨z1, z2, z3⟩ := y2 j (by omega) b
        refine ⟨z1.trans ?_, z2.trans ?_, z3.trans ?_⟩
        · rw [wI_c (by decide), wI_c (by decide), wI_c (by decide)]
        · rw [wI_c (by decide), wI_c (by decide), wI_c (by decide)]
        · rw [wI_c (by decide), wI_c (by decide), wI_c (by decide)]
    · obtain ⟨z1, z2, z3⟩ := y3 j (by omega)
      have e : j ≠ i := by omega
      refine ⟨z1.trans ?_, z2.trans ?_, z3.trans ?_⟩
      · rw [wI_c (by decide), wI_c (by decide), wI_k e]
      · rw [wI_c (by decide), wI_k e, wI_c (by decide)]
      · rw [wI_k e, wI_c (by decide), wI_c (by decide)]
    · rw [y4 q q1 q2 q3, wI_c q3, wI_c q2, wI_c q1]
theorem put_m {X : XD} {n : Nat} {r : Rnd} (hn : n ≤ 6) (h : RK X n r) : ∃ Y, fX12_putBack X = some ((), Y) ∧ RM Y n r ∧ eqN X Y ∧ Y.2 = X.2 := by
  unfold fX12_putBack
  rw [nm_eq, nm_eq]
  rw [wI_k (show 28 ≠ 1 by decide)]
  obtain ⟨Y, y1, y2, y3, y4, y5⟩ := put_lp 6 0 FU (wI (wI X 0 1 (X.1 0 27)) 0 2 (X.1 0 28)) rfl (FU_gt (by decide))
  have e : ∀ q, q ≠ 0 → q ≠ 3 → q ≠ 4 → q ≠ 5 → Y.1 q = X.1 q := fun q a b c d => by rw [y4 q b c d, wI_c a, wI_c a]
  have e0 : ∀ k, k ≠ 1 → k ≠ 2 → Y.1 0 k = X.1 0 k := fun k a b => by rw [y4 0 (by decide) (by decide) (by decide), wI_k b, wI_k a]
  obtain ⟨a1, a2, a3, a4, a5, a6⟩ := h
  refine ⟨Y, y1, ⟨fun i hi => ?_, fun i hi => ?_, fun i hi => ?_, fun i hi => ?_, ?_, ?_⟩, ⟨y5, fun q q0 b c d _ => e q q0 b c d, fun k a b _ _ => e0 k a b⟩, y5⟩
  · rw [(y2 i (by omega) (by omega)).1, wI_c (by decide), wI_c (by decide)]; exact a1 i hi
  · rw [(y2 i (by omega) (by omega)).2.1, wI_c (by decide), wI_c (by decide)]; exact a2 i hi
  · rw [(y2 i (by omega) (by omega)).2.2, wI_c (by decide), wI_c (by decide)]; exact a3 i hi
  · rw [e 6 (by decide) (by decide) (by decide) (by decide)]; exact a4 i hi
  · rw [y4 0 (by decide) (by decide) (by decide), wI_k (by decide), wI_s]; exact a5
  · rw [y4 0 (by decide) (by decide) (by decide), wI_s]; exact a6
/-- the end of a call that asks with save and putBack -/
theorem RB.back {Z : XS} {Xc Xm Yc Ym : XD} {n m : Nat} {r : Rnd} (h : RB Z Xc Xm n m r) (hc : eqC Xc Yc) (hm : eqN Xm Ym) (hr : RM Ym n r) : RB Z Yc Ym n m r := by
  have c : ∀ i, ¬ scrC i → Yc.1 i = Xc.1 i := hc.1
  refine h.rd ⟨h.2.2.1.1.eq (by rw [c 47 (by unfold scrC; omega)]) (by rw [c 47 (by unfold scrC; omega)]) (fun k a b => c _ (by unfold scrC; omega)), hr, h.2.2.1.2.2⟩ (fun i _ _ _ _ _ hs => c i hs) (fun k _ _ => by rw [c 47 (by unfold scrC; omega)]) hc.2 (fun q q0 q3 q4 q5 _ qs => hm.2.1 q q0 q3 q4 q5 (by unfold scrM at qs; omega)) (fun j a b c d => hm.2.2 j a b c d) (by rw [hm.1])
