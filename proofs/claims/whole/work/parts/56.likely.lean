set_option maxHeartbeats 40000000
set_option maxRecDepth 100000
/-! LIKELY -/
def fillJ (X : XD) (a n : Nat) (v : Int64) : XD := (X.1, fun q => if q = a then fun j => if j < n then v else X.2 a j else X.2 q)
theorem fillJ_0 (X : XD) (a : Nat) (v : Int64) : fillJ X a 0 v = X := by
  unfold fillJ
  refine Prod.ext rfl ?_
  funext q
  by_cases h : q = a
  · subst h; simp
  · simp [h]
theorem fillJ_s (X : XD) (a k : Nat) (v : Int64) : wJ (fillJ X a k v) a k v = fillJ X a (k + 1) v := by
  unfold fillJ wJ up2
  refine Prod.ext rfl ?_
  funext q j
  by_cases h : q = a
  · subst h
    by_cases hj : j = k
    · subst hj; simp
    · by_cases hk : j < k
      · simp [hj, hk, show j < k + 1 by omega]
      · simp [hj, hk, show ¬ j < k + 1 by omega]
  · simp [h]
theorem fillJ_lp {Z : XS} {a n : Nat} {v : Int64} {X : XD} (hn : n ≤ 1000) (hl : sL Z a = n) : ∀ (d k m : Nat), k + d = n → d < m → fJ7_fill_d0a16_6 Z a m v (Int32.ofNat k) (Int32.ofNat n) (fillJ X a k v) = some ((), fillJ X a n v) := by
  intro d
  induction d with
  | zero =>
    intro k m h1 h2
    obtain ⟨m, rfl⟩ : ∃ q, m = q + 1 := ⟨m - 1, by omega⟩
    rw [fJ7_fill_d0a16_6_s, if_pos]
    · rw [show k = n by omega]
    · rw [show k = n by omega]; exact Int32.le_refl _
  | succ d ih =>
    intro k m h1 h2
    obtain ⟨m, rfl⟩ : ∃ q, m = q + 1 := ⟨m - 1, by omega⟩
    rw [fJ7_fill_d0a16_6_s, if_neg (show ¬ Int32.ofNat n ≤ Int32.ofNat k by rw [o_le (by omega) (by omega)]; omega), hl, gin_o (by omega) (by omega), nm_eq, nm_eq, i32n (by omega), fillJ_s, show Int32.ofNat k + 1 = Int32.ofNat (k + 1) from o_add k 1]
    exact ih (k + 1) m (by omega) (by omega)
theorem fillJ_eq {Z : XS} {a n : Nat} {v : Int64} {X : XD} (hn : n ≤ 1000) (hl : sL Z a = n) : fJ7_fill_d0a16 Z a v X = some ((), fillJ X a n v) := by
  unfold fJ7_fill_d0a16
  rw [nm_eq, hl]
  have := fillJ_lp (v := v) (X := X) hn hl n 0 FU (by omega) (FU_gt (by omega))
  rw [fillJ_0] at this
  exact this
theorem fillJ_o {X : XD} {a n q : Nat} {v : Int64} (h : q ≠ a) : (fillJ X a n v).2 q = X.2 q := if_neg h
theorem fillJ_in {X : XD} {a n j : Nat} {v : Int64} (h : j < n) : (fillJ X a n v).2 a j = v := by
  show (if a = a then fun j => if j < n then v else X.2 a j else X.2 a) j = v
  rw [if_pos rfl, if_pos h]
def LnC (X0 : XD) (N n : Nat) (ln : Nat → Nat) : Prop := X0.1 52 1 = Int32.ofNat N ∧ ∀ j, j < N → X0.1 53 j = Int32.ofNat (ln j) ∧ ln j < n
def LnM (X0 : XD) (N n : Nat) (ln : Nat → Nat) : Prop := X0.1 0 32 = Int32.ofNat N ∧ ∀ j, j < N → X0.1 20 j = Int32.ofNat (ln j) ∧ ln j < n
theorem RB.ln {Z : XS} {Xc Xm : XD} {n m : Nat} {r : Rnd} (h : RB Z Xc Xm n m r) : ∃ N ln, N ≤ 4 ∧ LnC Xc N n ln ∧ LnM Xm N n ln := by
  obtain ⟨⟨h1, N, h2, h3, h4⟩, -⟩ := h.2.2.2.2.2.1
  have hn := h.2.1.1
  refine ⟨N, fun j => (Xm.1 20 j).toNatClampNeg, h2, ⟨h1.trans h3, fun j hj => ?_⟩, h3, fun j hj => ?_⟩
  all_goals
    obtain ⟨a, b, b1, b2⟩ := h4 j hj
    have a : Xc.1 53 j = Xm.1 20 j := a
    first | rw [a, b2] | rw [b2]
    dsimp only
    rw [b2, i32n (by omega)]
    exact ⟨rfl, b1⟩
/-- the class reckons: the chances by how many are in -/
theorem reck_c {Z : XS} {X0 M0 X : XD} {n N : Nat} {r : Rnd} {G : List Cl} {kd vd pl ln : Nat → Nat} (hL : LayC Z) (hLen : LenC Z) (hG : HC X0 G) (hW : Who Z X0 M0 n kd vd) (hn : n ≤ 6) (h0 : X0.1 47 0 = Int32.ofNat n) (hN : N ≤ 4) (hl : LnC X0 N n ln) (hpl : ∀ k, k < N → pl k < N) (hr : RT X0 47 r) (hI : RI n r) (hc : eqC X0 X) (hp : ∀ j, j < N → X.1 155 j = Int32.ofNat (pl j)) : ∃ Y Y', fX11_beginReckoning Z X = some ((), Y) ∧ fX11_spreadN Z 6 0 0 1 Y = some ((), Y') ∧ eqC X0 Y' ∧ Y'.1 155 = X.1 155 ∧ Y'.1 156 = X.1 156 ∧ (∀ q, q ≠ 153 → Y'.2 q = X.2 q) ∧ ∀ j, j < 5 → Y'.2 153 j = Int64.ofNat (Dd G kd vd (shs (fun q => ln (pl q)) 0 N) r 0 1 j) := by
  have h153 : sL Z 153 = 5 := (lay_11_13 hL).2.2.2
  have hcF : eqC X0 (fillJ X 153 5 0) := hc.trans ⟨fun q _ => rfl, fun q hq => fillJ_o (by omega)⟩
  have hrF : RT (fillJ X 153 5 0) 47 r := hr.eq (by rw [hcF.1 47 (by unfold scrC; omega)]) (by rw [hcF.1 47 (by unfold scrC; omega)]) (fun k a b => hcF.1 _ (by unfold scrC; omega))
  obtain ⟨Y, y1, y2, y3, y4, y5⟩ := sup_c (Z := Z) hrF
  have p155 : Y.1 155 = X.1 155 := y5 155 (by decide)
  obtain ⟨Y', z1, z2, z3, z4, z5, z6, z7⟩ := spread_c hL hLen hG hW hn h0 hN hl.1 hl.2 hpl N 0 6 0 1 r Y (by omega) (by omega) (Nat.le_refl _) (hcF.trans y3) (fun j hj => by rw [p155]; exact hp j hj) y2 hI
  refine ⟨Y, Y', ?_, z1, z2, by rw [z3, p155], by rw [z4]; exact y5 156 (by decide), fun q hq => by rw [z5 q hq, y4]; exact fillJ_o hq, fun j hj => ?_⟩
  · unfold fX11_beginReckoning
    rw [bnw_of (fillJ_eq (by decide) h153), bnw_of y1]
  · rw [z7 j hj, y4, fillJ_in hj, Int64.zero_add]
/-- the reference lays the parts -/
theorem lay_m {M0 : XD} {n N : Nat} {r : Rnd} {G : List Cl} {kd vd pl ln : Nat → Nat} (hM : HM M0 G) (hW : ∀ i, i < n → MK M0 i (kd i) (vd i)) (hn : n ≤ 6) (hN : N ≤ 4) (hl : LnM M0 N n ln) (hpl : ∀ k, k < N → M0.1 21 k = Int32.ofNat (pl k) ∧ pl k < N) (hI : RI n r) (hr : RM M0 n r) : ∃ Y, fX12_layParts M0 = some ((), Y) ∧ eqA M0 Y ∧ RM Y n r ∧ (∀ q, q ≠ 23 → Y.2 q = M0.2 q) ∧ ∀ j, j < 5 → Y.2 23 j = Int64.ofNat (Dd G kd vd (shs (fun q => ln (pl q)) 0 N) r 0 1 j) := by
  have zero : ∀ (d i m : Nat), i + d = 5 → d < m → fX12_layParts_2 m (Int32.ofNat i) (fillJ M0 23 i 0) = fX12_layParts_22 FU 0 (fillJ M0 23 5 0) := by
    intro d
    induction d with
    | zero =>
      intro i m h1 h2
      obtain ⟨m, rfl⟩ : ∃ q, m = q + 1 := ⟨m - 1, by omega⟩
      rw [fX12_layParts_2_s, if_pos (show (5 : Int32) ≤ Int32.ofNat i from (o_le (a := 5) (by omega) (by omega)).mpr (by omega)), show i = 5 by omega]
    | succ d ih =>
      intro i m h1 h2
      obtain ⟨m, rfl⟩ : ∃ q, m = q + 1 := ⟨m - 1, by omega⟩
      rw [fX12_layParts_2_s, if_neg (show ¬ (5 : Int32) ≤ Int32.ofNat i from fun z => by have := (o_le (a := 5) (by omega) (by omega)).mp z; omega), gin_o (by omega) (by omega), nm_eq, nm_eq, i32n (by omega), fillJ_s, show Int32.ofNat i + 1 = Int32.ofNat (i + 1) from o_add i 1]
      exact ih (i + 1) m (by omega) (by omega)
  have e0 := zero 5 0 FU rfl (FU_gt (by decide))
  rw [fillJ_0] at e0
  obtain ⟨Y, y1, y2, y3, y4, y5⟩ := ways_m hM hW hn hN hl.1 hl.2 hpl hI (2 ^ N) 0 FU (fillJ M0 23 5 0) (by omega) (FU_gt (by rcases (show N = 0 ∨ N = 1 ∨ N = 2 ∨ N = 3 ∨ N = 4 by omega) with rfl | rfl | rfl | rfl | rfl <;> decide)) ⟨fun q _ _ _ _ _ => rfl, fun k _ _ _ _ => rfl⟩ (hr.eq rfl rfl (fun k _ _ => rfl))
  refine ⟨Y, ?_, y2, y3, fun q hq => by rw [y4 q hq]; exact fillJ_o hq, fun j hj => ?_⟩
  · unfold fX12_layParts
    exact e0.trans y1
  · have := y5 j hj
    rw [fillJ_in hj, Int64.zero_add] at this
    rw [← this]
    show _ = _ + Int64.ofNat 0
    rw [show Int64.ofNat 0 = 0 from rfl, Int64.add_zero]
theorem hun_c {Z : XS} {X : XD} {n : Nat} (hn : n ≤ 8) : fX11_hundreds Z (Int32.ofNat n) X = some (Int64.ofNat (100 ^ n)) := by
  have lp : ∀ (d i m acc : Nat), i + d = n → d < m → fX11_hundreds_4 Z m (Int32.ofNat n) (Int64.ofNat acc) (Int32.ofNat i) X = some (Int64.ofNat (acc * 100 ^ d)) := by
    intro d
    induction d with
    | zero =>
      intro i m acc h1 h2
      obtain ⟨m, rfl⟩ : ∃ q, m = q + 1 := ⟨m - 1, by omega⟩
      rw [fX11_hundreds_4_s, if_pos ((o_le (by omega) (by omega)).mpr (by omega)), Nat.pow_zero, Nat.mul_one]
    | succ d ih =>
      intro i m acc h1 h2
      obtain ⟨m, rfl⟩ : ∃ q, m = q + 1 := ⟨m - 1, by omega⟩
      rw [fX11_hundreds_4_s, if_neg (show ¬ Int32.ofNat n ≤ Int32.ofNat i by rw [o_le (by omega) (by omega)]; omega), nm_eq, nm_eq, show Int64.ofNat acc * 100 = Int64.ofNat (acc * 100) from l_mul acc 100, show Int32.ofNat i + 1 = Int32.ofNat (i + 1) from o_add i 1, ih (i + 1) m (acc * 100) (by omega) (by omega), Nat.pow_succ, Nat.mul_assoc, Nat.mul_comm 100]
  have := lp n 0 FU 1 (by omega) (FU_gt (by omega))
  rw [Nat.one_mul] at this
  unfold fX11_hundreds
  exact this
theorem hun_m {X : XD} {n : Nat} (hn : n ≤ 8) : fX12_hundreds (Int32.ofNat n) X = some (Int64.ofNat (100 ^ n)) := by
  have lp : ∀ (d i m acc : Nat), i + d = n → d < m → fX12_hundreds_5 m (Int32.ofNat n) (Int64.ofNat acc) (Int32.ofNat i) X = some (Int64.ofNat (acc * 100 ^ d)) := by
    intro d
    induction d with
    | zero =>
      intro i m acc h1 h2
      obtain ⟨m, rfl⟩ : ∃ q, m = q + 1 := ⟨m - 1, by omega⟩
      rw [fX12_hundreds_5_s, if_pos ((o_le (by omega) (by omega)).mpr (by omega)), Nat.pow_zero, Nat.mul_one]
    | succ d ih =>
      intro i m acc h1 h2
      obtain ⟨m, rfl⟩ : ∃ q, m = q + 1 := ⟨m - 1, by omega⟩
      rw [fX12_hundreds_5_s, if_neg (show ¬ Int32.ofNat n ≤ Int32.ofNat i by rw [o_le (by omega) (by omega)]; omega), nm_eq, nm_eq, show Int64.ofNat acc * 100 = Int64.ofNat (acc * 100) from l_mul acc 100, show Int32.ofNat i + 1 = Int32.ofNat (i + 1) from o_add i 1, ih (i + 1) m (acc * 100) (by omega) (by omega), Nat.pow_succ, Nat.mul_assoc, Nat.mul_comm 100]
  have := lp n 0 FU 1 (by omega) (FU_gt (by omega))
  rw [Nat.one_mul] at this
  unfold fX12_hundreds
  exact this
def eqB (X Y : XD) : Prop := (∀ q, q ≠ 0 → q ≠ 3 → q ≠ 4 → q ≠ 5 → ¬ scrM q → Y.1 q = X.1 q) ∧ (∀ k, k ≠ 1 → k ≠ 2 → k ≠ 27 → k ≠ 28 → Y.1 0 k = X.1 0 k) ∧ Y.2 41 = X.2 41
theorem eqB.rfl {X : XD} : eqB X X := ⟨fun _ _ _ _ _ _ => Eq.refl _, fun _ _ _ _ _ => Eq.refl _, Eq.refl _⟩
theorem eqB.trans {X Y Z : XD} (h : eqB X Y) (h2 : eqB Y Z) : eqB X Z := ⟨fun q a b c d e => (h2.1 q a b c d e).trans (h.1 q a b c d e), fun k a b c d => (h2.2.1 k a b c d).trans (h.2.1 k a b c d), h2.2.2.trans h.2.2⟩
theorem eqA.B {X Y : XD} (h : eqA X Y) (h2 : Y.2 41 = X.2 41) : eqB X Y := ⟨fun q a b c d e => h.1 q a b c d (by unfold scrM at e; omega), h.2, h2⟩
theorem RB.backB {Z : XS} {Xc Xm Yc Ym : XD} {n m : Nat} {r : Rnd} (h : RB Z Xc Xm n m r) (hc : eqC Xc Yc) (hm : eqB Xm Ym) (hr : RM Ym n r) : RB Z Yc Ym n m r := by
  have c : ∀ i, ¬ scrC i → Yc.1 i = Xc.1 i := hc.1
  refine h.rd ⟨h.2.2.1.1.eq (by rw [c 47 (by unfold scrC; omega)]) (by rw [c 47 (by unfold scrC; omega)]) (fun k a b => c _ (by unfold scrC; omega)), hr, h.2.2.1.2.2⟩ (fun i _ _ _ _ _ hs => c i hs) (fun k _ _ => by rw [c 47 (by unfold scrC; omega)]) hc.2 (fun q q0 q3 q4 q5 _ qs => hm.1 q q0 q3 q4 q5 qs) (fun j a b c d => hm.2.1 j a b c d) hm.2.2
theorem HM.b {X Y : XD} (h : eqB X Y) {G : List Cl} (z : HM X G) : HM Y G := z.eq (h.2.1 10 (by decide) (by decide) (by decide) (by decide)) (h.1 _ (by decide) (by decide) (by decide) (by decide) (by unfold scrM; omega)) (h.1 _ (by decide) (by decide) (by decide) (by decide) (by unfold scrM; omega)) (h.1 _ (by decide) (by decide) (by decide) (by decide) (by unfold scrM; omega)) (h.1 _ (by decide) (by decide) (by decide) (by decide) (by unfold scrM; omega)) (h.1 _ (by decide) (by decide) (by decide) (by decide) (by unfold scrM; omega)) (h.1 _ (by decide) (by decide) (by decide) (by decide) (by unfold scrM; omega))
theorem MK.b {X Y : XD} {i k v : Nat} (h : MK X i k v) (q : eqB X Y) : MK Y i k v := ⟨h.1, h.2.1, by rw [q.1 1 (by decide) (by decide) (by decide) (by decide) (by unfold scrM; omega)]; exact h.2.2.1, by rw [q.1 2 (by decide) (by decide) (by decide) (by decide) (by unfold scrM; omega)]; exact h.2.2.2⟩
theorem LnM.b {X Y : XD} {N n : Nat} {ln : Nat → Nat} (h : LnM X N n ln) (q : eqB X Y) : LnM Y N n ln := ⟨by rw [q.2.1 32 (by decide) (by decide) (by decide) (by decide)]; exact h.1, fun j hj => by rw [q.1 20 (by decide) (by decide) (by decide) (by decide) (by unfold scrM; omega)]; exact h.2 j hj⟩
/-- both reckon the line in its order: the same parts -/
theorem line_both {Z : XS} {Xc Xm : XD} {n m : Nat} {r : Rnd} (h : RB Z Xc Xm n m r) : ∃ (N : Nat) (P : Nat → Nat) (Yc Ym : XD), N ≤ 4 ∧ Xc.1 52 1 = Int32.ofNat N ∧ (∀ j, P j ≤ 100 ^ N) ∧ (∀ j, N < j → P j = 0) ∧ fX11_reckonLine Z Xc = some ((), Yc) ∧ fX12_layInOrder Xm = some ((), Ym) ∧ eqC Xc Yc ∧ eqB Xm Ym ∧ RM Ym n r ∧ Yc.1 52 1 = Int32.ofNat N ∧ Ym.1 0 32 = Int32.ofNat N ∧ (∀ j, j < 5 → Yc.2 153 j = Int64.ofNat (P j)) ∧ ∀ j, j < 5 → Ym.2 23 j = Int64.ofNat (P j) := by
  have hn := h.2.1.1
  obtain ⟨N, ln, hN, hlc, hlm⟩ := h.ln
  obtain ⟨G, g1, g2⟩ := h.ask
  have hW := h.2.1.who
  have cl : ∀ (d i q : Nat) (X : XD), i + d = 4 → d < q → eqC Xc X → (∀ j, j < i → X.1 155 j = Int32.ofNat j) → ∃ X', (∀ j, j < 4 → X'.1 155 j = Int32.ofNat j) ∧ eqC Xc X' ∧ fX11_reckonLine_2 Z q (Int32.ofNat i) X = bnw (fX11_beginReckoning Z X') (fun _ X_3 => bnw (fX11_spreadN Z 6 0 0 1 X_3) (fun _ X_6 => some ((), X_6))) := by
    intro d
    induction d with
    | zero =>
      intro i q X h1 h2 h3 h4
      obtain ⟨q, rfl⟩ : ∃ p, q = p + 1 := ⟨q - 1, by omega⟩
      refine ⟨X, fun j hj => h4 j (by omega), h3, ?_⟩
      rw [fX11_reckonLine_2_s, if_pos (show (4 : Int32) ≤ Int32.ofNat i from (o_le (a := 4) (by omega) (by omega)).mpr (by omega))]
    | succ d ih =>
      intro i q X h1 h2 h3 h4
      obtain ⟨q, rfl⟩ : ∃ p, q = p + 1 := ⟨q - 1, by omega⟩
      obtain ⟨X', k1, k2, k3⟩ := ih (i + 1) q (wI X 155 i (Int32.ofNat i)) (by omega) (by omega) (h3.trans ⟨fun q hq => wI_c (by unfold scrC at hq; omega), fun q _ => rfl⟩) (fun j hj => by
        by_cases e : j = i
        · subst e; rw [wI_s]
        · rw [wI_k e]; exact h4 j (by omega))
      refine ⟨X', k1, k2, ?_⟩
      rw [fX11_reckonLine_2_s, if_neg (show ¬ (4 : Int32) ≤ Int32.ofNat i from fun z => by have := (o_le (a := 4) (by omega) (by omega)).mp z; omega), gin_o (by omega) (by omega), nm_eq, nm_eq, i32n (by omega), show Int32.ofNat i + 1 = Int32.ofNat (i + 1) from o_add i 1]
      exact k3
  obtain ⟨X', k1, k2, k3⟩ := cl 4 0 FU Xc rfl (FU_gt (by decide)) eqC.rfl (fun j hj => absurd hj (Nat.not_lt_zero j))
  obtain ⟨Y, Y', y1, y2, y3, y4, y5, y6, y7⟩ := reck_c (pl := fun k => k) (ln := ln) h.1.1 h.1.2.2 g1 hW hn h.2.1.2.1 hN hlc (fun k hk => hk) h.2.2.1.1 h.2.2.1.2.2 k2 (fun j hj => k1 j (by omega))
  have ml : ∀ (d i q : Nat) (X : XD), i + d = 4 → d < q → (∀ p, p ≠ 21 → X.1 p = Xm.1 p) → X.2 = Xm.2 → (∀ j, j < i → X.1 21 j = Int32.ofNat j) → ∃ X', (∀ j, j < 4 → X'.1 21 j = Int32.ofNat j) ∧ (∀ p, p ≠ 21 → X'.1 p = Xm.1 p) ∧ X'.2 = Xm.2 ∧ fX12_layInOrder_2 q (Int32.ofNat i) X = bnw (fX12_layParts X') (fun _ X_3 => some ((), X_3)) := by
    intro d
    induction d with
    | zero =>
      intro i q X h1 h2 h3 h5 h4
      obtain ⟨q, rfl⟩ : ∃ p, q = p + 1 := ⟨q - 1, by omega⟩
      refine ⟨X, fun j hj => h4 j (by omega), h3, h5, ?_⟩
      rw [fX12_layInOrder_2_s, if_pos (show (4 : Int32) ≤ Int32.ofNat i from (o_le (a := 4) (by omega) (by omega)).mpr (by omega))]
    | succ d ih =>
      intro i q X h1 h2 h3 h5 h4
      obtain ⟨q, rfl⟩ : ∃ p, q = p + 1 := ⟨q - 1, by omega⟩
      obtain ⟨X', k1, k2, k4, k3⟩ := ih (i + 1) q (wI X 21 i (Int32.ofNat i)) (by omega) (by omega) (fun p hp => by rw [wI_c hp]; exact h3 p hp) h5 (fun j hj => by
        by_cases e : j = i
        · subst e; rw [wI_s]
        · rw [wI_k e]; exact h4 j (by omega))
      refine ⟨X', k1, k2, k4, ?_⟩
      rw [fX12_layInOrder_2_s, if_neg (show ¬ (4 : Int32) ≤ Int32.ofNat i from fun z => by have := (o_le (a := 4) (by omega) (by omega)).mp z; omega), gin_o (by omega) (by omega), nm_eq, nm_eq, i32n (by omega), show Int32.ofNat i + 1 = Int32.ofNat (i + 1) from o_add i 1]
      exact k3
  obtain ⟨M', m1, m2, m4, m3⟩ := ml 4 0 FU Xm rfl (FU_gt (by decide)) (fun p _ => rfl) rfl (fun j hj => absurd hj (Nat.not_lt_zero j))
  have hB : eqB Xm M' := ⟨fun q _ _ _ _ e => m2 q (by unfold scrM at e; omega), fun k _ _ _ _ => by rw [m2 0 (by decide)], by rw [m4]⟩
  obtain ⟨V, v1, v2, v3, v4, v5⟩ := lay_m (pl := fun k => k) (ln := ln) (g2.2.2.2.b hB) (fun i hi => by obtain ⟨o, -, -, c⟩ := hW i hi; exact c.b hB) hn hN (hlm.b hB) (fun k hk => ⟨m1 k (by omega), hk⟩) h.2.2.1.2.2 (h.2.2.1.2.1.eq (by rw [m2 0 (by decide)]) (by rw [m2 0 (by decide)]) (fun k a b => m2 k (by omega)))
  have hBV := hB.trans (v2.B (v4 41 (by decide)))
  refine ⟨N, _, Y', V, hN, hlc.1, fun j => ?_, fun j hj => ?_, ?_, ?_, y3, hBV, v3, ?_, ?_, y7, v5⟩
  · have := Dd_le (G := G) (kd := fun i => (Xm.1 1 i).toNatClampNeg) (vd := fun i => (Xm.1 2 i).toNatClampNeg) (shs (fun q => ln q) 0 N) r 0 1 j
    rw [shs_len, Nat.one_mul] at this
    exact this
  · exact Dd_hi _ _ _ _ _ (by rw [shs_len]; omega)
  · unfold fX11_reckonLine
    exact k3.trans (by rw [bnw_of y1, bnw_of y2])
  · unfold fX12_layInOrder
    exact m3.trans (by rw [bnw_of v1])
  · rw [y3.1 52 (by unfold scrC; omega)]; exact hlc.1
  · rw [hBV.2.1 32 (by decide) (by decide) (by decide) (by decide)]; exact hlm.1
theorem pow100 {N : Nat} (h : N ≤ 8) : 100 ^ N ≤ 10000000000000000 ∧ 0 < 100 ^ N := by
  rcases (show N = 0 ∨ N = 1 ∨ N = 2 ∨ N = 3 ∨ N = 4 ∨ N = 5 ∨ N = 6 ∨ N = 7 ∨ N = 8 by omega) with rfl | rfl | rfl | rfl | rfl | rfl | rfl | rfl | rfl <;> decide
theorem st13 : St13 Rel := by
  intro Z Xc Xm a1 a2 ⟨n, m, r, h⟩
  unfold fX11_likely fX12_likely
  rcases rng a1 (k := 4) (by decide) with hr | ⟨g, hg, rfl⟩
  · rw [bnd_of (show fX12_in a1 0 4 Xm = some 0 from in_0 hr), if_pos rfl]
    by_cases z : a1 < 0
    · rw [if_pos z]
      exact h.fin rfl rfl eqC.rfl eqM.rfl
    · rw [if_neg z, if_pos (show (4 : Int32) < a1 from hr.resolve_left z)]
      exact h.fin rfl rfl eqC.rfl eqM.rfl
  rw [bnd_of (show fX12_in (Int32.ofNat g) 0 4 Xm = some 1 from in_1 (hi := 4) hg (by decide)), if_neg ne10, if_neg (o_ge0 (by omega)), if_neg (show ¬ (4 : Int32) < Int32.ofNat g from fun z => by have := (o_lt (a := 4) (by omega) (by omega)).mp z; omega)]
  rcases half_cases (Z := Z) a2 with ⟨-, s1, s2⟩ | ⟨hs, s1, s2⟩
  · rw [bnd_of (s1 _), bnd_of (s2 _)]
    exact h.fin rfl rfl eqC.rfl eqM.rfl
  rw [bnd_of (s1 _), bnd_of (s2 _), if_neg ne10, if_neg ne10]
  obtain ⟨N, P, Yc, Ym, hN, -, hP, -, y1, y2, y3, y4, y5, y6, y7, y8, y9⟩ := line_both h
  have hp := pow100 (show N ≤ 8 by omega)
  obtain ⟨q, e1, e2⟩ := low_both (Z := Z) (Xc := Yc) (Xm := Ym) (x := a2) (a := P g) (b := 100 ^ N) (by have := hP g; omega) hp.2 (by omega)
  rw [bnw_of y1, bnw_of y2, if_neg (show ¬ (5 : Int32) ≤ Int32.ofNat g from fun z => by have := (o_le (a := 5) (by omega) (by omega)).mp z; omega), gin_o (by omega) (by omega), gin_o (by omega) (by omega), y6, y7, bnd_of (hun_c (by omega)), bnd_of (hun_m (by omega)), i32n (by omega), y8 g (by omega), y9 g (by omega), bnd_of e1, bnd_of e2]
  exact ⟨_, _, _, rfl, rfl, n, m, r, h.backB y3 y4 y5⟩
