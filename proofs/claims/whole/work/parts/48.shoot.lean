set_option maxHeartbeats 40000000
set_option maxRecDepth 100000
/-! a shot: addShot of the class, goes of the reference -/
theorem setN_s {f : Nat → Nat} {i v : Nat} : setN f i v i = v := if_pos rfl
theorem setN_o {f : Nat → Nat} {i v j : Nat} (h : j ≠ i) : setN f i v j = f j := if_neg h
theorem put_row {X : XD} {a i N : Nat} {f : Nat → Nat} {v : Nat} (h : ∀ j, j < N → X.1 a j = Int32.ofNat (f j)) : ∀ j, j < N → (wI X a i (Int32.ofNat v)).1 a j = Int32.ofNat (setN f i v j) := by
  intro j hj
  by_cases e : j = i
  · subst e; rw [wI_s, setN_s]
  · rw [wI_k e, setN_o e]; exact h j hj
theorem addShot_c {Z : XS} {X : XD} {t n i s : Nat} {b : Bool} {r : Rnd} (h : RT X t r) (hI : RI n r) (hi : i < 6) : ∃ Y, fX6_addShot Z t (Int32.ofNat i) (Int32.ofNat s) (b2 b) X = some ((), Y) ∧ RT Y t (rGo r i s b) ∧ Y.2 = X.2 ∧ (∀ q, q ≠ t → q ≠ t + 1 → q ≠ t + 2 → q ≠ t + 3 → Y.1 q = X.1 q) ∧ ∀ k, k ≠ 2 → k ≠ 3 → Y.1 t k = X.1 t k := by
  have b1 := hI.2.1 i
  have b3 := hI.2.2.1 i
  have b4 := hI.2.2.2.2.1
  have b5 := hI.2.2.2.2.2.1
  obtain ⟨a1, a2, a3, a4, a5, a6⟩ := h
  unfold fX6_addShot
  rw [if_neg (o_ge0 (by omega)), if_pos (show Int32.ofNat i < (6 : Int32) from (o_lt (b := 6) (by omega) (by omega)).mpr (by omega))]
  simp only [nm_eq]
  simp only [gin_o hi (show i < 2147483648 by omega), i32n (show i < 2147483648 by omega)]
  rw [wI_c (show t + 2 ≠ t + 1 by omega), a2 i hi, more_c b1, wI_c (show t ≠ t + 2 by omega), wI_c (show t ≠ t + 1 by omega), a5, more_c b4]
  have r1 := put_row (i := i) (v := s) a1
  have r2 := put_row (i := i) (v := more (rS r i)) a2
  have r3 := put_row (i := i) (v := more (rG r i)) a3
  cases b with
  | false =>
    rw [if_pos (show b2 false = 0 by decide)]
    refine ⟨_, rfl, ⟨fun j hj => ?_, fun j hj => ?_, fun j hj => ?_, fun j hj => ?_, ?_, ?_⟩, rfl, fun q q0 q1 q2 q3 => ?_, fun k k2 k3 => ?_⟩
    · rw [wI_c (by omega), wI_c (by omega)]; exact r1 j hj
    · rw [wI_c (by omega)]; refine Eq.trans ?_ (r2 j hj)
      by_cases e : j = i
      · subst e; rw [wI_s, wI_s]
      · rw [wI_k e, wI_k e, wI_k e]
    · rw [wI_c (by omega), wI_c (by omega), wI_c (by omega)]; exact a3 j hj
    · rw [wI_c (by omega), wI_c (by omega), wI_c (by omega)]; exact a4 j hj
    · rw [wI_s]; rfl
    · rw [wI_k (by decide), wI_c (by omega), wI_c (by omega)]; exact a6
    · rw [wI_c (by omega), wI_c (by omega), wI_c (by omega)]
    · rw [wI_k k2, wI_c (by omega), wI_c (by omega)]
  | true =>
    rw [if_neg (show ¬ b2 true = 0 by decide)]
    rw [wI_c (show t + 3 ≠ t by omega), wI_c (show t + 3 ≠ t + 2 by omega), wI_c (show t + 3 ≠ t + 1 by omega), a3 i hi, more_c b3, wI_c (show t ≠ t + 3 by omega), wI_k (show 3 ≠ 2 by decide), wI_c (show t ≠ t + 2 by omega), wI_c (show t ≠ t + 1 by omega), a6, more_c b5]
    refine ⟨_, rfl, ⟨fun j hj => ?_, fun j hj => ?_, fun j hj => ?_, fun j hj => ?_, ?_, ?_⟩, rfl, fun q q0 q1 q2 q3 => ?_, fun k k2 k3 => ?_⟩
    · rw [wI_c (by omega), wI_c (by omega), wI_c (by omega), wI_c (by omega)]; exact r1 j hj
    · rw [wI_c (by omega), wI_c (by omega), wI_c (by omega)]; refine Eq.trans ?_ (r2 j hj)
      by_cases e : j = i
      · subst e; rw [wI_s, wI_s]
      · rw [wI_k e, wI_k e, wI_k e]
    · rw [wI_c (by omega)]
      show _ = Int32.ofNat (setN (rG r) i (more (rG r i)) j)
      refine Eq.trans ?_ (r3 j hj)
      by_cases e : j = i
      · subst e; rw [wI_s, wI_s]
      · rw [wI_k e, wI_k e, wI_c (by omega), wI_c (by omega), wI_c (by omega)]
    · rw [wI_c (by omega), wI_c (by omega), wI_c (by omega), wI_c (by omega), wI_c (by omega)]; exact a4 j hj
    · rw [wI_k (by decide), wI_c (by omega), wI_s]; rfl
    · rw [wI_s]; rfl
    · rw [wI_c (by omega), wI_c (by omega), wI_c (by omega), wI_c (by omega), wI_c (by omega)]
    · rw [wI_k k3, wI_c (by omega), wI_k k2, wI_c (by omega), wI_c (by omega)]
/-- what a shot of the reference changes -/
def eqG (X Y : XD) : Prop := Y.2 = X.2 ∧ (∀ q, q ≠ 0 → q ≠ 3 → q ≠ 4 → q ≠ 5 → q ≠ 16 → Y.1 q = X.1 q) ∧ ∀ k, k ≠ 1 → k ≠ 2 → Y.1 0 k = X.1 0 k
theorem eqG.rfl {X : XD} : eqG X X := ⟨Eq.refl _, fun _ _ _ _ _ _ => Eq.refl _, fun _ _ _ => Eq.refl _⟩
theorem eqG.trans {X Y Z : XD} (h : eqG X Y) (h2 : eqG Y Z) : eqG X Z := ⟨h2.1.trans h.1, fun q a b c d e => (h2.2.1 q a b c d e).trans (h.2.1 q a b c d e), fun k a b => (h2.2.2 k a b).trans (h.2.2 k a b)⟩
theorem eqP.G {X Y : XD} (h : eqP X Y) : eqG X Y := ⟨h.1, fun q _ _ _ _ e => h.2 q e, fun k _ _ => by rw [h.2 0 (by decide)]⟩
theorem HM.g {X Y : XD} (h : eqG X Y) {G : List Cl} (z : HM X G) : HM Y G := z.eq (h.2.2 10 (by decide) (by decide)) (h.2.1 _ (by decide) (by decide) (by decide) (by decide) (by decide)) (h.2.1 _ (by decide) (by decide) (by decide) (by decide) (by decide)) (h.2.1 _ (by decide) (by decide) (by decide) (by decide) (by decide)) (h.2.1 _ (by decide) (by decide) (by decide) (by decide) (by decide)) (h.2.1 _ (by decide) (by decide) (by decide) (by decide) (by decide)) (h.2.1 _ (by decide) (by decide) (by decide) (by decide) (by decide))
theorem MK.g {X Y : XD} {i k v : Nat} (h : MK X i k v) (q : eqG X Y) : MK Y i k v := ⟨h.1, h.2.1, by rw [q.2.1 1 (by decide) (by decide) (by decide) (by decide) (by decide)]; exact h.2.2.1, by rw [q.2.1 2 (by decide) (by decide) (by decide) (by decide) (by decide)]; exact h.2.2.2⟩
theorem go_m {X : XD} {n i k v : Nat} {r : Rnd} {G : List Cl} {b : Bool} (h : MA X n r G) (hi : i < n) (hk : MK X i k v) : ∃ Y, fX12_goes (Int32.ofNat i) (b2 b) X = some (Int32.ofNat (aiA r i k v G), Y) ∧ MA Y n (rGo r i (aiA r i k v G) b) G ∧ eqG X Y := by
  have hn := h.1
  have hI := h.2.2.1
  obtain ⟨W, w1, w2⟩ := ai_m h hi hk
  obtain ⟨c0, c1, c2, c3⟩ := h.p w2
  obtain ⟨a1, a2, a3, a4, a5, a6⟩ := c1
  have d1 := hI.2.1 i
  have d3 := hI.2.2.1 i
  have d4 := hI.2.2.2.2.1
  have d5 := hI.2.2.2.2.2.1
  have r1 := put_row (i := i) (v := aiA r i k v G) a1
  have r2 := put_row (i := i) (v := more (rS r i)) a2
  have r3 := put_row (i := i) (v := more (rG r i)) a3
  have hI2 := rGo_I (s := aiA r i k v G) (b := b) hI hi (aiA_le hI)
  unfold fX12_goes
  rw [bnw_of w1]
  have g6 : ∀ {α : Type} (x : Option α), gin (Int32.ofNat i) 6 x = x := fun x => gin_o (by omega) (by omega)
  simp only [g6, nm_eq]
  rw [i32n (by omega), wI_c (show 4 ≠ 3 by decide), a2 i hi, bnd_of (more_m d1), wI_c (show 0 ≠ 4 by decide), wI_c (show 0 ≠ 3 by decide), a5, bnd_of (more_m d4)]
  cases b with
  | false =>
    rw [if_pos (show b2 false = 0 by decide)]
    refine ⟨_, rfl, ⟨hn, ⟨fun j hj => ?_, fun j hj => ?_, fun j hj => ?_, fun j hj => ?_, ?_, ?_⟩, hI2, ?_⟩, w2.G.trans ⟨rfl, fun q q0 q3 q4 q5 q16 => ?_, fun k k1 k2 => ?_⟩⟩
    · rw [wI_c (by decide), wI_c (by decide)]; exact r1 j hj
    · rw [wI_c (by decide)]; refine Eq.trans ?_ (r2 j hj)
      by_cases e : j = i
      · subst e; rw [wI_s, wI_s]
      · rw [wI_k e, wI_k e, wI_k e]
    · rw [wI_c (by decide), wI_c (by decide), wI_c (by decide)]; exact a3 j hj
    · rw [wI_c (by decide), wI_c (by decide), wI_c (by decide)]; exact a4 j hj
    · rw [wI_s]; rfl
    · rw [wI_k (by decide), wI_c (by decide), wI_c (by decide)]; exact a6
    · refine HM.g (?_ : eqG W _) c3
      refine ⟨rfl, fun q q0 q3 q4 q5 q16 => ?_, fun k k1 k2 => ?_⟩
      · rw [wI_c q0, wI_c q4, wI_c q3]
      · rw [wI_k k1, wI_c (by decide), wI_c (by decide)]
    · rw [wI_c q0, wI_c q4, wI_c q3]
    · rw [wI_k k1, wI_c (by decide), wI_c (by decide)]
  | true =>
    rw [if_neg (show ¬ b2 true = 0 by decide)]
    rw [wI_c (show 5 ≠ 0 by decide), wI_c (show 5 ≠ 4 by decide), wI_c (show 5 ≠ 3 by decide), a3 i hi, bnd_of (more_m d3), wI_c (show 0 ≠ 5 by decide), wI_k (show 2 ≠ 1 by decide), wI_c (show 0 ≠ 4 by decide), wI_c (show 0 ≠ 3 by decide), a6, bnd_of (more_m d5)]
    refine ⟨_, rfl, ⟨hn, ⟨fun j hj => ?_, fun j hj => ?_, fun j hj => ?_, fun j hj => ?_, ?_, ?_⟩, hI2, ?_⟩, w2.G.trans ⟨rfl, fun q q0 q3 q4 q5 q16 => ?_, fun k k1 k2 => ?_⟩⟩
    · rw [wI_c (by decide), wI_c (by decide), wI_c (by decide), wI_c (by decide)]; exact r1 j hj
    · rw [wI_c (by decide), wI_c (by decide), wI_c (by decide)]; refine Eq.trans ?_ (r2 j hj)
      by_cases e : j = i
      · subst e; rw [wI_s, wI_s]
      · rw [wI_k e, wI_k e, wI_k e]
    · rw [wI_c (by decide)]
      show _ = Int32.ofNat (setN (rG r) i (more (rG r i)) j)
      refine Eq.trans ?_ (r3 j hj)
      by_cases e : j = i
      · subst e; rw [wI_s, wI_s]
      · rw [wI_k e, wI_k e, wI_c (by decide), wI_c (by decide), wI_c (by decide)]
    · rw [wI_c (by decide), wI_c (by decide), wI_c (by decide), wI_c (by decide), wI_c (by decide)]; exact a4 j hj
    · rw [wI_k (by decide), wI_c (by decide), wI_s]; rfl
    · rw [wI_s]; rfl
    · refine HM.g (?_ : eqG W _) c3
      refine ⟨rfl, fun q q0 q3 q4 q5 q16 => ?_, fun k k1 k2 => ?_⟩
      · rw [wI_c q0, wI_c q5, wI_c q0, wI_c q4, wI_c q3]
      · rw [wI_k k2, wI_c (by decide), wI_k k1, wI_c (by decide), wI_c (by decide)]
    · rw [wI_c q0, wI_c q5, wI_c q0, wI_c q4, wI_c q3]
    · rw [wI_k k2, wI_c (by decide), wI_k k1, wI_c (by decide), wI_c (by decide)]
/-- a new round -/
theorem RB.rd {Z : XS} {Xc Xm Yc Ym : XD} {n m : Nat} {r r2 : Rnd} (h : RB Z Xc Xm n m r) (hr : RRd Yc Ym n r2) (c : ∀ i, i ≠ 47 → i ≠ 48 → i ≠ 49 → i ≠ 50 → i ≠ 51 → ¬ scrC i → Yc.1 i = Xc.1 i) (c47 : ∀ k, k ≠ 2 → k ≠ 3 → Yc.1 47 k = Xc.1 47 k) (cj : ∀ i, i < 153 → Yc.2 i = Xc.2 i) (k : ∀ q, q ≠ 0 → q ≠ 3 → q ≠ 4 → q ≠ 5 → q ≠ 6 → ¬ scrM q → Ym.1 q = Xm.1 q) (k0 : ∀ j, j ≠ 1 → j ≠ 2 → j ≠ 27 → j ≠ 28 → Ym.1 0 j = Xm.1 0 j) (kj : Ym.2 41 = Xm.2 41) : RB Z Yc Ym n m r2 := by
  obtain ⟨h1, h2, h3, h4, h5, h6, h7, h8, h9, h10⟩ := h
  have c0 : Yc.1 0 = Xc.1 0 := c 0 (by decide) (by decide) (by decide) (by decide) (by decide) (by unfold scrC; omega)
  refine ⟨h1, ?_, hr, ?_, ?_, ?_, ?_, ?_, ?_, ?_⟩
  · exact h2.eq (c47 0 (by decide) (by decide)) (fun o ho => c o (by omega) (by omega) (by omega) (by omega) (by omega) (by unfold scrC; omega)) (k0 _ (by decide) (by decide) (by decide) (by decide)) (k _ (by decide) (by decide) (by decide) (by decide) (by decide) (by unfold scrM; omega)) (k _ (by decide) (by decide) (by decide) (by decide) (by decide) (by unfold scrM; omega))
  · exact h4.eq (by rw [c0]) (c47 1 (by decide) (by decide)) (fun i a b d => c _ (by omega) (by omega) (by omega) (by omega) (by omega) (by unfold scrC; omega)) (k0 _ (by decide) (by decide) (by decide) (by decide)) (k0 _ (by decide) (by decide) (by decide) (by decide)) (fun q a b => k _ (by omega) (by omega) (by omega) (by omega) (by omega) (by unfold scrM; omega))
  · unfold RTx at h5 ⊢
    rw [c 45 (by decide) (by decide) (by decide) (by decide) (by decide) (by unfold scrC; omega), c 46 (by decide) (by decide) (by decide) (by decide) (by decide) (by unfold scrC; omega), k0 11 (by decide) (by decide) (by decide) (by decide), k 7 (by decide) (by decide) (by decide) (by decide) (by decide) (by unfold scrM; omega)]
    exact h5
  · exact h6.eq (fun q a b => c _ (by omega) (by omega) (by omega) (by omega) (by omega) (by unfold scrC; omega)) (k0 _ (by decide) (by decide) (by decide) (by decide)) (k0 _ (by decide) (by decide) (by decide) (by decide)) (k0 _ (by decide) (by decide) (by decide) (by decide)) (k _ (by decide) (by decide) (by decide) (by decide) (by decide) (by unfold scrM; omega)) (k _ (by decide) (by decide) (by decide) (by decide) (by decide) (by unfold scrM; omega)) (k _ (by decide) (by decide) (by decide) (by decide) (by decide) (by unfold scrM; omega)) (k _ (by decide) (by decide) (by decide) (by decide) (by decide) (by unfold scrM; omega))
  · exact h7.eq (Nat.le_refl _) (Nat.le_refl _) (by rw [c0]) (fun q a b => c _ (by omega) (by omega) (by omega) (by omega) (by omega) (by unfold scrC; omega)) (fun q a b => k0 _ (by omega) (by omega) (by omega) (by omega)) (fun q a b => k _ (by omega) (by omega) (by omega) (by omega) (by omega) (by unfold scrM; omega)) (fun i _ => by rw [k 1 (by decide) (by decide) (by decide) (by decide) (by decide) (by unfold scrM; omega)]) (fun i _ => by rw [k 2 (by decide) (by decide) (by decide) (by decide) (by decide) (by unfold scrM; omega)])
  · unfold RRn at h8 ⊢
    rw [c 142 (by decide) (by decide) (by decide) (by decide) (by decide) (by unfold scrC; omega), c 143 (by decide) (by decide) (by decide) (by decide) (by decide) (by unfold scrC; omega), k0 61 (by decide) (by decide) (by decide) (by decide), k 38 (by decide) (by decide) (by decide) (by decide) (by decide) (by unfold scrM; omega)]
    exact h8
  · exact h9.eq (c _ (by decide) (by decide) (by decide) (by decide) (by decide) (by unfold scrC; omega)) (c _ (by decide) (by decide) (by decide) (by decide) (by decide) (by unfold scrC; omega)) (fun t a b => cj t (by omega)) (k _ (by decide) (by decide) (by decide) (by decide) (by decide) (by unfold scrM; omega)) (k _ (by decide) (by decide) (by decide) (by decide) (by decide) (by unfold scrM; omega)) kj
  · intro j hj
    rw [k 15 (by decide) (by decide) (by decide) (by decide) (by decide) (by unfold scrM; omega)]
    exact h10 j hj
theorem RB.fin2 {Z : XS} {Xc Xm Yc Ym : XD} {n m : Nat} {r r2 : Rnd} (h : RB Z Xc Xm n m r) (hr : RRd Yc Ym n r2) (c : ∀ i, i ≠ 47 → i ≠ 48 → i ≠ 49 → i ≠ 50 → i ≠ 51 → ¬ scrC i → Yc.1 i = Xc.1 i) (c47 : ∀ k, k ≠ 2 → k ≠ 3 → Yc.1 47 k = Xc.1 47 k) (cj : ∀ i, i < 153 → Yc.2 i = Xc.2 i) (k : ∀ q, q ≠ 0 → q ≠ 3 → q ≠ 4 → q ≠ 5 → q ≠ 6 → ¬ scrM q → Ym.1 q = Xm.1 q) (k0 : ∀ j, j ≠ 1 → j ≠ 2 → j ≠ 27 → j ≠ 28 → Ym.1 0 j = Xm.1 0 j) (kj : Ym.2 41 = Xm.2 41) {α : Type} {a : α} {fc fm : Option (α × XD)} (h1 : fc = some (a, Yc)) (h2 : fm = some (a, Ym)) : ∃ a Yc Ym, fc = some (a, Yc) ∧ fm = some (a, Ym) ∧ Rel Z Yc Ym := ⟨a, Yc, Ym, h1, h2, n, m, r2, h.rd hr c c47 cj k k0 kj⟩
theorem st9 : St9 Rel := by
  intro Z Xc Xm ⟨n, m, r, h⟩
  have e2 := h.2.2.1.1.2.2.2.2.2
  have e4 := h.2.2.1.2.1.2.2.2.2.2
  unfold fX11_anew fX12_anew
  simp only [nm_eq]
  rw [e2, e4]
  obtain ⟨a1, a2, a3⟩ := h.2.2.1
  refine h.fin2 (r2 := (r.1, r.2.1, r.2.2.1, r.2.2.2.1, 0, 0)) ⟨⟨?_, ?_, ?_, ?_, ?_, ?_⟩, ⟨?_, ?_, ?_, ?_, ?_, ?_⟩, ?_⟩ ?_ ?_ ?_ ?_ ?_ ?_ rfl rfl
  · intro i hi; rw [wI_c (by decide), wI_c (by decide)]; exact a1.1 i hi
  · intro i hi; rw [wI_c (by decide), wI_c (by decide)]; exact a1.2.1 i hi
  · intro i hi; rw [wI_c (by decide), wI_c (by decide)]; exact a1.2.2.1 i hi
  · intro i hi; rw [wI_c (by decide), wI_c (by decide)]; exact a1.2.2.2.1 i hi
  · rw [wI_k (by decide), wI_s]; rfl
  · rw [wI_s]; rfl
  · intro i hi; rw [wI_c (by decide), wI_c (by decide)]; exact a2.1 i hi
  · intro i hi; rw [wI_c (by decide), wI_c (by decide)]; exact a2.2.1 i hi
  · intro i hi; rw [wI_c (by decide), wI_c (by decide)]; exact a2.2.2.1 i hi
  · intro i hi; rw [wI_c (by decide), wI_c (by decide)]; exact a2.2.2.2.1 i hi
  · rw [wI_k (by decide), wI_s]; rfl
  · rw [wI_s]; rfl
  · exact ⟨a3.1, a3.2.1, a3.2.2.1, a3.2.2.2.1, Nat.zero_le _, Nat.zero_le _, a3.2.2.2.2.2.2⟩
  · intro i i1 _ _ _ _ _; rw [wI_c i1, wI_c i1]
  · intro k k2 k3; rw [wI_k k3, wI_k k2]
  · intro i _; rfl
  · intro q q0 _ _ _ _ _; rw [wI_c q0, wI_c q0]
  · intro j j1 j2 _ _; rw [wI_k j2, wI_k j1]
  · rfl
theorem ne10 : ¬ (1 : Int32) = 0 := by decide
theorem st8 : St8 Rel := by
  intro Z Xc Xm a1 a2 ⟨n, m, r, h⟩
  unfold fX11_shoot fX12_shoot
  rcases h.2.1.find a1 with ⟨f1, f2⟩ | ⟨i, o, k, v, hi, rfl, ho, hc, hm, f1, f2⟩
  · rw [bnd_of f1, bnd_of f2]
    exact h.fin rfl rfl eqC.rfl eqM.rfl
  rw [bnd_of f1, bnd_of f2, mto_some, if_neg ne10]
  rcases draw_cases (Z := Z) a2 with ⟨s1, s2⟩ | ⟨d, hd, rfl, s1, s2⟩
  · rw [bnd_of (s1 _), bnd_of (s2 _)]
    exact h.fin rfl rfl eqC.rfl eqM.rfl
  rw [bnd_of (s1 _), bnd_of (s2 _), if_neg ne10, if_neg ne10]
  have e1 := h.2.2.1.1.2.2.2.2.1
  have e3 := h.2.2.1.2.1.2.2.2.2.1
  have bA := h.2.2.1.2.2.2.2.2.2.1
  have hn := h.2.1.1
  rw [e1, e3]
  by_cases q : rA r = 999
  · rw [if_neg (show ¬ Int32.ofNat (rA r) < 999 by rw [q]; decide), if_pos (show Int32.ofNat (rA r) = 999 by rw [q]; rfl)]
    exact h.fin rfl rfl eqC.rfl eqM.rfl
  rw [if_pos (show Int32.ofNat (rA r) < 999 from (o_lt (b := 999) (by omega) (by omega)).mpr (by omega)), if_neg (show ¬ Int32.ofNat (rA r) = 999 from fun z => q ((o_eq (b := 999) (by omega) (by omega)).mp z))]
  obtain ⟨G, g1, g2⟩ := h.ask
  obtain ⟨Y, y1, y2, y3⟩ := h.lk g1 hc
  obtain ⟨W, w1, w2⟩ := cn_m g2 hi hm
  have hcn := cnA_le (r := r) (i := i) (k := k) (v := v) (G := G)
  rw [bnw_of y1, bnd_of (h.sd hc y2 y3), y2.1, bnd_of (show fX9_chanceBy Z 139 (Int32.ofNat (aiA r i k v G)) (Int32.ofNat (ntA r i k G)) Y = some (Int32.ofNat (cnA r i k v G)) from y2.ch h.ai h.nt), bnw_of w1]
  have ry := h.2.2.1.1.v y3 (by decide) (by decide)
  have go : ∀ b : Bool, ∃ a Yc Ym, fX11_shoot_86 Z (Int32.ofNat i) (Int32.ofNat (aiA r i k v G)) (b2 b) Y = some (a, Yc) ∧ fX12_shoot_51 (Int32.ofNat i) (b2 b) W = some (a, Ym) ∧ Rel Z Yc Ym := by
    intro b
    obtain ⟨Yc, c1, c2, c3, c4, c5⟩ := addShot_c (Z := Z) (s := aiA r i k v G) (b := b) ry h.2.2.1.2.2 (show i < 6 by omega)
    obtain ⟨Ym, m1, m2, m3⟩ := go_m (b := b) (g2.p w2) hi (hm.p w2)
    have m4 := w2.G.trans m3
    unfold fX11_shoot_86 fX12_shoot_51
    rw [bnw_of c1, bnw_of m1]
    have fin : ∀ a : Int32, ∃ a' Yc' Ym', some (a, Yc) = some (a', Yc') ∧ some (a, Ym) = some (a', Ym') ∧ Rel Z Yc' Ym' := fun a => h.fin2 (r2 := rGo r i (aiA r i k v G) b) ⟨c2, m2.2.1, m2.2.2.1⟩ (fun q q0 q1 q2 q3 q4 q5 => (c4 q q0 q1 q2 q3).trans (y3.2 q (by unfold scrV; unfold scrC at q5; omega))) (fun k k2 k3 => (c5 k k2 k3).trans (by rw [y3.at (by decide) (by decide)])) (fun q _ => by rw [c3, y3.1]) (fun q q0 q3 q4 q5 q6 qs => m4.2.1 q q0 q3 q4 q5 (by unfold scrM at qs; omega)) (fun j j1 j2 _ _ => m4.2.2 j j1 j2) (by rw [m4.1]) rfl rfl
    cases b with
    | false =>
      rw [if_pos (show b2 false = 0 by decide), if_pos (show b2 false = 0 by decide)]
      exact fin _
    | true =>
      rw [if_neg (show ¬ b2 true = 0 by decide), if_neg (show ¬ b2 true = 0 by decide), Int32.add_comm]
      exact fin _
  by_cases z : cnA r i k v G ≤ d
  · rw [if_pos ((o_le (by omega) (by omega)).mpr z), if_pos ((o_le (by omega) (by omega)).mpr z)]
    exact go false
  · rw [if_neg (fun q => z ((o_le (by omega) (by omega)).mp q)), if_neg (fun q => z ((o_le (by omega) (by omega)).mp q))]
    exact go true
