set_option maxHeartbeats 40000000
set_option maxRecDepth 100000
/-! the round: last, shots, goals, told sides of the six, and all shots and goals -/
abbrev Rnd : Type := (Nat → Nat) × (Nat → Nat) × (Nat → Nat) × (Nat → Nat) × Nat × Nat
def rL (r : Rnd) : Nat → Nat := r.1
def rS (r : Rnd) : Nat → Nat := r.2.1
def rG (r : Rnd) : Nat → Nat := r.2.2.1
def rR (r : Rnd) : Nat → Nat := r.2.2.2.1
def rA (r : Rnd) : Nat := r.2.2.2.2.1
def rB (r : Rnd) : Nat := r.2.2.2.2.2
/-- a table of the class holds a round -/
def RT (X : XD) (t : Nat) (r : Rnd) : Prop := (∀ i, i < 6 → X.1 (t + 1) i = Int32.ofNat (rL r i)) ∧ (∀ i, i < 6 → X.1 (t + 2) i = Int32.ofNat (rS r i)) ∧ (∀ i, i < 6 → X.1 (t + 3) i = Int32.ofNat (rG r i)) ∧ (∀ i, i < 24 → X.1 (t + 4) i = Int32.ofNat (rR r i)) ∧ X.1 t 2 = Int32.ofNat (rA r) ∧ X.1 t 3 = Int32.ofNat (rB r)
/-- the reference holds it, for the n who are there -/
def RM (X : XD) (n : Nat) (r : Rnd) : Prop := (∀ i, i < n → X.1 3 i = Int32.ofNat (rL r i)) ∧ (∀ i, i < n → X.1 4 i = Int32.ofNat (rS r i)) ∧ (∀ i, i < n → X.1 5 i = Int32.ofNat (rG r i)) ∧ (∀ i, i < 4 * n → X.1 6 i = Int32.ofNat (rR r i)) ∧ X.1 0 1 = Int32.ofNat (rA r) ∧ X.1 0 2 = Int32.ofNat (rB r)
/-- bounds; who is not there is as at first -/
def RI (n : Nat) (r : Rnd) : Prop := (∀ i, rL r i ≤ 3) ∧ (∀ i, rS r i ≤ 999) ∧ (∀ i, rG r i ≤ 999) ∧ (∀ i, rR r i ≤ 2) ∧ rA r ≤ 999 ∧ rB r ≤ 999 ∧ (∀ i, n ≤ i → rL r i = 3 ∧ rS r i = 0 ∧ rG r i = 0) ∧ (∀ i, 4 * n ≤ i → rR r i = 0)
theorem RT.eq {X Y : XD} {t : Nat} {r : Rnd} (h : RT X t r) (h0 : Y.1 t 2 = X.1 t 2) (h3 : Y.1 t 3 = X.1 t 3) (h1 : ∀ k, 1 ≤ k → k ≤ 4 → Y.1 (t + k) = X.1 (t + k)) : RT Y t r := by
  obtain ⟨a1, a2, a3, a4, a5, a6⟩ := h
  refine ⟨fun i hi => ?_, fun i hi => ?_, fun i hi => ?_, fun i hi => ?_, ?_, ?_⟩
  · rw [h1 1 (by decide) (by decide)]; exact a1 i hi
  · rw [h1 2 (by decide) (by decide)]; exact a2 i hi
  · rw [h1 3 (by decide) (by decide)]; exact a3 i hi
  · rw [h1 4 (by decide) (by decide)]; exact a4 i hi
  · rw [h0]; exact a5
  · rw [h3]; exact a6
theorem RM.eq {X Y : XD} {n : Nat} {r : Rnd} (h : RM X n r) (h0 : Y.1 0 1 = X.1 0 1) (h2 : Y.1 0 2 = X.1 0 2) (h1 : ∀ k, 3 ≤ k → k ≤ 6 → Y.1 k = X.1 k) : RM Y n r := by
  obtain ⟨a1, a2, a3, a4, a5, a6⟩ := h
  refine ⟨fun i hi => ?_, fun i hi => ?_, fun i hi => ?_, fun i hi => ?_, ?_, ?_⟩
  · rw [h1 3 (by decide) (by decide)]; exact a1 i hi
  · rw [h1 4 (by decide) (by decide)]; exact a2 i hi
  · rw [h1 5 (by decide) (by decide)]; exact a3 i hi
  · rw [h1 6 (by decide) (by decide)]; exact a4 i hi
  · rw [h0]; exact a5
  · rw [h2]; exact a6
theorem RM.p {X Y : XD} {n : Nat} {r : Rnd} (h : RM X n r) (q : eqP X Y) : RM Y n r := h.eq (by rw [q.2 0 (by decide)]) (by rw [q.2 0 (by decide)]) (fun k h1 h2 => q.2 k (by omega))
theorem lastOf_r {Z : XS} {X : XD} {t i : Nat} {r : Rnd} (h : RT X t r) (hi : i < 6) : fX6_lastOf Z t (Int32.ofNat i) X = some (Int32.ofNat (rL r i)) := by
  unfold fX6_lastOf
  simp (disch := omega) only [↓bnd_some, ↓bnw_some, ↓nm_eq, ↓gb_0, ↓gb_1, ↓gin_o, ↓reduceIte, lit, o_lt_t, o_lt_f, o_le_t, o_le_f, o_eq_t, o_eq_f, n_lt_t, n_le_t, n_eq_f, i32n, wI_s, wI_c, wI_k, wI_2, wJ_s, wJ_c, wJ_k, wJ_1, o_add, o_sub, o_addn, o_mul, o_div, n_rem, Nat.add_zero, Nat.zero_add, h.1 i hi]
theorem shotsOf_r {Z : XS} {X : XD} {t i : Nat} {r : Rnd} (h : RT X t r) (hi : i < 6) : fX6_shotsOf Z t (Int32.ofNat i) X = some (Int32.ofNat (rS r i)) := by
  unfold fX6_shotsOf
  simp (disch := omega) only [↓bnd_some, ↓bnw_some, ↓nm_eq, ↓gb_0, ↓gb_1, ↓gin_o, ↓reduceIte, lit, o_lt_t, o_lt_f, o_le_t, o_le_f, o_eq_t, o_eq_f, n_lt_t, n_le_t, n_eq_f, i32n, wI_s, wI_c, wI_k, wI_2, wJ_s, wJ_c, wJ_k, wJ_1, o_add, o_sub, o_addn, o_mul, o_div, n_rem, Nat.add_zero, Nat.zero_add, h.2.1 i hi]
theorem goalsOf_r {Z : XS} {X : XD} {t i : Nat} {r : Rnd} (h : RT X t r) (hi : i < 6) : fX6_goalsOf Z t (Int32.ofNat i) X = some (Int32.ofNat (rG r i)) := by
  unfold fX6_goalsOf
  simp (disch := omega) only [↓bnd_some, ↓bnw_some, ↓nm_eq, ↓gb_0, ↓gb_1, ↓gin_o, ↓reduceIte, lit, o_lt_t, o_lt_f, o_le_t, o_le_f, o_eq_t, o_eq_f, n_lt_t, n_le_t, n_eq_f, i32n, wI_s, wI_c, wI_k, wI_2, wJ_s, wJ_c, wJ_k, wJ_1, o_add, o_sub, o_addn, o_mul, o_div, n_rem, Nat.add_zero, Nat.zero_add, h.2.2.1 i hi]
theorem toldOf_r {Z : XS} {X : XD} {t i j : Nat} {r : Rnd} (h : RT X t r) (hi : i < 6) (hj : j < 4) : fX6_toldOf Z t (Int32.ofNat i) (Int32.ofNat j) X = some (Int32.ofNat (rR r (4 * i + j))) := by
  unfold fX6_toldOf
  simp (disch := omega) only [↓bnd_some, ↓bnw_some, ↓nm_eq, ↓gb_0, ↓gb_1, ↓gin_o, ↓reduceIte, lit, o_lt_t, o_lt_f, o_le_t, o_le_f, o_eq_t, o_eq_f, n_lt_t, n_le_t, n_eq_f, i32n, wI_s, wI_c, wI_k, wI_2, wJ_s, wJ_c, wJ_k, wJ_1, o_add, o_sub, o_addn, o_mul, o_div, n_rem, Nat.add_zero, Nat.zero_add]
  rw [show i * 4 + j = 4 * i + j by omega, h.2.2.2.1 _ (by omega)]
/-- the facts of shooter i of kind k -/
def factR (r : Rnd) (i k : Nat) : Nat → Nat := fun f => if f = 0 then i else if f = 1 then k else if f = 3 then rS r i % 10 else if f = 4 then rB r % 10 else rA r % 10
theorem factR_lt {n : Nat} {r : Rnd} (hI : RI n r) {i k : Nat} (hi : i < 6) (hk : k ≤ 6) (f : Nat) : factR r i k f < 2000 := by
  unfold factR
  split
  · omega
  · split
    · omega
    · split
      · omega
      · split <;> omega
theorem fm_of {X : XD} {n i k s : Nat} {r : Rnd} (h : RM X n r) (hI : RI n r) (hn : n ≤ 6) (hi : i < n) (hk : k ≤ 6) (h1 : X.1 1 i = Int32.ofNat k) (hs : s < 2000) : FM X i s (fact (factR r i k) s) := by
  intro Y hY f hf
  have hb := factR_lt hI (show i < 6 by omega) hk
  have hr := h.p hY
  have h1 : Y.1 1 i = Int32.ofNat k := by rw [hY.2 1 (by decide)]; exact h1
  have b1 := hI.2.1 i
  have b2 := hI.2.2.2.2.1
  have b3 := hI.2.2.2.2.2.1
  refine ⟨?_, by unfold fact; split <;> first | omega | exact hb f⟩
  have d10 : ∀ a : Nat, a < 2000 → Int32.ofNat a - Int32.ofNat a / 10 * 10 = Int32.ofNat (a % 10) := fun a ha => o_rem (b := 10) (by omega) (by omega)
  unfold fX12_factOf
  rcases (show f = 0 ∨ f = 1 ∨ f = 2 ∨ f = 3 ∨ f = 4 ∨ f = 5 by omega) with rfl | rfl | rfl | rfl | rfl | rfl
  · rw [if_pos (by decide)]; rfl
  · rw [if_neg (by decide), if_pos (by decide), gin_o (by omega) (by omega), i32n (by omega), h1]; rfl
  · rw [if_neg (by decide), if_neg (by decide), if_pos (by decide)]; rfl
  · rw [if_neg (by decide), if_neg (by decide), if_neg (by decide), if_pos (by decide), gin_o (by omega) (by omega), i32n (by omega), hr.2.1 i hi, d10 _ (by omega)]; rfl
  · rw [if_neg (by decide), if_neg (by decide), if_neg (by decide), if_neg (by decide), if_pos (by decide), hr.2.2.2.2.2, d10 _ (by omega)]; rfl
  · rw [if_neg (by decide), if_neg (by decide), if_neg (by decide), if_neg (by decide), if_neg (by decide), hr.2.2.2.2.1, d10 _ (by omega)]; rfl
/-! a shot -/
def more (n : Nat) : Nat := if 999 ≤ n then 999 else n + 1
def setN (f : Nat → Nat) (i v : Nat) : Nat → Nat := fun j => if j = i then v else f j
def rGo (r : Rnd) (i s : Nat) (b : Bool) : Rnd := (setN (rL r) i s, setN (rS r) i (more (rS r i)), (if b then setN (rG r) i (more (rG r i)) else rG r), rR r, more (rA r), if b then more (rB r) else rB r)
theorem more_le {n : Nat} : more n ≤ 999 := by unfold more; split <;> omega
theorem rGo_I {n : Nat} {r : Rnd} {i s : Nat} {b : Bool} (h : RI n r) (hi : i < n) (hs : s ≤ 2) : RI n (rGo r i s b) := by
  obtain ⟨h1, h2, h3, h4, h5, h6, h7, h8⟩ := h
  refine ⟨fun j => ?_, fun j => ?_, fun j => ?_, h4, more_le, ?_, fun j hj => ⟨?_, ?_, ?_⟩, h8⟩
  · show setN (rL r) i s j ≤ 3
    unfold setN; split
    · omega
    · exact h1 j
  · show setN (rS r) i _ j ≤ 999
    unfold setN; split
    · exact more_le
    · exact h2 j
  · show (if b then setN (rG r) i (more (rG r i)) else rG r) j ≤ 999
    split
    · unfold setN; split
      · exact more_le
      · exact h3 j
    · exact h3 j
  · show (if b then more (rB r) else rB r) ≤ 999
    split
    · exact more_le
    · exact h6
  · show setN (rL r) i s j = 3
    unfold setN; rw [if_neg (by omega)]; exact (h7 j hj).1
  · show setN (rS r) i _ j = 0
    unfold setN; rw [if_neg (by omega)]; exact (h7 j hj).2.1
  · show (if b then setN (rG r) i (more (rG r i)) else rG r) j = 0
    split
    · unfold setN; rw [if_neg (by omega)]; exact (h7 j hj).2.2
    · exact (h7 j hj).2.2
theorem more_c {n : Nat} (h : n ≤ 999) : (if Int32.ofNat n + 1 < 999 then Int32.ofNat n + 1 else 999) = Int32.ofNat (more n) := by
  rw [show Int32.ofNat n + 1 = Int32.ofNat (n + 1) from o_add n 1]
  unfold more
  by_cases q : 999 ≤ n
  · rw [if_neg (fun z => by have := (o_lt (b := 999) (by omega) (by omega)).mp z; omega), if_pos q]; rfl
  · rw [if_neg q]
    by_cases q2 : n = 998
    · subst q2; decide
    · rw [if_pos (show Int32.ofNat (n + 1) < (999 : Int32) from (o_lt (b := 999) (by omega) (by omega)).mpr (by omega))]
theorem more_m {n : Nat} {X : XD} (h : n ≤ 999) : fX12_more (Int32.ofNat n) X = some (Int32.ofNat (more n)) := by
  unfold fX12_more more
  by_cases q : 999 ≤ n
  · rw [if_pos (show (999 : Int32) ≤ Int32.ofNat n from (o_le (a := 999) (by omega) (by omega)).mpr q), if_pos q]; rfl
  · rw [if_neg (show ¬ (999 : Int32) ≤ Int32.ofNat n from fun z => q ((o_le (a := 999) (by omega) (by omega)).mp z)), if_neg q, show Int32.ofNat n + 1 = Int32.ofNat (n + 1) from o_add n 1]
