set_option maxHeartbeats 40000000
set_option maxRecDepth 100000
/-! the round: last, shots, goals, told sides of the six, and all shots and goals -/
abbrev Rnd : Type := (Nat → Int32) × (Nat → Int32) × (Nat → Int32) × (Nat → Int32) × Int32 × Int32
/-- a table of the class holds a round -/
def RT (X : XD) (t : Nat) (r : Rnd) : Prop := (∀ i, i < 6 → X.1 (t + 1) i = r.1 i) ∧ (∀ i, i < 6 → X.1 (t + 2) i = r.2.1 i) ∧ (∀ i, i < 6 → X.1 (t + 3) i = r.2.2.1 i) ∧ (∀ i, i < 24 → X.1 (t + 4) i = r.2.2.2.1 i) ∧ X.1 t 2 = r.2.2.2.2.1 ∧ X.1 t 3 = r.2.2.2.2.2
/-- the reference holds it, for the n who are there -/
def RM (X : XD) (n : Nat) (r : Rnd) : Prop := (∀ i, i < n → X.1 3 i = r.1 i) ∧ (∀ i, i < n → X.1 4 i = r.2.1 i) ∧ (∀ i, i < n → X.1 5 i = r.2.2.1 i) ∧ (∀ i, i < 4 * n → X.1 6 i = r.2.2.2.1 i) ∧ X.1 0 1 = r.2.2.2.2.1 ∧ X.1 0 2 = r.2.2.2.2.2
def upto (k : Nat) (x : Int32) : Prop := ∃ n, n ≤ k ∧ x = Int32.ofNat n
/-- bounds; who is not there is as at first -/
def RI (n : Nat) (r : Rnd) : Prop := (∀ i, i < 6 → upto 3 (r.1 i)) ∧ (∀ i, i < 6 → upto 999 (r.2.1 i)) ∧ (∀ i, i < 6 → upto 999 (r.2.2.1 i)) ∧ (∀ i, i < 24 → upto 2 (r.2.2.2.1 i)) ∧ upto 999 r.2.2.2.2.1 ∧ upto 999 r.2.2.2.2.2 ∧ (∀ i, n ≤ i → i < 6 → r.1 i = 3 ∧ r.2.1 i = 0 ∧ r.2.2.1 i = 0) ∧ (∀ i, 4 * n ≤ i → i < 24 → r.2.2.2.1 i = 0)
theorem lastOf_r {Z : XS} {X : XD} {t i : Nat} {r : Rnd} (h : RT X t r) (hi : i < 6) : fX6_lastOf Z t (Int32.ofNat i) X = some (r.1 i) := by
  unfold fX6_lastOf
  rw [if_neg (o_ge0 (by omega)), if_neg (fun q => by have := (o_le (a := 6) (by omega) (by omega)).mp q; omega), gin_o hi (by omega), i32n (by omega), h.1 i hi]
theorem shotsOf_r {Z : XS} {X : XD} {t i : Nat} {r : Rnd} (h : RT X t r) (hi : i < 6) : fX6_shotsOf Z t (Int32.ofNat i) X = some (r.2.1 i) := by
  unfold fX6_shotsOf
  rw [if_neg (o_ge0 (by omega)), if_neg (fun q => by have := (o_le (a := 6) (by omega) (by omega)).mp q; omega), gin_o hi (by omega), i32n (by omega), h.2.1 i hi]
theorem goalsOf_r {Z : XS} {X : XD} {t i : Nat} {r : Rnd} (h : RT X t r) (hi : i < 6) : fX6_goalsOf Z t (Int32.ofNat i) X = some (r.2.2.1 i) := by
  unfold fX6_goalsOf
  rw [if_neg (o_ge0 (by omega)), if_neg (fun q => by have := (o_le (a := 6) (by omega) (by omega)).mp q; omega), gin_o hi (by omega), i32n (by omega), h.2.2.1 i hi]
