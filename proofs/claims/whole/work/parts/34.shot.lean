set_option maxHeartbeats 40000000
set_option maxRecDepth 100000
/-! a shot in a table -/
def moreR (x : Int32) : Int32 := if 999 ≤ x then 999 else x + 1
theorem more_min {x : Int32} (h : upto 999 x) : (if x + 1 < 999 then x + 1 else 999) = moreR x := by
  obtain ⟨n, hn, rfl⟩ := h
  unfold moreR
  rw [show Int32.ofNat n + 1 = Int32.ofNat (n + 1) from o_add n 1]
  by_cases q : n = 999
  · subst q; decide
  · rw [if_neg (show ¬ (999 : Int32) ≤ Int32.ofNat n from fun z => by have := (o_le (a := 999) (by omega) (by omega)).mp z; omega)]
    by_cases q2 : n = 998
    · subst q2; decide
    · rw [if_pos (show Int32.ofNat (n + 1) < (999 : Int32) from (o_lt (b := 999) (by omega) (by omega)).mpr (by omega))]
theorem more_upto {x : Int32} (h : upto 999 x) : upto 999 (moreR x) := by
  obtain ⟨n, hn, rfl⟩ := h
  unfold moreR
  by_cases q : n = 999
  · subst q; exact ⟨999, Nat.le_refl _, by decide⟩
  · rw [if_neg (show ¬ (999 : Int32) ≤ Int32.ofNat n from fun z => by have := (o_le (a := 999) (by omega) (by omega)).mp z; omega)]
    exact ⟨n + 1, by omega, o_add n 1⟩
theorem more_m {x : Int32} {X : XD} : fX12_more x X = some (moreR x) := by
  unfold fX12_more moreR
  by_cases q : (999 : Int32) ≤ x
  · rw [if_pos q, if_pos q]
  · rw [if_neg q, if_neg q]
def setR {α : Type} (f : Nat → α) (i : Nat) (v : α) : Nat → α := fun j => if j = i then v else f j
def rGo (r : Rnd) (i : Nat) (s : Int32) (b : Bool) : Rnd := (setR r.1 i s, setR r.2.1 i (moreR (r.2.1 i)), (if b then setR r.2.2.1 i (moreR (r.2.2.1 i)) else r.2.2.1), r.2.2.2.1, moreR r.2.2.2.2.1, if b then moreR r.2.2.2.2.2 else r.2.2.2.2.2)
