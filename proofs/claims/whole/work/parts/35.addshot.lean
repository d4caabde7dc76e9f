set_option maxHeartbeats 40000000
set_option maxRecDepth 100000
theorem wI_u {X : XD} {i k : Nat} {v : Int32} : (wI X i k v).1 i = setR (X.1 i) k v := by
  funext j
  show (if i = i ∧ j = k then v else X.1 i j) = if j = k then v else X.1 i j
  by_cases h : j = k
  · simp [h]
  · simp [h]
/-- the data of a table after a shot -/
def xGo (X : XD) (t i : Nat) (s : Int32) (b : Bool) : XD := 
  let X3 := wI (wI (wI X (t + 1) i s) (t + 2) i (moreR (X.1 (t + 2) i))) t 2 (moreR (X.1 t 2))
  if b then wI (wI X3 (t + 3) i (moreR (X.1 (t + 3) i))) t 3 (moreR (X.1 t 3)) else X3
theorem addShot_x {Z : XS} {X : XD} {t i : Nat} {s x3 : Int32} (hi : i < 6) (h1 : upto 999 (X.1 (t + 2) i)) (h2 : upto 999 (X.1 t 2)) (h3 : upto 999 (X.1 (t + 3) i)) (h4 : upto 999 (X.1 t 3)) : fX6_addShot Z t (Int32.ofNat i) s x3 X = some ((), xGo X t i s (!decide (x3 = 0))) := by
  unfold fX6_addShot
  rw [if_neg (o_ge0 (by omega)), if_pos (show Int32.ofNat i < (6 : Int32) from (o_lt (b := 6) (by omega) (by omega)).mpr (by omega))]
  unfold nm
  dsimp only
  simp only [gin_o hi (show i < 2147483648 by omega), i32n (show i < 2147483648 by omega)]
  rw [wI_c (show t + 2 ≠ t + 1 by omega), more_min h1, wI_c (show t ≠ t + 2 by omega), wI_c (show t ≠ t + 1 by omega), more_min h2]
  unfold xGo
  by_cases q : x3 = 0
  · simp [q]
  · rw [if_neg q]
    rw [wI_c (show t + 3 ≠ t by omega), wI_c (show t + 3 ≠ t + 2 by omega), wI_c (show t + 3 ≠ t + 1 by omega), more_min h3]
    rw [wI_c (show t ≠ t + 3 by omega), wI_k (show 3 ≠ 2 by decide), wI_c (show t ≠ t + 2 by omega), wI_c (show t ≠ t + 1 by omega), more_min h4]
    simp [q]
