set_option maxHeartbeats 40000000
set_option maxRecDepth 100000
/-! rows of the class -/
def rAdd (X : XD) (a n : Nat) (x : Int32) : XD := wI (wI (wI X a 2 (X.1 a 2 + 1)) (a + 1) n x) a 1 (Int32.ofNat (n + 1))
theorem add_in {Z : XS} {a n cap : Nat} {x : Int32} {X : XD} (hl : sL Z (a + 1) = cap) (hs : X.1 a 1 = Int32.ofNat n) (hc : cap ≤ 1000) (hn : n < cap) : fX3_add Z a x X = some (1, rAdd X a n x) := by
  unfold fX3_add nm
  dsimp only
  rw [wI_k (by decide), hs, hl, if_neg (o_ge0 (by omega)), if_pos ((o_lt (by omega) (by omega)).mpr hn), gin_o hn (by omega), i32n (by omega)]
  rw [wI_c (by omega), wI_k (by decide), hs]
  unfold rAdd
  rw [show Int32.ofNat n + 1 = Int32.ofNat (n + 1) from o_add n 1]
theorem add_out {Z : XS} {a n cap : Nat} {x : Int32} {X : XD} (hl : sL Z (a + 1) = cap) (hs : X.1 a 1 = Int32.ofNat n) (hc : cap ≤ 1000) (hn : n = cap) : fX3_add Z a x X = some (0, wI X a 2 (X.1 a 2 + 1)) := by
  unfold fX3_add nm
  dsimp only
  rw [wI_k (by decide), hs, hl, if_neg (o_ge0 (by omega)), if_neg (fun q => by have := (o_lt (by omega) (by omega)).mp q; omega)]
/-- a row of the class and one of the reference hold the same -/
def CRow (cap : Nat) (ok : Int32 → Prop) (s : Int32) (it : Nat → Int32) (f : Int32) (tx : Nat → Int32) : Prop := s = f ∧ ∃ n, n ≤ cap ∧ f = Int32.ofNat n ∧ ∀ j, j < n → it j = tx j ∧ ok (tx j)
theorem CRow.nil {cap : Nat} {ok : Int32 → Prop} {it tx : Nat → Int32} : CRow cap ok 0 it 0 tx := ⟨rfl, 0, Nat.zero_le _, rfl, fun j h => absurd h (Nat.not_lt_zero j)⟩
theorem CRow.weak {cap : Nat} {ok ok' : Int32 → Prop} {s f : Int32} {it tx : Nat → Int32} (h : CRow cap ok s it f tx) (hw : ∀ x, ok x → ok' x) : CRow cap ok' s it f tx := by
  obtain ⟨h1, n, h2, h3, h4⟩ := h
  exact ⟨h1, n, h2, h3, fun j hj => ⟨(h4 j hj).1, hw _ (h4 j hj).2⟩⟩
theorem CRow.put {cap n : Nat} {ok : Int32 → Prop} {s f x : Int32} {it tx : Nat → Int32} (h : CRow cap ok s it f tx) (hf : f = Int32.ofNat n) (hc : cap ≤ 1000) (hn : n < cap) (hx : ok x) : CRow cap ok (Int32.ofNat (n + 1)) (fun j => if j = n then x else it j) (Int32.ofNat (n + 1)) (fun j => if j = n then x else tx j) := by
  obtain ⟨h1, m, h2, h3, h4⟩ := h
  have e : m = n := (o_eq (by omega) (by omega)).mp (h3.symm.trans hf)
  subst e
  refine ⟨rfl, m + 1, by omega, rfl, fun j hj => ?_⟩
  by_cases q : j = m
  · subst q
    simp only [if_true]
    exact ⟨trivial, hx⟩
  · simp only [q, if_false]
    exact h4 j (by omega)
theorem wI_row {X : XD} {i k : Nat} {v : Int32} : (wI X i k v).1 i = fun j => if j = k then v else X.1 i j := by
  funext j
  show (if i = i ∧ j = k then v else X.1 i j) = _
  by_cases h : j = k
  · simp [h]
  · simp [h]
