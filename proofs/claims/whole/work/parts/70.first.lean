set_option maxHeartbeats 40000000
set_option maxRecDepth 100000
/-! at the start-/
def r0 : Rnd := (fun _ => 3, fun _ => 0, fun _ => 0, fun _ => 0, 0, 0)
theorem rt0 : RT cXE 47 r0 := by
  refine ⟨?_, ?_, ?_, ?_, ?_, ?_⟩
  · have : ∀ i, i < 6 → cXE.1 48 i = Int32.ofNat 3 := by decide +kernel
    exact this
  · have : ∀ i, i < 6 → cXE.1 49 i = Int32.ofNat 0 := by decide +kernel
    exact this
  · have : ∀ i, i < 6 → cXE.1 50 i = Int32.ofNat 0 := by decide +kernel
    exact this
  · have : ∀ i, i < 24 → cXE.1 51 i = Int32.ofNat 0 := by decide +kernel
    exact this
  · have : cXE.1 47 2 = Int32.ofNat 0 := by decide +kernel
    exact this
  · have : cXE.1 47 3 = Int32.ofNat 0 := by decide +kernel
    exact this
theorem crow0 {cap : Nat} {ok : Int32 → Prop} {s f : Int32} {it tx : Nat → Int32} (h1 : s = 0) (h2 : f = 0) : CRow cap ok s it f tx := by
  rw [h1, h2]
  exact CRow.nil
theorem rel0 : Rel cZE cXE mXE := by
  refine ⟨0, 0, r0, ⟨layC0, by rw [snC]; decide, ?_⟩, ⟨by decide, ?_, ?_, fun i hi => absurd hi (Nat.not_lt_zero i)⟩, ⟨rt0, ⟨fun i hi => absurd hi (Nat.not_lt_zero i), fun i hi => absurd hi (Nat.not_lt_zero i), fun i hi => absurd hi (Nat.not_lt_zero i), fun i hi => absurd hi (Nat.not_lt_zero i), ?_, ?_⟩, ⟨fun i => Nat.le_refl 3, fun i => Nat.zero_le _, fun i => Nat.zero_le _, fun i => Nat.zero_le _, Nat.zero_le _, Nat.zero_le _, fun i _ => ⟨rfl, rfl, rfl⟩, fun i _ => rfl⟩⟩, ⟨by decide, ?_, ?_, Or.inl ?_, ?_, fun j hj => absurd hj (Nat.not_lt_zero j)⟩, crow0 ?_ ?_, ⟨crow0 ?_ ?_, crow0 ?_ ?_, crow0 ?_ ?_, crow0 ?_ ?_⟩, ⟨?_, Or.inl ?_⟩, ⟨?_, crow0 ?_ ?_⟩, ?_, ?_⟩
  · unfold LenC
    decide +kernel
  · decide +kernel
  · decide +kernel
  · decide +kernel
  · decide +kernel
  · decide +kernel
  · decide +kernel
  · decide +kernel
  · decide +kernel
  · decide +kernel
  · decide +kernel
  · decide +kernel
  · decide +kernel
  · decide +kernel
  · decide +kernel
  · decide +kernel
  · decide +kernel
  · decide +kernel
  · decide +kernel
  · decide +kernel
  · decide +kernel
  · decide +kernel
  · decide +kernel
  · decide +kernel
  · have h1 : ∀ t, t < 6 → cXE.1 151 t = -1 ∧ mXE.1 39 t = -1 ∧ cXE.1 152 t = 0 ∧ mXE.1 40 t = 0 := by decide +kernel
    have h2 : ∀ t, t < 6 → ∀ j, j < 60 → cXE.2 (145 + t) j = 0 := by decide +kernel
    have h3 : ∀ j, j < 360 → mXE.2 41 j = 0 := by decide +kernel
    intro t ht
    obtain ⟨a, b, c, d⟩ := h1 t ht
    exact ⟨a.trans b.symm, c.trans d.symm, ⟨0, by decide, d, Or.inl ⟨b, rfl⟩⟩, fun j hj => (h2 t ht j hj).trans (h3 _ (by omega)).symm⟩
  · unfold RLt
    decide +kernel
