set_option maxHeartbeats 40000000
set_option maxRecDepth 100000
/-! the copying loops of image and undo -/
theorem im4 : ∀ (d i n : Nat) (X : XD), i + d = 10 → d < n → ∃ Y, fX12_image_200 n (Int32.ofNat i) X = some (Y.1 0 0, Y) ∧ (∀ j, i ≤ j → j < 10 → Y.1 36 j = X.1 26 j ∧ Y.1 37 j = X.1 27 j) ∧ (∀ j, j < i → Y.1 36 j = X.1 36 j ∧ Y.1 37 j = X.1 37 j) ∧ (∀ q, q ≠ 36 → q ≠ 37 → Y.1 q = X.1 q) ∧ Y.2 = X.2 := by
  intro d
  induction d with
  | zero =>
    intro i n X h1 h2
    obtain ⟨n, rfl⟩ : ∃ q, n = q + 1 := ⟨n - 1, by omega⟩
    refine ⟨X, ?_, fun j a b => absurd a (by omega), fun j _ => ⟨rfl, rfl⟩, fun q _ _ => rfl, rfl⟩
    rw [fX12_image_200_s, if_pos (show (10 : Int32) ≤ Int32.ofNat i from (o_le (a := 10) (by omega) (by omega)).mpr (by omega))]
  | succ d ih =>
    intro i n X h1 h2
    obtain ⟨n, rfl⟩ : ∃ q, n = q + 1 := ⟨n - 1, by omega⟩
    have g : ∀ {α : Type} (x : Option α), gin (Int32.ofNat i) 10 x = x := fun x => gin_o (by omega) (by omega)
    rw [fX12_image_200_s, if_neg (show ¬ (10 : Int32) ≤ Int32.ofNat i from fun z => by have := (o_le (a := 10) (by omega) (by omega)).mp z; omega)]
    simp only [g, nm_eq]
    rw [i32n (show i < 2147483648 by omega), show Int32.ofNat i + 1 = Int32.ofNat (i + 1) from o_add i 1]
    simp only [wI_c (show 26 ≠ 36 by decide), wI_c (show 26 ≠ 37 by decide), wI_c (show 27 ≠ 36 by decide), wI_c (show 27 ≠ 37 by decide)]
    obtain ⟨Y, y1, y2, y3, y4, y5⟩ := ih (i + 1) n (wI (wI X 36 i (X.1 26 i)) 37 i (X.1 27 i)) (by omega) (by omega)
    refine ⟨Y, y1, fun j a b => ?_, fun j a => ?_, fun q q0 q1 => ?_, y5⟩
    · by_cases e : j = i
      · subst e
        obtain ⟨z0, z1⟩ := y3 j (by omega)
        refine ⟨z0.trans ?_, z1.trans ?_⟩
        · simp only [wI_c (show 36 ≠ 37 by decide), wI_c (show 37 ≠ 36 by decide), wI_s]
        · simp only [wI_c (show 36 ≠ 37 by decide), wI_c (show 37 ≠ 36 by decide), wI_s]
      · obtain ⟨z0, z1⟩ := y2 j (by omega) b
        refine ⟨z0.trans ?_, z1.trans ?_⟩
        · simp only [wI_k e]
        · simp only [wI_k e]
    · have e : j ≠ i := by omega
      obtain ⟨z0, z1⟩ := y3 j (by omega)
      refine ⟨z0.trans ?_, z1.trans ?_⟩
      · simp only [wI_k e]
      · simp only [wI_k e]
    · rw [y4 q q0 q1, wI_c q1, wI_c q0]
theorem im3 : ∀ (d i n : Nat) (X : XD), i + d = 4 → d < n → ∃ Y, fX12_image_175 n (Int32.ofNat i) X = fX12_image_200 FU 0 Y ∧ (∀ j, i ≤ j → j < 4 → Y.1 34 j = X.1 20 j) ∧ (∀ j, j < i → Y.1 34 j = X.1 34 j) ∧ (∀ q, q ≠ 34 → Y.1 q = X.1 q) ∧ Y.2 = X.2 := by
  intro d
  induction d with
  | zero =>
    intro i n X h1 h2
    obtain ⟨n, rfl⟩ : ∃ q, n = q + 1 := ⟨n - 1, by omega⟩
    refine ⟨X, ?_, fun j a b => absurd a (by omega), fun j _ => rfl, fun q _ => rfl, rfl⟩
    rw [fX12_image_175_s, if_pos (show (4 : Int32) ≤ Int32.ofNat i from (o_le (a := 4) (by omega) (by omega)).mpr (by omega))]
  | succ d ih =>
    intro i n X h1 h2
    obtain ⟨n, rfl⟩ : ∃ q, n = q + 1 := ⟨n - 1, by omega⟩
    have g : ∀ {α : Type} (x : Option α), gin (Int32.ofNat i) 4 x = x := fun x => gin_o (by omega) (by omega)
    rw [fX12_image_175_s, if_neg (show ¬ (4 : Int32) ≤ Int32.ofNat i from fun z => by have := (o_le (a := 4) (by omega) (by omega)).mp z; omega)]
    simp only [g, nm_eq]
    rw [i32n (show i < 2147483648 by omega), show Int32.ofNat i + 1 = Int32.ofNat (i + 1) from o_add i 1]
    obtain ⟨Y, y1, y2, y3, y4, y5⟩ := ih (i + 1) n (wI X 34 i (X.1 20 i)) (by omega) (by omega)
    refine ⟨Y, y1, fun j a b => ?_, fun j a => ?_, fun q q0 => ?_, y5⟩
    · by_cases e : j = i
      · subst e
        have z0 := y3 j (by omega)
        refine z0.trans ?_
        · simp only [wI_s]
      · have z0 := y2 j (by omega) b
        refine z0.trans ?_
        · simp only [wI_k e]
    · have e : j ≠ i := by omega
      have z0 := y3 j (by omega)
      refine z0.trans ?_
      · simp only [wI_k e]
    · rw [y4 q q0, wI_c q0]
theorem im2 : ∀ (d i n : Nat) (X : XD), i + d = 24 → d < n → ∃ Y, fX12_image_149 n (Int32.ofNat i) X = fX12_image_175 FU 0 Y ∧ (∀ j, i ≤ j → j < 24 → Y.1 33 j = X.1 6 j) ∧ (∀ j, j < i → Y.1 33 j = X.1 33 j) ∧ (∀ q, q ≠ 33 → Y.1 q = X.1 q) ∧ Y.2 = X.2 := by
  intro d
  induction d with
  | zero =>
    intro i n X h1 h2
    obtain ⟨n, rfl⟩ : ∃ q, n = q + 1 := ⟨n - 1, by omega⟩
    refine ⟨X, ?_, fun j a b => absurd a (by omega), fun j _ => rfl, fun q _ => rfl, rfl⟩
    rw [fX12_image_149_s, if_pos (show (24 : Int32) ≤ Int32.ofNat i from (o_le (a := 24) (by omega) (by omega)).mpr (by omega))]
  | succ d ih =>
    intro i n X h1 h2
    obtain ⟨n, rfl⟩ : ∃ q, n = q + 1 := ⟨n - 1, by omega⟩
    have g : ∀ {α : Type} (x : Option α), gin (Int32.ofNat i) 24 x = x := fun x => gin_o (by omega) (by omega)
    rw [fX12_image_149_s, if_neg (show ¬ (24 : Int32) ≤ Int32.ofNat i from fun z => by have := (o_le (a := 24) (by omega) (by omega)).mp z; omega)]
    simp only [g, nm_eq]
    rw [i32n (show i < 2147483648 by omega), show Int32.ofNat i + 1 = Int32.ofNat (i + 1) from o_add i 1]
    obtain ⟨Y, y1, y2, y3, y4, y5⟩ := ih (i + 1) n (wI X 33 i (X.1 6 i)) (by omega) (by omega)
    refine ⟨Y, y1, fun j a b => ?_, fun j a => ?_, fun q q0 => ?_, y5⟩
    · by_cases e : j = i
      · subst e
        have z0 := y3 j (by omega)
        refine z0.trans ?_
        · simp only [wI_s]
      · have z0 := y2 j (by omega) b
        refine z0.trans ?_
        · simp only [wI_k e]
    · have e : j ≠ i := by omega
      have z0 := y3 j (by omega)
      refine z0.trans ?_
      · simp only [wI_k e]
    · rw [y4 q q0, wI_c q0]
theorem im1 : ∀ (d i n : Nat) (X : XD), i + d = 6 → d < n → ∃ Y, fX12_image_63 n (Int32.ofNat i) X = fX12_image_149 FU 0 Y ∧ (∀ j, i ≤ j → j < 6 → Y.1 28 j = X.1 1 j ∧ Y.1 29 j = X.1 2 j ∧ Y.1 30 j = X.1 3 j ∧ Y.1 31 j = X.1 4 j ∧ Y.1 32 j = X.1 5 j ∧ Y.1 35 j = X.1 25 j) ∧ (∀ j, j < i → Y.1 28 j = X.1 28 j ∧ Y.1 29 j = X.1 29 j ∧ Y.1 30 j = X.1 30 j ∧ Y.1 31 j = X.1 31 j ∧ Y.1 32 j = X.1 32 j ∧ Y.1 35 j = X.1 35 j) ∧ (∀ q, q ≠ 28 → q ≠ 29 → q ≠ 30 → q ≠ 31 → q ≠ 32 → q ≠ 35 → Y.1 q = X.1 q) ∧ Y.2 = X.2 := by
  intro d
  induction d with
  | zero =>
    intro i n X h1 h2
    obtain ⟨n, rfl⟩ : ∃ q, n = q + 1 := ⟨n - 1, by omega⟩
    refine ⟨X, ?_, fun j a b => absurd a (by omega), fun j _ => ⟨rfl, rfl, rfl, rfl, rfl, rfl⟩, fun q _ _ _ _ _ _ => rfl, rfl⟩
    rw [fX12_image_63_s, if_pos (show (6 : Int32) ≤ Int32.ofNat i from (o_le (a := 6) (by omega) (by omega)).mpr (by omega))]
  | succ d ih =>
    intro i n X h1 h2
    obtain ⟨n, rfl⟩ : ∃ q, n = q + 1 := ⟨n - 1, by omega⟩
    have g : ∀ {α : Type} (x : Option α), gin (Int32.ofNat i) 6 x = x := fun x => gin_o (by omega) (by omega)
    rw [fX12_image_63_s, if_neg (show ¬ (6 : Int32) ≤ Int32.ofNat i from fun z => by have := (o_le (a := 6) (by omega) (by omega)).mp z; omega)]
    simp only [g, nm_eq]
    rw [i32n (show i < 2147483648 by omega), show Int32.ofNat i + 1 = Int32.ofNat (i + 1) from o_add i 1]
    simp only [wI_c (show 1 ≠ 28 by decide), wI_c (show 1 ≠ 29 by decide), wI_c (show 1 ≠ 30 by decide), wI_c (show 1 ≠ 31 by decide), wI_c (show 1 ≠ 32 by decide), wI_c (show 1 ≠ 35 by decide), wI_c (show 2 ≠ 28 by decide), wI_c (show 2 ≠ 29 by decide), wI_c (show 2 ≠ 30 by decide), wI_c (show 2 ≠ 31 by decide), wI_c (show 2 ≠ 32 by decide), wI_c (show 2 ≠ 35 by decide), wI_c (show 25 ≠ 28 by decide), wI_c (show 25 ≠ 29 by decide), wI_c (show 25 ≠ 30 by decide), wI_c (show 25 ≠ 31 by decide), wI_c (show 25 ≠ 32 by decide), wI_c (show 25 ≠ 35 by decide), wI_c (show 3 ≠ 28 by decide), wI_c (show 3 ≠ 29 by decide), wI_c (show 3 ≠ 30 by decide), wI_c (show 3 ≠ 31 by decide), wI_c (show 3 ≠ 32 by decide), wI_c (show 3 ≠ 35 by decide), wI_c (show 4 ≠ 28 by decide), wI_c (show 4 ≠ 29 by decide), wI_c (show 4 ≠ 30 by decide), wI_c (show 4 ≠ 31 by decide), wI_c (show 4 ≠ 32 by decide), wI_c (show 4 ≠ 35 by decide), wI_c (show 5 ≠ 28 by decide), wI_c (show 5 ≠ 29 by decide), wI_c (show 5 ≠ 30 by decide), wI_c (show 5 ≠ 31 by decide), wI_c (show 5 ≠ 32 by decide), wI_c (show 5 ≠ 35 by decide)]
    obtain ⟨Y, y1, y2, y3, y4, y5⟩ := ih (i + 1) n (wI (wI (wI (wI (wI (wI X 28 i (X.1 1 i)) 29 i (X.1 2 i)) 30 i (X.1 3 i)) 31 i (X.1 4 i)) 32 i (X.1 5 i)) 35 i (X.1 25 i)) (by omega) (by omega)
    refine ⟨Y, y1, fun j a b => ?_, fun j a => ?_, fun q q0 q1 q2 q3 q4 q5 => ?_, y5⟩
    · by_cases e : j = i
      · subst e
        obtain ⟨z0, z1, z2, z3, z4, z5⟩ := y3 j (by omega)
        refine ⟨z0.trans ?_, z1.trans ?_, z2.trans ?_, z3.trans ?_, z4.trans ?_, z5.trans ?_⟩
        · simp only [wI_c (show 28 ≠ 29 by decide), wI_c (show 28 ≠ 30 by decide), wI_c (show 28 ≠ 31 by decide), wI_c (show 28 ≠ 32 by decide), wI_c (show 28 ≠ 35 by decide), wI_c (show 29 ≠ 28 by decide), wI_c (show 29 ≠ 30 by decide), wI_c (show 29 ≠ 31 by decide), wI_c (show 29 ≠ 32 by decide), wI_c (show 29 ≠ 35 by decide), wI_c (show 30 ≠ 28 by decide), wI_c (show 30 ≠ 29 by decide), wI_c (show 30 ≠ 31 by decide), wI_c (show 30 ≠ 32 by decide), wI_c (show 30 ≠ 35 by decide), wI_c (show 31 ≠ 28 by decide), wI_c (show 31 ≠ 29 by decide), wI_c (show 31 ≠ 30 by decide), wI_c (show 31 ≠ 32 by decide), wI_c (show 31 ≠ 35 by decide), wI_c (show 32 ≠ 28 by decide), wI_c (show 32 ≠ 29 by decide), wI_c (show 32 ≠ 30 by decide), wI_c (show 32 ≠ 31 by decide), wI_c (show 32 ≠ 35 by decide), wI_c (show 35 ≠ 28 by decide), wI_c (show 35 ≠ 29 by decide), wI_c (show 35 ≠ 30 by decide), wI_c (show 35 ≠ 31 by decide), wI_c (show 35 ≠ 32 by decide), wI_s]
        · simp only [wI_c (show 28 ≠ 29 by decide), wI_c (show 28 ≠ 30 by decide), wI_c (show 28 ≠ 31 by decide), wI_c (show 28 ≠ 32 by decide), wI_c (show 28 ≠ 35 by decide), wI_c (show 29 ≠ 28 by decide), wI_c (show 29 ≠ 30 by decide), wI_c (show 29 ≠ 31 by decide), wI_c (show 29 ≠ 32 by decide), wI_c (show 29 ≠ 35 by decide), wI_c (show 30 ≠ 28 by decide), wI_c (show 30 ≠ 29 by decide), wI_c (show 30 ≠ 31 by decide), wI_c (show 30 ≠ 32 by decide), wI_c (show 30 ≠ 35 by decide), wI_c (show 31 ≠ 28 by decide), wI_c (show 31 ≠ 29 by decide), wI_c (show 31 ≠ 30 by decide), wI_c (show 31 ≠ 32 by decide), wI_c (show 31 ≠ 35 by decide), wI_c (show 32 ≠ 28 by decide), wI_c (show 32 ≠ 29 by decide), wI_c (show 32 ≠ 30 by decide), wI_c (show 32 ≠ 31 by decide), wI_c (show 32 ≠ 35 by decide), wI_c (show 35 ≠ 28 by decide), wI_c (show 35 ≠ 29 by decide), wI_c (show 35 ≠ 30 by decide), wI_c (show 35 ≠ 31 by decide), wI_c (show 35 ≠ 32 by decide), wI_s]
        · simp only [wI_c (show 28 ≠ 29 by decide), wI_c (show 28 ≠ 30 by decide), wI_c (show 28 ≠ 31 by decide), wI_c (show 28 ≠ 32 by decide), wI_c (show 28 ≠ 35 by decide), wI_c (show 29 ≠ 28 by decide), wI_c (show 29 ≠ 30 by decide), wI_c (show 29 ≠ 31 by decide), wI_c (show 29 ≠ 32 by decide), wI_c (show 29 ≠ 35 by decide), wI_c (show 30 ≠ 28 by decide), wI_c (show 30 ≠ 29 by decide), wI_c (show 30 ≠ 31 by decide), wI_c (show 30 ≠ 32 by decide), wI_c (show 30 ≠ 35 by decide), wI_c (show 31 ≠ 28 by decide), wI_c (show 31 ≠ 29 by decide), wI_c (show 31 ≠ 30 by decide), wI_c (show 31 ≠ 32 by decide), wI_c (show 31 ≠ 35 by decide), wI_c (show 32 ≠ 28 by decide), wI_c (show 32 ≠ 29 by decide), wI_c (show 32 ≠ 30 by decide), wI_c (show 32 ≠ 31 by decide), wI_c (show 32 ≠ 35 by decide), wI_c (show 35 ≠ 28 by decide), wI_c (show 35 ≠ 29 by decide), wI_c (show 35 ≠ 30 by decide), wI_c (show 35 ≠ 31 by decide), wI_c (show 35 ≠ 32 by decide), wI_s]
        · simp only [wI_c (show 28 ≠ 29 by decide), wI_c (show 28 ≠ 30 by decide), wI_c (show 28 ≠ 31 by decide), wI_c (show 28 ≠ 32 by decide), wI_c (show 28 ≠ 35 by decide), wI_c (show 29 ≠ 28 by decide), wI_c (show 29 ≠ 30 by decide), wI_c (show 29 ≠ 31 by decide), wI_c (show 29 ≠ 32 by decide), wI_c (show 29 ≠ 35 by decide), wI_c (show 30 ≠ 28 by decide), wI_c (show 30 ≠ 29 by decide), wI_c (show 30 ≠ 31 by decide), wI_c (show 30 ≠ 32 by decide), wI_c (show 30 ≠ 35 by decide), wI_c (show 31 ≠ 28 by decide), wI_c (show 31 ≠ 29 by decide), wI_c (show 31 ≠ 30 by decide), wI_c (show 31 ≠ 32 by decide), wI_c (show 31 ≠ 35 by decide), wI_c (show 32 ≠ 28 by decide), wI_c (show 32 ≠ 29 by decide), wI_c (show 32 ≠ 30 by decide), wI_c (show 32 ≠ 31 by decide), wI_c (show 32 ≠ 35 by decide), wI_c (show 35 ≠ 28 by decide), wI_c (show 35 ≠ 29 by decide), wI_c (show 35 ≠ 30 by decide), wI_c (show 35 ≠ 31 by decide), wI_c (show 35 ≠ 32 by decide), wI_s]
        · simp only [wI_c (show 28 ≠ 29 by decide), wI_c (show 28 ≠ 30 by decide), wI_c (show 28 ≠ 31 by decide), wI_c (show 28 ≠ 32 by decide), wI_c (show 28 ≠ 35 by decide), wI_c (show 29 ≠ 28 by decide), wI_c (show 29 ≠ 30 by decide), wI_c (show 29 ≠ 31 by decide), wI_c (show 29 ≠ 32 by decide), wI_c (show 29 ≠ 35 by decide), wI_c (show 30 ≠ 28 by decide), wI_c (show 30 ≠ 29 by decide), wI_c (show 30 ≠ 31 by decide), wI_c (show 30 ≠ 32 by decide), wI_c (show 30 ≠ 35 by decide), wI_c (show 31 ≠ 28 by decide), wI_c (show 31 ≠ 29 by decide), wI_c (show 31 ≠ 30 by decide), wI_c (show 31 ≠ 32 by decide), wI_c (show 31 ≠ 35 by decide), wI_c (show 32 ≠ 28 by decide), wI_c (show 32 ≠ 29 by decide), wI_c (show 32 ≠ 30 by decide), wI_c (show 32 ≠ 31 by decide), wI_c (show 32 ≠ 35 by decide), wI_c (show 35 ≠ 28 by decide), wI_c (show 35 ≠ 29 by decide), wI_c (show 35 ≠ 30 by decide), wI_c (show 35 ≠ 31 by decide), wI_c (show 35 ≠ 32 by decide), wI_s]
        · simp only [wI_c (show 28 ≠ 29 by decide), wI_c (show 28 ≠ 30 by decide), wI_c (show 28 ≠ 31 by decide), wI_c (show 28 ≠ 32 by decide), wI_c (show 28 ≠ 35 by decide), wI_c (show 29 ≠ 28 by decide), wI_c (show 29 ≠ 30 by decide), wI_c (show 29 ≠ 31 by decide), wI_c (show 29 ≠ 32 by decide), wI_c (show 29 ≠ 35 by decide), wI_c (show 30 ≠ 28 by decide), wI_c (show 30 ≠ 29 by decide), wI_c (show 30 ≠ 31 by decide), wI_c (show 30 ≠ 32 by decide), wI_c (show 30 ≠ 35 by decide), wI_c (show 31 ≠ 28 by decide), wI_c (show 31 ≠ 29 by decide), wI_c (show 31 ≠ 30 by decide), wI_c (show 31 ≠ 32 by decide), wI_c (show 31 ≠ 35 by decide), wI_c (show 32 ≠ 28 by decide), wI_c (show 32 ≠ 29 by decide), wI_c (show 32 ≠ 30 by decide), wI_c (show 32 ≠ 31 by decide), wI_c (show 32 ≠ 35 by decide), wI_c (show 35 ≠ 28 by decide), wI_c (show 35 ≠ 29 by decide), wI_c (show 35 ≠ 30 by decide), wI_c (show 35 ≠ 31 by decide), wI_c (show 35 ≠ 32 by decide), wI_s]
      · obtain ⟨z0, z1, z2, z3, z4, z5⟩ := y2 j (by omega) b
        refine ⟨z0.trans ?_, z1.trans ?_, z2.trans ?_, z3.trans ?_, z4.trans ?_, z5.trans ?_⟩
        · simp only [wI_k e]
        · simp only [wI_k e]
        · simp only [wI_k e]
        · simp only [wI_k e]
        · simp only [wI_k e]
        · simp only [wI_k e]
    · have e : j ≠ i := by omega
      obtain ⟨z0, z1, z2, z3, z4, z5⟩ := y3 j (by omega)
      refine ⟨z0.trans ?_, z1.trans ?_, z2.trans ?_, z3.trans ?_, z4.trans ?_, z5.trans ?_⟩
      · simp only [wI_k e]
      · simp only [wI_k e]
      · simp only [wI_k e]
      · simp only [wI_k e]
      · simp only [wI_k e]
      · simp only [wI_k e]
    · rw [y4 q q0 q1 q2 q3 q4 q5, wI_c q5, wI_c q4, wI_c q3, wI_c q2, wI_c q1, wI_c q0]
theorem un4 : ∀ (d i n : Nat) (X : XD), i + d = 10 → d < n → ∃ Y, fX12_undo_205 n (Int32.ofNat i) X = some (Y.1 0 0, Y) ∧ (∀ j, i ≤ j → j < 10 → Y.1 26 j = X.1 36 j ∧ Y.1 27 j = X.1 37 j) ∧ (∀ j, j < i → Y.1 26 j = X.1 26 j ∧ Y.1 27 j = X.1 27 j) ∧ (∀ q, q ≠ 26 → q ≠ 27 → Y.1 q = X.1 q) ∧ Y.2 = X.2 := by
  intro d
  induction d with
  | zero =>
    intro i n X h1 h2
    obtain ⟨n, rfl⟩ : ∃ q, n = q + 1 := ⟨n - 1, by omega⟩
    refine ⟨X, ?_, fun j a b => absurd a (by omega), fun j _ => ⟨rfl, rfl⟩, fun q _ _ => rfl, rfl⟩
    rw [fX12_undo_205_s, if_pos (show (10 : Int32) ≤ Int32.ofNat i from (o_le (a := 10) (by omega) (by omega)).mpr (by omega))]
  | succ d ih =>
    intro i n X h1 h2
    obtain ⟨n, rfl⟩ : ∃ q, n = q + 1 := ⟨n - 1, by omega⟩
    have g : ∀ {α : Type} (x : Option α), gin (Int32.ofNat i) 10 x = x := fun x => gin_o (by omega) (by omega)
    rw [fX12_undo_205_s, if_neg (show ¬ (10 : Int32) ≤ Int32.ofNat i from fun z => by have := (o_le (a := 10) (by omega) (by omega)).mp z; omega)]
    simp only [g, nm_eq]
    rw [i32n (show i < 2147483648 by omega), show Int32.ofNat i + 1 = Int32.ofNat (i + 1) from o_add i 1]
    simp only [wI_c (show 36 ≠ 26 by decide), wI_c (show 36 ≠ 27 by decide), wI_c (show 37 ≠ 26 by decide), wI_c (show 37 ≠ 27 by decide)]
    obtain ⟨Y, y1, y2, y3, y4, y5⟩ := ih (i + 1) n (wI (wI X 26 i (X.1 36 i)) 27 i (X.1 37 i)) (by omega) (by omega)
    refine ⟨Y, y1, fun j a b => ?_, fun j a => ?_, fun q q0 q1 => ?_, y5⟩
    · by_cases e : j = i
      · subst e
        obtain ⟨z0, z1⟩ := y3 j (by omega)
        refine ⟨z0.trans ?_, z1.trans ?_⟩
        · simp only [wI_c (show 26 ≠ 27 by decide), wI_c (show 27 ≠ 26 by decide), wI_s]
        · simp only [wI_c (show 26 ≠ 27 by decide), wI_c (show 27 ≠ 26 by decide), wI_s]
      · obtain ⟨z0, z1⟩ := y2 j (by omega) b
        refine ⟨z0.trans ?_, z1.trans ?_⟩
        · simp only [wI_k e]
        · simp only [wI_k e]
    · have e : j ≠ i := by omega
      obtain ⟨z0, z1⟩ := y3 j (by omega)
      refine ⟨z0.trans ?_, z1.trans ?_⟩
      · simp only [wI_k e]
      · simp only [wI_k e]
    · rw [y4 q q0 q1, wI_c q1, wI_c q0]
theorem un3 : ∀ (d i n : Nat) (X : XD), i + d = 4 → d < n → ∃ Y, fX12_undo_180 n (Int32.ofNat i) X = fX12_undo_205 FU 0 Y ∧ (∀ j, i ≤ j → j < 4 → Y.1 20 j = X.1 34 j) ∧ (∀ j, j < i → Y.1 20 j = X.1 20 j) ∧ (∀ q, q ≠ 20 → Y.1 q = X.1 q) ∧ Y.2 = X.2 := by
  intro d
  induction d with
  | zero =>
    intro i n X h1 h2
    obtain ⟨n, rfl⟩ : ∃ q, n = q + 1 := ⟨n - 1, by omega⟩
    refine ⟨X, ?_, fun j a b => absurd a (by omega), fun j _ => rfl, fun q _ => rfl, rfl⟩
    rw [fX12_undo_180_s, if_pos (show (4 : Int32) ≤ Int32.ofNat i from (o_le (a := 4) (by omega) (by omega)).mpr (by omega))]
  | succ d ih =>
    intro i n X h1 h2
    obtain ⟨n, rfl⟩ : ∃ q, n = q + 1 := ⟨n - 1, by omega⟩
    have g : ∀ {α : Type} (x : Option α), gin (Int32.ofNat i) 4 x = x := fun x => gin_o (by omega) (by omega)
    rw [fX12_undo_180_s, if_neg (show ¬ (4 : Int32) ≤ Int32.ofNat i from fun z => by have := (o_le (a := 4) (by omega) (by omega)).mp z; omega)]
    simp only [g, nm_eq]
    rw [i32n (show i < 2147483648 by omega), show Int32.ofNat i + 1 = Int32.ofNat (i + 1) from o_add i 1]
    obtain ⟨Y, y1, y2, y3, y4, y5⟩ := ih (i + 1) n (wI X 20 i (X.1 34 i)) (by omega) (by omega)
    refine ⟨Y, y1, fun j a b => ?_, fun j a => ?_, fun q q0 => ?_, y5⟩
    · by_cases e : j = i
      · subst e
        have z0 := y3 j (by omega)
        refine z0.trans ?_
        · simp only [wI_s]
      · have z0 := y2 j (by omega) b
        refine z0.trans ?_
        · simp only [wI_k e]
    · have e : j ≠ i := by omega
      have z0 := y3 j (by omega)
      refine z0.trans ?_
      · simp only [wI_k e]
    · rw [y4 q q0, wI_c q0]
theorem un2 : ∀ (d i n : Nat) (X : XD), i + d = 24 → d < n → ∃ Y, fX12_undo_154 n (Int32.ofNat i) X = fX12_undo_180 FU 0 Y ∧ (∀ j, i ≤ j → j < 24 → Y.1 6 j = X.1 33 j) ∧ (∀ j, j < i → Y.1 6 j = X.1 6 j) ∧ (∀ q, q ≠ 6 → Y.1 q = X.1 q) ∧ Y.2 = X.2 := by
  intro d
  induction d with
  | zero =>
    intro i n X h1 h2
    obtain ⟨n, rfl⟩ : ∃ q, n = q + 1 := ⟨n - 1, by omega⟩
    refine ⟨X, ?_, fun j a b => absurd a (by omega), fun j _ => rfl, fun q _ => rfl, rfl⟩
    rw [fX12_undo_154_s, if_pos (show (24 : Int32) ≤ Int32.ofNat i from (o_le (a := 24) (by omega) (by omega)).mpr (by omega))]
  | succ d ih =>
    intro i n X h1 h2
    obtain ⟨n, rfl⟩ : ∃ q, n = q + 1 := ⟨n - 1, by omega⟩
    have g : ∀ {α : Type} (x : Option α), gin (Int32.ofNat i) 24 x = x := fun x => gin_o (by omega) (by omega)
    rw [fX12_undo_154_s, if_neg (show ¬ (24 : Int32) ≤ Int32.ofNat i from fun z => by have := (o_le (a := 24) (by omega) (by omega)).mp z; omega)]
    simp only [g, nm_eq]
    rw [i32n (show i < 2147483648 by omega), show Int32.ofNat i + 1 = Int32.ofNat (i + 1) from o_add i 1]
    obtain ⟨Y, y1, y2, y3, y4, y5⟩ := ih (i + 1) n (wI X 6 i (X.1 33 i)) (by omega) (by omega)
    refine ⟨Y, y1, fun j a b => ?_, fun j a => ?_, fun q q0 => ?_, y5⟩
    · by_cases e : j = i
      · subst e
        have z0 := y3 j (by omega)
        refine z0.trans ?_
        · simp only [wI_s]
      · have z0 := y2 j (by omega) b
        refine z0.trans ?_
        · simp only [wI_k e]
    · have e : j ≠ i := by omega
      have z0 := y3 j (by omega)
      refine z0.trans ?_
      · simp only [wI_k e]
    · rw [y4 q q0, wI_c q0]
theorem un1 : ∀ (d i n : Nat) (X : XD), i + d = 6 → d < n → ∃ Y, fX12_undo_68 n (Int32.ofNat i) X = fX12_undo_154 FU 0 Y ∧ (∀ j, i ≤ j → j < 6 → Y.1 1 j = X.1 28 j ∧ Y.1 2 j = X.1 29 j ∧ Y.1 3 j = X.1 30 j ∧ Y.1 4 j = X.1 31 j ∧ Y.1 5 j = X.1 32 j ∧ Y.1 25 j = X.1 35 j) ∧ (∀ j, j < i → Y.1 1 j = X.1 1 j ∧ Y.1 2 j = X.1 2 j ∧ Y.1 3 j = X.1 3 j ∧ Y.1 4 j = X.1 4 j ∧ Y.1 5 j = X.1 5 j ∧ Y.1 25 j = X.1 25 j) ∧ (∀ q, q ≠ 1 → q ≠ 2 → q ≠ 3 → q ≠ 4 → q ≠ 5 → q ≠ 25 → Y.1 q = X.1 q) ∧ Y.2 = X.2 := by
  intro d
  induction d with
  | zero =>
    intro i n X h1 h2
    obtain ⟨n, rfl⟩ : ∃ q, n = q + 1 := ⟨n - 1, by omega⟩
    refine ⟨X, ?_, fun j a b => absurd a (by omega), fun j _ => ⟨rfl, rfl, rfl, rfl, rfl, rfl⟩, fun q _ _ _ _ _ _ => rfl, rfl⟩
    rw [fX12_undo_68_s, if_pos (show (6 : Int32) ≤ Int32.ofNat i from (o_le (a := 6) (by omega) (by omega)).mpr (by omega))]
  | succ d ih =>
    intro i n X h1 h2
    obtain ⟨n, rfl⟩ : ∃ q, n = q + 1 := ⟨n - 1, by omega⟩
    have g : ∀ {α : Type} (x : Option α), gin (Int32.ofNat i) 6 x = x := fun x => gin_o (by omega) (by omega)
    rw [fX12_undo_68_s, if_neg (show ¬ (6 : Int32) ≤ Int32.ofNat i from fun z => by have := (o_le (a := 6) (by omega) (by omega)).mp z; omega)]
    simp only [g, nm_eq]
    rw [i32n (show i < 2147483648 by omega), show Int32.ofNat i + 1 = Int32.ofNat (i + 1) from o_add i 1]
    simp only [wI_c (show 28 ≠ 1 by decide), wI_c (show 28 ≠ 2 by decide), wI_c (show 28 ≠ 25 by decide), wI_c (show 28 ≠ 3 by decide), wI_c (show 28 ≠ 4 by decide), wI_c (show 28 ≠ 5 by decide), wI_c (show 29 ≠ 1 by decide), wI_c (show 29 ≠ 2 by decide), wI_c (show 29 ≠ 25 by decide), wI_c (show 29 ≠ 3 by decide), wI_c (show 29 ≠ 4 by decide), wI_c (show 29 ≠ 5 by decide), wI_c (show 30 ≠ 1 by decide), wI_c (show 30 ≠ 2 by decide), wI_c (show 30 ≠ 25 by decide), wI_c (show 30 ≠ 3 by decide), wI_c (show 30 ≠ 4 by decide), wI_c (show 30 ≠ 5 by decide), wI_c (show 31 ≠ 1 by decide), wI_c (show 31 ≠ 2 by decide), wI_c (show 31 ≠ 25 by decide), wI_c (show 31 ≠ 3 by decide), wI_c (show 31 ≠ 4 by decide), wI_c (show 31 ≠ 5 by decide), wI_c (show 32 ≠ 1 by decide), wI_c (show 32 ≠ 2 by decide), wI_c (show 32 ≠ 25 by decide), wI_c (show 32 ≠ 3 by decide), wI_c (show 32 ≠ 4 by decide), wI_c (show 32 ≠ 5 by decide), wI_c (show 35 ≠ 1 by decide), wI_c (show 35 ≠ 2 by decide), wI_c (show 35 ≠ 25 by decide), wI_c (show 35 ≠ 3 by decide), wI_c (show 35 ≠ 4 by decide), wI_c (show 35 ≠ 5 by decide)]
    obtain ⟨Y, y1, y2, y3, y4, y5⟩ := ih (i + 1) n (wI (wI (wI (wI (wI (wI X 1 i (X.1 28 i)) 2 i (X.1 29 i)) 3 i (X.1 30 i)) 4 i (X.1 31 i)) 5 i (X.1 32 i)) 25 i (X.1 35 i)) (by omega) (by omega)
    refine ⟨Y, y1, fun j a b => ?_, fun j a => ?_, fun q q0 q1 q2 q3 q4 q5 => ?_, y5⟩
    · by_cases e : j = i
      · subst e
        obtain ⟨z0, z1, z2, z3, z4, z5⟩ := y3 j (by omega)
        refine ⟨z0.trans ?_, z1.trans ?_, z2.trans ?_, z3.trans ?_, z4.trans ?_, z5.trans ?_⟩
        · simp only [wI_c (show 1 ≠ 2 by decide), wI_c (show 1 ≠ 3 by decide), wI_c (show 1 ≠ 4 by decide), wI_c (show 1 ≠ 5 by decide), wI_c (show 1 ≠ 25 by decide), wI_c (show 2 ≠ 1 by decide), wI_c (show 2 ≠ 3 by decide), wI_c (show 2 ≠ 4 by decide), wI_c (show 2 ≠ 5 by decide), wI_c (show 2 ≠ 25 by decide), wI_c (show 3 ≠ 1 by decide), wI_c (show 3 ≠ 2 by decide), wI_c (show 3 ≠ 4 by decide), wI_c (show 3 ≠ 5 by decide), wI_c (show 3 ≠ 25 by decide), wI_c (show 4 ≠ 1 by decide), wI_c (show 4 ≠ 2 by decide), wI_c (show 4 ≠ 3 by decide), wI_c (show 4 ≠ 5 by decide), wI_c (show 4 ≠ 25 by decide), wI_c (show 5 ≠ 1 by decide), wI_c (show 5 ≠ 2 by decide), wI_c (show 5 ≠ 3 by decide), wI_c (show 5 ≠ 4 by decide), wI_c (show 5 ≠ 25 by decide), wI_c (show 25 ≠ 1 by decide), wI_c (show 25 ≠ 2 by decide), wI_c (show 25 ≠ 3 by decide), wI_c (show 25 ≠ 4 by decide), wI_c (show 25 ≠ 5 by decide), wI_s]
        · simp only [wI_c (show 1 ≠ 2 by decide), wI_c (show 1 ≠ 3 by decide), wI_c (show 1 ≠ 4 by decide), wI_c (show 1 ≠ 5 by decide), wI_c (show 1 ≠ 25 by decide), wI_c (show 2 ≠ 1 by decide), wI_c (show 2 ≠ 3 by decide), wI_c (show 2 ≠ 4 by decide), wI_c (show 2 ≠ 5 by decide), wI_c (show 2 ≠ 25 by decide), wI_c (show 3 ≠ 1 by decide), wI_c (show 3 ≠ 2 by decide), wI_c (show 3 ≠ 4 by decide), wI_c (show 3 ≠ 5 by decide), wI_c (show 3 ≠ 25 by decide), wI_c (show 4 ≠ 1 by decide), wI_c (show 4 ≠ 2 by decide), wI_c (show 4 ≠ 3 by decide), wI_c (show 4 ≠ 5 by decide), wI_c (show 4 ≠ 25 by decide), wI_c (show 5 ≠ 1 by decide), wI_c (show 5 ≠ 2 by decide), wI_c (show 5 ≠ 3 by decide), wI_c (show 5 ≠ 4 by decide), wI_c (show 5 ≠ 25 by decide), wI_c (show 25 ≠ 1 by decide), wI_c (show 25 ≠ 2 by decide), wI_c (show 25 ≠ 3 by decide), wI_c (show 25 ≠ 4 by decide), wI_c (show 25 ≠ 5 by decide), wI_s]
        · simp only [wI_c (show 1 ≠ 2 by decide), wI_c (show 1 ≠ 3 by decide), wI_c (show 1 ≠ 4 by decide), wI_c (show 1 ≠ 5 by decide), wI_c (show 1 ≠ 25 by decide), wI_c (show 2 ≠ 1 by decide), wI_c (show 2 ≠ 3 by decide), wI_c (show 2 ≠ 4 by decide), wI_c (show 2 ≠ 5 by decide), wI_c (show 2 ≠ 25 by decide), wI_c (show 3 ≠ 1 by decide), wI_c (show 3 ≠ 2 by decide), wI_c (show 3 ≠ 4 by decide), wI_c (show 3 ≠ 5 by decide), wI_c (show 3 ≠ 25 by decide), wI_c (show 4 ≠ 1 by decide), wI_c (show 4 ≠ 2 by decide), wI_c (show 4 ≠ 3 by decide), wI_c (show 4 ≠ 5 by decide), wI_c (show 4 ≠ 25 by decide), wI_c (show 5 ≠ 1 by decide), wI_c (show 5 ≠ 2 by decide), wI_c (show 5 ≠ 3 by decide), wI_c (show 5 ≠ 4 by decide), wI_c (show 5 ≠ 25 by decide), wI_c (show 25 ≠ 1 by decide), wI_c (show 25 ≠ 2 by decide), wI_c (show 25 ≠ 3 by decide), wI_c (show 25 ≠ 4 by decide), wI_c (show 25 ≠ 5 by decide), wI_s]
        · simp only [wI_c (show 1 ≠ 2 by decide), wI_c (show 1 ≠ 3 by decide), wI_c (show 1 ≠ 4 by decide), wI_c (show 1 ≠ 5 by decide), wI_c (show 1 ≠ 25 by decide), wI_c (show 2 ≠ 1 by decide), wI_c (show 2 ≠ 3 by decide), wI_c (show 2 ≠ 4 by decide), wI_c (show 2 ≠ 5 by decide), wI_c (show 2 ≠ 25 by decide), wI_c (show 3 ≠ 1 by decide), wI_c (show 3 ≠ 2 by decide), wI_c (show 3 ≠ 4 by decide), wI_c (show 3 ≠ 5 by decide), wI_c (show 3 ≠ 25 by decide), wI_c (show 4 ≠ 1 by decide), wI_c (show 4 ≠ 2 by decide), wI_c (show 4 ≠ 3 by decide), wI_c (show 4 ≠ 5 by decide), wI_c (show 4 ≠ 25 by decide), wI_c (show 5 ≠ 1 by decide), wI_c (show 5 ≠ 2 by decide), wI_c (show 5 ≠ 3 by decide), wI_c (show 5 ≠ 4 by decide), wI_c (show 5 ≠ 25 by decide), wI_c (show 25 ≠ 1 by decide), wI_c (show 25 ≠ 2 by decide), wI_c (show 25 ≠ 3 by decide), wI_c (show 25 ≠ 4 by decide), wI_c (show 25 ≠ 5 by decide), wI_s]
        · simp only [wI_c (show 1 ≠ 2 by decide), wI_c (show 1 ≠ 3 by decide), wI_c (show 1 ≠ 4 by decide), wI_c (show 1 ≠ 5 by decide), wI_c (show 1 ≠ 25 by decide), wI_c (show 2 ≠ 1 by decide), wI_c (show 2 ≠ 3 by decide), wI_c (show 2 ≠ 4 by decide), wI_c (show 2 ≠ 5 by decide), wI_c (show 2 ≠ 25 by decide), wI_c (show 3 ≠ 1 by decide), wI_c (show 3 ≠ 2 by decide), wI_c (show 3 ≠ 4 by decide), wI_c (show 3 ≠ 5 by decide), wI_c (show 3 ≠ 25 by decide), wI_c (show 4 ≠ 1 by decide), wI_c (show 4 ≠ 2 by decide), wI_c (show 4 ≠ 3 by decide), wI_c (show 4 ≠ 5 by decide), wI_c (show 4 ≠ 25 by decide), wI_c (show 5 ≠ 1 by decide), wI_c (show 5 ≠ 2 by decide), wI_c (show 5 ≠ 3 by decide), wI_c (show 5 ≠ 4 by decide), wI_c (show 5 ≠ 25 by decide), wI_c (show 25 ≠ 1 by decide), wI_c (show 25 ≠ 2 by decide), wI_c (show 25 ≠ 3 by decide), wI_c (show 25 ≠ 4 by decide), wI_c (show 25 ≠ 5 by decide), wI_s]
        · simp only [wI_c (show 1 ≠ 2 by decide), wI_c (show 1 ≠ 3 by decide), wI_c (show 1 ≠ 4 by decide), wI_c (show 1 ≠ 5 by decide), wI_c (show 1 ≠ 25 by decide), wI_c (show 2 ≠ 1 by decide), wI_c (show 2 ≠ 3 by decide), wI_c (show 2 ≠ 4 by decide), wI_c (show 2 ≠ 5 by decide), wI_c (show 2 ≠ 25 by decide), wI_c (show 3 ≠ 1 by decide), wI_c (show 3 ≠ 2 by decide), wI_c (show 3 ≠ 4 by decide), wI_c (show 3 ≠ 5 by decide), wI_c (show 3 ≠ 25 by decide), wI_c (show 4 ≠ 1 by decide), wI_c (show 4 ≠ 2 by decide), wI_c (show 4 ≠ 3 by decide), wI_c (show 4 ≠ 5 by decide), wI_c (show 4 ≠ 25 by decide), wI_c (show 5 ≠ 1 by decide), wI_c (show 5 ≠ 2 by decide), wI_c (show 5 ≠ 3 by decide), wI_c (show 5 ≠ 4 by decide), wI_c (show 5 ≠ 25 by decide), wI_c (show 25 ≠ 1 by decide), wI_c (show 25 ≠ 2 by decide), wI_c (show 25 ≠ 3 by decide), wI_c (show 25 ≠ 4 by decide), wI_c (show 25 ≠ 5 by decide), wI_s]
      · obtain ⟨z0, z1, z2, z3, z4, z5⟩ := y2 j (by omega) b
        refine ⟨z0.trans ?_, z1.trans ?_, z2.trans ?_, z3.trans ?_, z4.trans ?_, z5.trans ?_⟩
        · simp only [wI_k e]
        · simp only [wI_k e]
        · simp only [wI_k e]
        · simp only [wI_k e]
        · simp only [wI_k e]
        · simp only [wI_k e]
    · have e : j ≠ i := by omega
      obtain ⟨z0, z1, z2, z3, z4, z5⟩ := y3 j (by omega)
      refine ⟨z0.trans ?_, z1.trans ?_, z2.trans ?_, z3.trans ?_, z4.trans ?_, z5.trans ?_⟩
      · simp only [wI_k e]
      · simp only [wI_k e]
      · simp only [wI_k e]
      · simp only [wI_k e]
      · simp only [wI_k e]
      · simp only [wI_k e]
    · rw [y4 q q0 q1 q2 q3 q4 q5, wI_c q5, wI_c q4, wI_c q3, wI_c q2, wI_c q1, wI_c q0]
