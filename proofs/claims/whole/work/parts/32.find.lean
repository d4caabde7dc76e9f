set_option maxHeartbeats 40000000
set_option maxRecDepth 100000
/-! who is there: the class's find against the reference's isShooter -/
theorem o_sub1 {n : Nat} (h : n ≤ 1000) : (Int32.ofNat n - 1).toInt = (n : Int) - 1 := by
  rw [Int32.toInt_sub, i32_ofN (by omega)]
  have : (1 : Int32).toInt = 1 := rfl
  rw [this]
  exact Int.bmod_eq_of_le (by omega) (by omega)
theorem isSh_0 {X : XD} {x : Int32} {n : Nat} (hm : X.1 0 0 = Int32.ofNat n) (hn : n ≤ 6) (h : x < 0 ∨ Int32.ofNat n ≤ x) : fX12_isShooter x X = some 0 := by
  unfold fX12_isShooter fX12_in
  rw [hm]
  by_cases q : x < 0
  · rw [if_pos q]; rfl
  · rw [if_neg q, if_pos]
    · rfl
    · rw [Int32.lt_iff_toInt_lt, o_sub1 (by omega)]
      have h2 := h.resolve_left q
      rw [Int32.le_iff_toInt_le, i32_ofN (by omega)] at h2
      omega
theorem isSh_1 {X : XD} {i n : Nat} (hm : X.1 0 0 = Int32.ofNat n) (hn : n ≤ 6) (h : i < n) : fX12_isShooter (Int32.ofNat i) X = some 1 := by
  unfold fX12_isShooter fX12_in
  rw [hm, if_neg (o_ge0 (by omega)), if_neg]
  · rfl
  · rw [Int32.lt_iff_toInt_lt, o_sub1 (by omega), i32_ofN (by omega)]
    omega
theorem find_0 {Z : XS} {X : XD} {x : Int32} {n : Nat} (hm : X.1 47 0 = Int32.ofNat n) (h : x < 0 ∨ Int32.ofNat n ≤ x) : fX11_find Z x X = some none := by
  unfold fX11_find
  rw [hm]
  by_cases q : x < 0
  · rw [if_pos q]
  · rw [if_neg q, if_pos (h.resolve_left q)]
theorem find_1 {Z : XS} {X : XD} {i n t : Nat} (hm : X.1 47 0 = Int32.ofNat n) (hn : n ≤ 6) (h : i < n) (ht : sR Z 1 i = some t) : fX11_find Z (Int32.ofNat i) X = some (some t) := by
  unfold fX11_find
  rw [hm, if_neg (o_ge0 (by omega)), if_neg (fun q => by have := (o_le (by omega) (by omega)).mp q; omega), if_pos (show Int32.ofNat i < (6 : Int32) from (o_lt (b := 6) (by omega) (by omega)).mpr (by omega)), gin_o (by omega) (by omega), i32n (by omega), ht]
  rfl
theorem find_cases {Zc : XS} {Xc Xm : XD} {n : Nat} {P : Nat → Nat → Prop} (hc : Xc.1 47 0 = Int32.ofNat n) (hm : Xm.1 0 0 = Int32.ofNat n) (hn : n ≤ 6) (hS : ∀ i, i < n → ∃ t, sR Zc 1 i = some t ∧ P i t) (x : Int32) : (fX11_find Zc x Xc = some none ∧ fX12_isShooter x Xm = some 0) ∨ ∃ i t, i < n ∧ x = Int32.ofNat i ∧ sR Zc 1 i = some t ∧ P i t ∧ fX11_find Zc x Xc = some (some t) ∧ fX12_isShooter x Xm = some 1 := by
  by_cases h : x < 0 ∨ Int32.ofNat n ≤ x
  · exact Or.inl ⟨find_0 hc h, isSh_0 hm hn h⟩
  · obtain ⟨i, hi, rfl⟩ := o_of (fun q => h (Or.inl q))
    have hlt : i < n := by
      have h2 : ¬ Int32.ofNat n ≤ Int32.ofNat i := fun q => h (Or.inr q)
      have h3 := mt (o_le (a := n) (b := i) (by omega) hi).mpr h2
      omega
    obtain ⟨t, ht, hP⟩ := hS i hlt
    exact Or.inr ⟨i, t, hlt, rfl, ht, hP, find_1 hc hn hlt ht, isSh_1 hm hn hlt⟩
