set_option maxHeartbeats 40000000
set_option maxRecDepth 100000
/-! the class's parser: words, clauses, texts -/
section
variable {Z : XS} {X : XD} {N : Nat} {tx : Nat → Nat}
theorem chars5 : ∀ a, a < 5 → ∀ j, j < xLen.getD a 0 → ((((xByt.getD a []).getD j 0 &&& (255 : Int32)).toUInt32 % 65536).toInt32) = (xByt.getD a []).getD j 0 ∧ (((xByt.getD a []).getD j 0).toUInt32 % 65536).toInt32 = (xByt.getD a []).getD j 0 ∧ (xByt.getD a []).getD j 0 = Int32.ofNat ((wd a).getD j 0) := by decide +kernel
theorem alike_lp (hT : TC Z X N tx) {g p a : Nat} (ha : a < 5) (hp : X.1 g 7 = Int32.ofNat p) (hb : p ≤ 100) : ∀ (B : List Nat) (n j : Nat), (wd a).drop j = B → j + B.length = (wd a).length → B.length < n → fX1_alike_2 Z g 45 a n (Int32.ofNat j) X = some (Int32.ofNat (j + alk N tx B (p + j))) := by
  have hl := wd_len a ha
  have h5 := (wd_b a ha).2
  intro B
  induction B with
  | nil =>
    intro n j hd hj hn
    obtain ⟨n, rfl⟩ : ∃ q, n = q + 1 := ⟨n - 1, by omega⟩
    rw [fX1_alike_2_s, length_c (by omega), bnd_some, hl, if_pos ((o_le (by omega) (by omega)).mpr (by rw [List.length_nil] at hj; omega))]
    rfl
  | cons b B ih =>
    intro n j hd hj hn
    rw [List.length_cons] at hj hn
    obtain ⟨n, rfl⟩ : ∃ q, n = q + 1 := ⟨n - 1, by omega⟩
    have hbj : (wd a).getD j 0 = b := by
      have := congrArg (fun l => l.getD 0 0) hd
      simpa [List.getD_eq_getElem?_getD, List.getElem?_drop] using this
    have hdr : (wd a).drop (j + 1) = B := by
      have := congrArg List.tail hd
      simpa [List.tail_drop] using this
    have hbm : b ∈ wd a := by
      have : b ∈ (wd a).drop j := by rw [hd]; exact List.mem_cons_self ..
      exact List.mem_of_mem_drop this
    have hb1 := ((wd_b a ha).1 b hbm).1
    obtain ⟨v1, v2, v3⟩ := chars5 a ha j (by omega)
    rw [fX1_alike_2_s, length_c (by omega), bnd_some, hl, if_neg (fun q => by have := (o_le (by omega) (by omega)).mp q; omega), hp, o_add, hT.at (by omega), bnd_some, charAt_c (by omega) (by omega) v1 v2, bnd_some, v3, hbj]
    unfold alk
    by_cases c : cT N tx (p + j) = b
    · rw [if_pos ((cI_eq (hT.le _) hb1).mpr c), if_pos c, nm_eq]
      show fX1_alike_2 Z g 45 a n (Int32.ofNat j + Int32.ofNat 1) X = _
      rw [o_add, ih n (j + 1) hdr (by omega) (by omega), show j + 1 + alk N tx B (p + (j + 1)) = j + (1 + alk N tx B (p + j + 1)) by rw [← Nat.add_assoc p j 1]; omega]
    · rw [if_neg (fun q => c ((cI_eq (hT.le _) hb1).mp q)), if_neg c]
      rfl
theorem alike_c (hT : TC Z X N tx) {g p a : Nat} (ha : a < 5) (hp : X.1 g 7 = Int32.ofNat p) (hb : p ≤ 100) : fX1_alike Z g 45 a X = some (Int32.ofNat (alk N tx (wd a) p)) := by
  have h5 := (wd_b a ha).2
  unfold fX1_alike
  have := alike_lp hT ha hp hb (wd a) FU 0 rfl (by omega) (FU_gt (by omega))
  rw [Nat.zero_add, Nat.add_zero] at this
  exact this
def wlk (A L : Nat → Nat) : Nat → Nat → Nat → Option Nat × Nat
  | 0, _, best => (none, best)
  | d + 1, i, best => if A i = L i then (some i, A i) else wlk A L d (i + 1) (if best < A i then A i else best)
theorem spelling_c : ∀ i, i < 5 → fX1_spelling Z (Int32.ofNat i) X = some i := by
  intro i hi
  match i, hi with
  | 0, _ => rfl
  | 1, _ => rfl
  | 2, _ => rfl
  | 3, _ => rfl
  | 4, _ => rfl
theorem word_lp (hT : TC Z X N tx) {g p : Nat} (hp : X.1 g 7 = Int32.ofNat p) (hb : p ≤ 100) : ∀ (d n i best : Nat), i + d = 5 → d < n → best ≤ 5 → fX1_word_4 Z g 45 n (Int32.ofNat best) (Int32.ofNat i) X = some (match wlk (fun k => alk N tx (wd k) p) (fun k => (wd k).length) d i best with | (none, b) => ((-1 : Int32), mv X g (p + b)) | (some k, b) => (Int32.ofNat k, mv X g (p + b))) := by
  intro d
  induction d with
  | zero =>
    intro n i best hi hn hbb
    obtain ⟨n, rfl⟩ : ∃ q, n = q + 1 := ⟨n - 1, by omega⟩
    rw [fX1_word_4_s, if_pos (show (5 : Int32) ≤ Int32.ofNat i from (o_le (a := 5) (by omega) (by omega)).mpr (by omega)), nm_eq, hp, o_add]
    rfl
  | succ d ih =>
    intro n i best hi hn hbb
    obtain ⟨n, rfl⟩ : ∃ q, n = q + 1 := ⟨n - 1, by omega⟩
    obtain ⟨w1, w2⟩ := wd_b i (by omega)
    have a1 := (alk_b (N := N) (tx := tx) w1 (p := p)).1
    rw [fX1_word_4_s, if_neg (show ¬ (5 : Int32) ≤ Int32.ofNat i from fun q => by have := (o_le (a := 5) (by omega) (by omega)).mp q; omega), spelling_c i (by omega), bnd_some, alike_c hT (by omega) hp hb, bnd_some, length_c (by omega), bnd_some, wd_len i (by omega)]
    unfold wlk
    by_cases c : alk N tx (wd i) p = (wd i).length
    · rw [if_pos (by rw [c]), if_pos c, nm_eq, hp, o_add]
      rfl
    · rw [if_neg (fun q => c ((o_eq (by omega) (by omega)).mp q)), if_neg c, nm_eq, nm_eq]
      have e : (if Int32.ofNat best < Int32.ofNat (alk N tx (wd i) p) then Int32.ofNat (alk N tx (wd i) p) else Int32.ofNat best) = Int32.ofNat (if best < alk N tx (wd i) p then alk N tx (wd i) p else best) := by
        by_cases q : best < alk N tx (wd i) p
        · rw [if_pos q, if_pos ((o_lt (by omega) (by omega)).mpr q)]
        · rw [if_neg q, if_neg (fun z => q ((o_lt (by omega) (by omega)).mp z))]
      rw [e]
      show fX1_word_4 Z g 45 n _ (Int32.ofNat i + Int32.ofNat 1) X = _
      rw [o_add]
      exact ih n (i + 1) _ (by omega) (by omega) (by split <;> omega)
theorem alk_hd {b p : Nat} {B : List Nat} (h : ¬ cT N tx p = b) : alk N tx (b :: B) p = 0 := if_neg h
theorem alk_2 {a b p : Nat} {B : List Nat} (h : ¬ cT N tx (p + 1) = b) : alk N tx (a :: b :: B) p ≤ 1 := by
  unfold alk
  by_cases c : cT N tx p = a
  · rw [if_pos c, alk_hd h]; exact Nat.le_refl _
  · rw [if_neg c]; exact Nat.zero_le _
theorem alk_1 {a p : Nat} {B : List Nat} (h : cT N tx p = a) : 1 ≤ alk N tx (a :: B) p := by
  unfold alk
  rw [if_pos h]
  omega
theorem wlk_k {A L : Nat → Nat} {k : Nat} (hk : ∀ j, j < 5 → j ≠ k → A j < L j ∧ A j ≤ A k) (k5 : k < 5) : ∀ (d i best : Nat), i + d = 5 → best ≤ A k → (i ≤ k → wlk A L d i best = if A k = L k then (some k, L k) else (none, A k)) ∧ (k < i → best = A k → wlk A L d i best = (none, A k)) := by
  intro d
  induction d with
  | zero => intro i best hi hb; exact ⟨fun h => by omega, fun _ h => by rw [h]; rfl⟩
  | succ d ih =>
    intro i best hi hb
    unfold wlk
    by_cases e : i = k
    · subst e
      refine ⟨fun _ => ?_, fun h => by omega⟩
      by_cases c : A i = L i
      · rw [if_pos c, if_pos c, c]
      · rw [if_neg c, if_neg c]
        have e2 : (if best < A i then A i else best) = A i := by split <;> omega
        rw [e2]
        exact (ih (i + 1) (A i) (by omega) (Nat.le_refl _)).2 (by omega) rfl
    · obtain ⟨h1, h2⟩ := hk i (by omega) e
      rw [if_neg (show ¬ A i = L i by omega)]
      have e2 : (if best < A i then A i else best) ≤ A k := by split <;> omega
      obtain ⟨i1, i2⟩ := ih (i + 1) _ (by omega) e2
      refine ⟨fun h => i1 (by omega), fun h h3 => i2 (by omega) ?_⟩
      rw [if_neg (by omega)]
      exact h3
theorem wlk_pk {p : Nat} : wlk (fun k => alk N tx (wd k) p) (fun k => (wd k).length) 5 0 0 = (if alk N tx (wd (pk N tx p)) p = (wd (pk N tx p)).length then (some (pk N tx p), (wd (pk N tx p)).length) else (none, alk N tx (wd (pk N tx p)) p)) := by
  refine (wlk_k (A := fun k => alk N tx (wd k) p) (L := fun k => (wd k).length) (k := pk N tx p) (fun j hj hn => ?_) pk_b 5 0 0 rfl (Nat.zero_le _)).1 (Nat.zero_le _)
  have w0 : wd 0 = [105, 110] := rfl
  have w1 : wd 1 = [115, 97, 118, 101] := rfl
  have w2 : wd 2 = [108, 101, 102, 116] := rfl
  have w3 : wd 3 = [114, 105, 103, 104, 116] := rfl
  have w4 : wd 4 = [115, 116, 97, 121] := rfl
  have f0 : ¬ cT N tx p = 105 → alk N tx (wd 0) p = 0 := fun h => by rw [w0]; exact alk_hd h
  have f1 : ¬ cT N tx p = 115 → alk N tx (wd 1) p = 0 := fun h => by rw [w1]; exact alk_hd h
  have f2 : ¬ cT N tx p = 108 → alk N tx (wd 2) p = 0 := fun h => by rw [w2]; exact alk_hd h
  have f3 : ¬ cT N tx p = 114 → alk N tx (wd 3) p = 0 := fun h => by rw [w3]; exact alk_hd h
  have f4 : ¬ cT N tx p = 115 → alk N tx (wd 4) p = 0 := fun h => by rw [w4]; exact alk_hd h
  have g1 : ¬ cT N tx (p + 1) = 97 → alk N tx (wd 1) p ≤ 1 := fun h => by rw [w1]; exact alk_2 h
  have g4 : ¬ cT N tx (p + 1) = 116 → alk N tx (wd 4) p ≤ 1 := fun h => by rw [w4]; exact alk_2 h
  have k1 : cT N tx p = 115 → 1 ≤ alk N tx (wd 1) p := fun h => by rw [w1]; exact alk_1 h
  have k4 : cT N tx p = 115 → 1 ≤ alk N tx (wd 4) p := fun h => by rw [w4]; exact alk_1 h
  have l0 : (wd 0).length = 2 := rfl
  have l1 : (wd 1).length = 4 := rfl
  have l2 : (wd 2).length = 4 := rfl
  have l3 : (wd 3).length = 5 := rfl
  have l4 : (wd 4).length = 4 := rfl
  have fin : ∀ k, pk N tx p = k → (∀ i, i < 5 → i ≠ k → alk N tx (wd i) p < (wd i).length ∧ alk N tx (wd i) p ≤ alk N tx (wd k) p) → alk N tx (wd j) p < (wd j).length ∧ alk N tx (wd j) p ≤ alk N tx (wd (pk N tx p)) p := by
    intro k e h
    rw [e] at hn ⊢
    exact h j hj hn
  have five : ∀ {P : Nat → Prop}, P 0 → P 1 → P 2 → P 3 → P 4 → ∀ i, i < 5 → P i := by
    intro P p0 p1 p2 p3 p4 i hi
    match i, hi with
    | 0, _ => exact p0
    | 1, _ => exact p1
    | 2, _ => exact p2
    | 3, _ => exact p3
    | 4, _ => exact p4
  by_cases c0 : cT N tx p = 105
  · have b1 := f1 (by omega); have b2 := f2 (by omega); have b3 := f3 (by omega); have b4 := f4 (by omega)
    exact fin 0 (by unfold pk; rw [if_pos c0]) (five (by omega) (by omega) (by omega) (by omega) (by omega))
  have b0 := f0 c0
  by_cases c2 : cT N tx p = 108
  · have b1 := f1 (by omega); have b3 := f3 (by omega); have b4 := f4 (by omega)
    exact fin 2 (by unfold pk; rw [if_neg c0, if_pos c2]) (five (by omega) (by omega) (by omega) (by omega) (by omega))
  have b2 := f2 c2
  by_cases c3 : cT N tx p = 114
  · have b1 := f1 (by omega); have b4 := f4 (by omega)
    exact fin 3 (by unfold pk; rw [if_neg c0, if_neg c2, if_pos c3]) (five (by omega) (by omega) (by omega) (by omega) (by omega))
  have b3 := f3 c3
  by_cases c1 : cT N tx p = 115
  · have d1 := k1 c1; have d4 := k4 c1
    by_cases c4 : cT N tx (p + 1) = 116
    · have e1 := g1 (by omega)
      exact fin 4 (by unfold pk; rw [if_neg c0, if_neg c2, if_neg c3, if_pos c4]) (five (by omega) (by omega) (by omega) (by omega) (by omega))
    · have e4 := g4 c4
      exact fin 1 (by unfold pk; rw [if_neg c0, if_neg c2, if_neg c3, if_neg c4]) (five (by omega) (by omega) (by omega) (by omega) (by omega))
  · have b1 := f1 c1; have b4 := f4 c1
    by_cases c4 : cT N tx (p + 1) = 116
    · exact fin 4 (by unfold pk; rw [if_neg c0, if_neg c2, if_neg c3, if_pos c4]) (five (by omega) (by omega) (by omega) (by omega) (by omega))
    · exact fin 1 (by unfold pk; rw [if_neg c0, if_neg c2, if_neg c3, if_neg c4]) (five (by omega) (by omega) (by omega) (by omega) (by omega))
end
