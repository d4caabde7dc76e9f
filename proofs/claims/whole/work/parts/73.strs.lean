set_option maxHeartbeats 40000000
set_option maxRecDepth 100000
/-! strings of the program: length, sign, index -/
section
variable {Z : XS} {X : XD} {N : Nat} {tx : Nat → Nat}
def srch (B : List Int32) (v : Int32) : Nat → Nat → Int32
  | 0, _ => -1
  | d + 1, j => if B.getD j 0 = v then Int32.ofNat j else srch B v d (j + 1)
theorem len_sh : ∀ a, a < 7 → (Int32.ofNat (xLen.getD a 0)) >>> ((0 : Int32) &&& 31) = Int32.ofNat (xLen.getD a 0) := by decide +kernel
theorem b8 : ∀ n, n < 128 → (Int32.ofNat n).toInt8.toInt32 = Int32.ofNat n := by decide +kernel
theorem c16 : ∀ n, n < 128 → ((Int32.ofNat n).toUInt32 % 65536).toInt32 = Int32.ofNat n := by decide +kernel
theorem srch5 : ∀ n, n < 128 → srch (xByt.getD 5 []) (Int32.ofNat n) 6 0 = (match letN n with | none => -1 | some f => Int32.ofNat f) := by decide +kernel
theorem srch6 : ∀ n, n < 128 → srch (xByt.getD 6 []) (Int32.ofNat n) 3 0 = (if 60 ≤ n ∧ n ≤ 62 then Int32.ofNat (n - 60) else -1) := by decide +kernel
theorem length_c {a : Nat} (ha : a < 7) : fJ0_length_8abf5 a X = some (Int32.ofNat (xLen.getD a 0)) := by
  unfold fJ0_length_8abf5 fJ0_coder_7d493
  rw [if_neg (show ¬ (1 : Int32) = 0 by decide), bnd_some, len_sh a ha]
theorem latin_c {a : Nat} : fJ0_isLatin1_aae02 a X = some 1 := by
  unfold fJ0_isLatin1_aae02
  rw [if_neg (show ¬ (1 : Int32) = 0 by decide), if_pos rfl]
theorem ix_lp {a L : Nat} (hL : xLen.getD a 0 = L) (hb : L ≤ 100) (v : Int32) : ∀ (d n j : Nat), j + d = L → d < n → fJ1_indexOfChar_4cfef_7 a n (Int32.ofNat L) v (Int32.ofNat j) X = some (srch (xByt.getD a []) v d j) := by
  intro d
  induction d with
  | zero =>
    intro n j hj hn
    obtain ⟨n, rfl⟩ : ∃ q, n = q + 1 := ⟨n - 1, by omega⟩
    rw [fJ1_indexOfChar_4cfef_7_s, if_pos ((o_le (by omega) (by omega)).mpr (by omega))]
    rfl
  | succ d ih =>
    intro n j hj hn
    obtain ⟨n, rfl⟩ : ∃ q, n = q + 1 := ⟨n - 1, by omega⟩
    rw [fJ1_indexOfChar_4cfef_7_s, if_neg (fun q => by have := (o_le (by omega) (by omega)).mp q; omega), gin_o (by omega) (by omega), i32n (by omega)]
    unfold srch
    by_cases q : (xByt.getD a []).getD j 0 = v
    · rw [if_pos q, if_pos q]
    · rw [if_neg q, if_neg q, nm_eq]
      show fJ1_indexOfChar_4cfef_7 a n (Int32.ofNat L) v (Int32.ofNat j + Int32.ofNat 1) X = _
      rw [o_add]
      exact ih n (j + 1) (by omega) (by omega)
theorem ix_c {a L n : Nat} (ha : a < 7) (hL : xLen.getD a 0 = L) (h0 : 0 < L) (hb : L ≤ 100) (hn : n < 128) : fJ0_indexOf_0f7a4 a (((Int32.ofNat n).toUInt32 % 65536).toInt32) X = some (srch (xByt.getD a []) (Int32.ofNat n) L 0) := by
  rw [c16 n hn]
  unfold fJ0_indexOf_0f7a4 fJ0_indexOf_7cf53
  rw [latin_c, bnd_some, if_neg (show ¬ (1 : Int32) = 0 by decide), length_c ha, bnd_some, hL]
  unfold fJ1_indexOf_4cfef fJ1_canEncode_9a6ad
  rw [if_neg (o_ge0 (by omega)), if_neg (show ¬ (255 : Int32) < Int32.ofNat n from fun q => by have := (o_lt (a := 255) (by omega) (by omega)).mp q; omega), bnd_some, if_neg (show ¬ (1 : Int32) = 0 by decide), nm_eq, if_neg (show ¬ (0 : Int32) < 0 by decide), hL, if_neg (fun q => by have := (o_lt (by omega) (by omega)).mp q; omega), nm_eq, if_pos (show (0 : Int32) < Int32.ofNat L from (o_lt (a := 0) (by omega) (by omega)).mpr h0)]
  unfold fJ1_indexOfChar_4cfef
  rw [nm_eq, b8 n hn]
  show bnd (bnd (bnd (fJ1_indexOfChar_4cfef_7 a FU (Int32.ofNat L) (Int32.ofNat n) (Int32.ofNat 0) X) _) _) _ = _
  rw [ix_lp hL hb (Int32.ofNat n) L FU 0 (by omega) (FU_gt (by omega))]
  rfl
/-- one of some signs, as a place in the string -/
theorem oneOf_c (h : TC Z X N tx) {g p a L : Nat} (ha : a < 7) (hL : xLen.getD a 0 = L) (h0 : 0 < L) (hb : L ≤ 100) (hp : X.1 g 7 = Int32.ofNat p) (hpb : p < 100000) : fX1_oneOf Z g 45 a X = some (if p < N then (if srch (xByt.getD a []) (Int32.ofNat (cT N tx p)) L 0 < 0 then (srch (xByt.getD a []) (Int32.ofNat (cT N tx p)) L 0, X) else (srch (xByt.getD a []) (Int32.ofNat (cT N tx p)) L 0, mv X g (p + 1))) else ((-1 : Int32), X)) := by
  unfold fX1_oneOf
  rw [hp, h.at (by omega), bnd_some]
  by_cases q : p < N
  · have q1 := h.le127 q
    have e1 : cI (cT N tx p) = Int32.ofNat (cT N tx p) := if_neg (by omega)
    rw [e1, if_pos (show (0 : Int32) ≤ Int32.ofNat (cT N tx p) from (o_le (a := 0) (by omega) (by omega)).mpr (Nat.zero_le _)), ix_c ha hL h0 hb (by omega), bnd_some, if_pos q]
    by_cases r : srch (xByt.getD a []) (Int32.ofNat (cT N tx p)) L 0 < 0
    · rw [if_pos r, if_pos r]
    · rw [if_neg r, if_neg r, nm_eq]
      show some (_, wI X g 7 (Int32.ofNat p + Int32.ofNat 1)) = _
      rw [o_add]
      rfl
  · have e1 : cI (cT N tx p) = -1 := if_pos (if_neg q)
    rw [e1, if_neg (show ¬ (0 : Int32) ≤ -1 by decide), if_neg q]
theorem let_c (h : TC Z X N tx) {g p : Nat} (hp : X.1 g 7 = Int32.ofNat p) (hpb : p < 100000) : fX1_oneOf Z g 45 5 X = some (match letN (cT N tx p) with | none => ((-1 : Int32), X) | some f => (Int32.ofNat f, mv X g (p + 1))) := by
  rw [oneOf_c h (by decide) (show xLen.getD 5 0 = 6 from rfl) (by decide) (by decide) hp hpb]
  by_cases q : p < N
  · have q1 := h.le127 q
    rw [if_pos q, srch5 _ (by omega)]
    cases e : letN (cT N tx p) with
    | none => dsimp only; rw [if_pos (show (-1 : Int32) < 0 by decide)]
    | some f =>
      have := letN_b e
      dsimp only
      rw [if_neg (o_ge0 (by omega))]
  · rw [if_neg q, show cT N tx p = 1000 from if_neg q]
    rfl
theorem sgn_c (h : TC Z X N tx) {g p : Nat} (hp : X.1 g 7 = Int32.ofNat p) (hpb : p < 100000) : fX1_oneOf Z g 45 6 X = some (if 60 ≤ cT N tx p ∧ cT N tx p ≤ 62 then (Int32.ofNat (cT N tx p - 60), mv X g (p + 1)) else ((-1 : Int32), X)) := by
  rw [oneOf_c h (by decide) (show xLen.getD 6 0 = 3 from rfl) (by decide) (by decide) hp hpb]
  by_cases q : p < N
  · have q1 := h.le127 q
    rw [if_pos q, srch6 _ (by omega)]
    by_cases e : 60 ≤ cT N tx p ∧ cT N tx p ≤ 62
    · rw [if_pos e, if_neg (o_ge0 (by omega)), if_pos e]
    · rw [if_neg e, if_pos (show (-1 : Int32) < 0 by decide), if_neg e]
  · rw [if_neg q, show cT N tx p = 1000 from if_neg q, if_neg (by omega)]
/-- a sign of a string -/
theorem charAt_c {a j : Nat} (hj : j < xLen.getD a 0) (hb : xLen.getD a 0 ≤ 100) (hv : ((((xByt.getD a []).getD j 0 &&& (255 : Int32)).toUInt32 % 65536).toInt32) = (xByt.getD a []).getD j 0) (hv2 : (((xByt.getD a []).getD j 0).toUInt32 % 65536).toInt32 = (xByt.getD a []).getD j 0) : fJ0_charAt_5068e a (Int32.ofNat j) X = some ((xByt.getD a []).getD j 0) := by
  unfold fJ0_charAt_5068e
  rw [latin_c, bnd_some, if_neg (show ¬ (1 : Int32) = 0 by decide)]
  unfold fJ1_charAt_3b067 fJ0_checkIndex_df160 fJ3_checkIndex_8e157
  rw [if_neg (o_ge0 (by omega)), if_pos ((o_lt (by omega) (by omega)).mpr hj), bnd_some, bnd_some, gin_o hj (by omega), i32n (by omega), hv]
  unfold gch
  rw [if_pos hv2, bnd_some, if_pos hv2]
end
