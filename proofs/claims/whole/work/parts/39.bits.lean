set_option maxHeartbeats 40000000
set_option maxRecDepth 100000
/-! the class's stack: sixteen entries of four bits in a long -/
def bt (w : Int64) (i : Nat) : Bool := w.toBitVec.getLsbD i
def Bt (w : Int64) (s : Nat) (st : List Bool) : Prop := ∀ k, k < 16 → bt w (4 * k + s) = st.getD k false
theorem bt15 : ∀ i, i < 64 → (15#64).getLsbD i = decide (i < 4) := by decide +kernel
theorem btm16 : ∀ i, i < 64 → (-16 : Int64).toBitVec.getLsbD i = decide (4 ≤ i) := by decide +kernel
theorem bt_not {w : Int64} {i : Nat} (h : i < 64) : bt (w ^^^ 15) i = (bt w i ^^ decide (i < 4)) := by
  unfold bt
  rw [Int64.toBitVec_xor, BitVec.getLsbD_xor]
  show (_ ^^ (15#64).getLsbD i) = _
  rw [bt15 i h]
theorem bt_and15 {w : Int64} {i : Nat} (h : i < 64) : bt (w &&& 15) i = (bt w i && decide (i < 4)) := by
  unfold bt
  rw [Int64.toBitVec_and, BitVec.getLsbD_and]
  show (_ && (15#64).getLsbD i) = _
  rw [bt15 i h]
theorem bt_or {w u : Int64} {i : Nat} : bt (w ||| u) i = (bt w i || bt u i) := by
  unfold bt
  rw [Int64.toBitVec_or, BitVec.getLsbD_or]
theorem bt_and {w u : Int64} {i : Nat} : bt (w &&& u) i = (bt w i && bt u i) := by
  unfold bt
  rw [Int64.toBitVec_and, BitVec.getLsbD_and]
theorem bt_shr {w : Int64} {i : Nat} : bt ((w.toUInt64 >>> ((4 : Int32).toInt64.toUInt64 &&& Int64.toUInt64 63)).toInt64) i = bt w (4 + i) := by
  have e : ((w.toUInt64 >>> ((4 : Int32).toInt64.toUInt64 &&& Int64.toUInt64 63)).toInt64).toBitVec = w.toBitVec >>> 4 := rfl
  unfold bt
  rw [e, BitVec.getLsbD_ushiftRight]
theorem bt_shl {w : Int64} {i : Nat} (h : i < 64) : bt (w <<< ((4 : Int32).toInt64 &&& 63)) i = (decide (4 ≤ i) && bt w (i - 4)) := by
  have e : (w <<< ((4 : Int32).toInt64 &&& 63)).toBitVec = w.toBitVec <<< 4 := rfl
  unfold bt
  rw [e, BitVec.getLsbD_shiftLeft]
  by_cases q : i < 4
  · simp [q, h, show ¬ 4 ≤ i by omega]
  · simp [q, h, show 4 ≤ i by omega]
theorem o_64 {m : Nat} (h : m < 2147483648) : (Int32.ofNat m).toInt64 = Int64.ofNat m := Int32.toInt64_ofNat' (by show (m : Int) ≤ 2147483647; omega)
theorem bt_of {m i : Nat} (h : i < 64) : bt (Int64.ofNat m) i = m.testBit i := by
  unfold bt
  show (BitVec.ofNat 64 m).getLsbD i = _
  rw [BitVec.getLsbD_ofNat]
  simp [h]
theorem bt_last {w : Int64} : ∃ m, m < 16 ∧ (w &&& 15).toInt32 = Int32.ofNat m ∧ ∀ s, s < 4 → m.testBit s = bt w s := by
  have hm : (w.toBitVec &&& 15#64).toNat < 16 := by
    rw [BitVec.toNat_and]
    exact Nat.lt_of_le_of_lt Nat.and_le_right (by decide)
  refine ⟨(w.toBitVec &&& 15#64).toNat, hm, ?_, fun s hs => ?_⟩
  · apply Int32.toInt_inj.mp
    rw [Int64.toInt_toInt32, i32_ofN (by omega)]
    have e : (w &&& 15).toInt = ((w.toBitVec &&& 15#64).toNat : Int) := by
      show (w.toBitVec &&& 15#64).toInt = _
      rw [BitVec.toInt_eq_toNat_of_lt (by omega)]
    rw [e]
    exact Int.bmod_eq_of_le (by omega) (by omega)
  · show (w.toBitVec &&& 15#64).getLsbD s = _
    have := bt_and15 (w := w) (i := s) (by omega)
    unfold bt at this
    rw [Int64.toBitVec_and] at this
    refine this.trans ?_
    simp [hs, bt]
theorem Bt.nil {s : Nat} (hs : s < 4) : Bt 0 s [] := fun k hk => by
  unfold bt
  show (0#64).getLsbD _ = _
  simp
theorem Bt.not {w : Int64} {s : Nat} {b : Bool} {r : List Bool} (hs : s < 4) (h : Bt w s (b :: r)) : Bt (w ^^^ 15) s ((!b) :: r) := fun k hk => by
  rw [bt_not (by omega), h k hk]
  cases k with
  | zero => simp [hs]
  | succ k => simp [show ¬ 4 * (k + 1) + s < 4 by omega]
theorem Bt.or {w : Int64} {s : Nat} {b a : Bool} {r : List Bool} (hs : s < 4) (hl : r.length ≤ 13) (h : Bt w s (b :: a :: r)) : Bt (((w.toUInt64 >>> ((4 : Int32).toInt64.toUInt64 &&& Int64.toUInt64 63)).toInt64) ||| (w &&& 15)) s ((a || b) :: r) := fun k hk => by
  rw [bt_or, bt_shr, bt_and15 (by omega), show 4 + (4 * k + s) = 4 * (k + 1) + s by omega]
  cases k with
  | zero =>
    rw [h 1 (by omega), h 0 (by omega)]
    simp [hs]
  | succ k =>
    rw [show decide (4 * (k + 1) + s < 4) = false from decide_eq_false (by omega), Bool.and_false, Bool.or_false]
    by_cases e : k + 1 + 1 < 16
    · rw [h _ e]; rfl
    · have : bt w (4 * (k + 1 + 1) + s) = false := by
        unfold bt
        exact BitVec.getLsbD_of_ge _ _ (by omega)
      rw [this]
      simp [show r.length ≤ k by omega]
theorem Bt.and {w : Int64} {s : Nat} {b a : Bool} {r : List Bool} (hs : s < 4) (hl : r.length ≤ 13) (h : Bt w s (b :: a :: r)) : Bt (((w.toUInt64 >>> ((4 : Int32).toInt64.toUInt64 &&& Int64.toUInt64 63)).toInt64) &&& ((w &&& 15) ||| (-16 : Int64))) s ((a && b) :: r) := fun k hk => by
  have e16 : bt (-16) (4 * k + s) = decide (4 ≤ 4 * k + s) := btm16 _ (by omega)
  rw [bt_and, bt_or, bt_shr, bt_and15 (by omega), e16, show 4 + (4 * k + s) = 4 * (k + 1) + s by omega]
  cases k with
  | zero =>
    rw [h 1 (by omega), h 0 (by omega)]
    simp [hs, show ¬ 4 ≤ s by omega]
  | succ k =>
    rw [show decide (4 ≤ 4 * (k + 1) + s) = true from decide_eq_true (by omega), Bool.or_true, Bool.and_true]
    by_cases e : k + 1 + 1 < 16
    · rw [h _ e]; rfl
    · have : bt w (4 * (k + 1 + 1) + s) = false := by
        unfold bt
        exact BitVec.getLsbD_of_ge _ _ (by omega)
      rw [this]
      simp [show r.length ≤ k by omega]
theorem Bt.push {w : Int64} {s m : Nat} {r : List Bool} (hs : s < 4) (hm : m < 16) (h : Bt w s r) : Bt ((w <<< ((4 : Int32).toInt64 &&& 63)) ||| (Int32.ofNat m).toInt64) s (m.testBit s :: r) := fun k hk => by
  rw [bt_or, bt_shl (by omega), o_64 (by omega), bt_of (by omega)]
  cases k with
  | zero => simp [show ¬ 4 ≤ s by omega]
  | succ k =>
    rw [show 4 * (k + 1) + s - 4 = 4 * k + s by omega, h k (by omega)]
    have : m.testBit (4 * (k + 1) + s) = false := Nat.testBit_lt_two_pow (Nat.lt_of_lt_of_le hm (by
      show 2 ^ 4 ≤ _
      exact Nat.pow_le_pow_right (by decide) (by omega)))
    rw [this]
    simp [show 4 ≤ 4 * (k + 1) + s by omega]
