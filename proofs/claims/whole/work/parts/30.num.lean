set_option maxHeartbeats 40000000
set_option maxRecDepth 100000
/-! numbers: Int32 under bounds as Int32.ofNat -/
theorem o_lt {a b : Nat} (ha : a < 2147483648) (hb : b < 2147483648) : Int32.ofNat a < Int32.ofNat b ↔ a < b := by
  rw [Int32.lt_iff_toInt_lt, i32_ofN ha, i32_ofN hb]
  omega
theorem o_le {a b : Nat} (ha : a < 2147483648) (hb : b < 2147483648) : Int32.ofNat a ≤ Int32.ofNat b ↔ a ≤ b := by
  rw [Int32.le_iff_toInt_le, i32_ofN ha, i32_ofN hb]
  omega
theorem o_eq {a b : Nat} (ha : a < 2147483648) (hb : b < 2147483648) : Int32.ofNat a = Int32.ofNat b ↔ a = b := by
  constructor
  · intro h
    have h2 := congrArg Int32.toInt h
    rw [i32_ofN ha, i32_ofN hb] at h2
    omega
  · intro h
    rw [h]
theorem o_add (a b : Nat) : Int32.ofNat a + Int32.ofNat b = Int32.ofNat (a + b) := (Int32.ofNat_add a b).symm
theorem o_ge0 {a : Nat} (ha : a < 2147483648) : ¬ Int32.ofNat a < 0 := by
  rw [Int32.lt_iff_toInt_lt, i32_ofN ha]
  have : (0 : Int32).toInt = 0 := rfl
  omega
/-- an int that is not below 0 and below a bound -/
theorem o_of {x : Int32} (h : ¬ x < 0) : ∃ n : Nat, n < 2147483648 ∧ x = Int32.ofNat n := by
  rw [Int32.lt_iff_toInt_lt] at h
  have h0 : (0 : Int32).toInt = 0 := rfl
  rw [h0] at h
  have h1 := Int32.toInt_lt x
  refine ⟨x.toInt.toNat, by omega, ?_⟩
  apply Int32.toInt_inj.mp
  rw [i32_ofN (by omega)]
  omega
theorem gin_o {α : Type} {k n : Nat} {x : Option α} (h : k < n) (hk : k < 2147483648) : gin (Int32.ofNat k) n x = x := by
  unfold gin
  rw [if_neg]
  intro q
  rcases q with q | q
  · exact o_ge0 hk q
  · rw [i32n hk] at q
    omega
/-! writes -/
theorem wI_s {X : XD} {i k : Nat} {v : Int32} : (wI X i k v).1 i k = v := up2_s
theorem wI_c {X : XD} {i k b : Nat} {v : Int32} (h : b ≠ i) : (wI X i k v).1 b = X.1 b := up2_row h
theorem wI_k {X : XD} {i k j b : Nat} {v : Int32} (h : j ≠ k) : (wI X i k v).1 b j = X.1 b j := up2_k b h
theorem wI_2 {X : XD} {i k : Nat} {v : Int32} : (wI X i k v).2 = X.2 := rfl
theorem wJ_s {X : XD} {i k : Nat} {v : Int64} : (wJ X i k v).2 i k = v := up2_s
theorem wJ_c {X : XD} {i k b : Nat} {v : Int64} (h : b ≠ i) : (wJ X i k v).2 b = X.2 b := up2_row h
theorem wJ_k {X : XD} {i k j b : Nat} {v : Int64} (h : j ≠ k) : (wJ X i k v).2 b j = X.2 b j := up2_k b h
theorem wJ_1 {X : XD} {i k : Nat} {v : Int64} : (wJ X i k v).1 = X.1 := rfl
