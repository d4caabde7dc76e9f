set_option maxHeartbeats 40000000
set_option maxRecDepth 100000
/-! tools: steps of a run, numbers -/
theorem bnd_some {α β : Type} {a : α} {k : α → Option β} : bnd (some a) k = k a := rfl
theorem bnw_some {α β : Type} {a : α} {X : XD} {k : α → XD → Option β} : bnw (some (a, X)) k = k a X := rfl
theorem nm_eq {α β : Type} {x : α} {k : α → Option β} : nm x k = k x := rfl
theorem gb_0 {α : Type} {f : Option α} : gb 0 f = f := if_pos (Or.inl rfl)
theorem gb_1 {α : Type} {f : Option α} : gb 1 f = f := if_pos (Or.inr rfl)
theorem bnd_of {α : Type} {o : Option α} {a : α} (h : o = some a) {β : Type} (k : α → Option β) : bnd o k = k a := by rw [h]; rfl
theorem bnw_of {α : Type} {o : Option (α × XD)} {a : α} {X : XD} (h : o = some (a, X)) {β : Type} (k : α → XD → Option β) : bnw o k = k a X := by rw [h]; rfl
theorem lit {n : Nat} : (no_index (OfNat.ofNat n) : Int32) = Int32.ofNat (OfNat.ofNat n) := rfl
theorem o_lt_t {a b : Nat} (ha : a < 2147483648) (hb : b < 2147483648) (h : a < b) : (Int32.ofNat a < Int32.ofNat b) = True := eq_true ((o_lt ha hb).mpr h)
theorem o_lt_f {a b : Nat} (ha : a < 2147483648) (hb : b < 2147483648) (h : ¬ a < b) : (Int32.ofNat a < Int32.ofNat b) = False := eq_false fun q => h ((o_lt ha hb).mp q)
theorem o_le_t {a b : Nat} (ha : a < 2147483648) (hb : b < 2147483648) (h : a ≤ b) : (Int32.ofNat a ≤ Int32.ofNat b) = True := eq_true ((o_le ha hb).mpr h)
theorem o_le_f {a b : Nat} (ha : a < 2147483648) (hb : b < 2147483648) (h : ¬ a ≤ b) : (Int32.ofNat a ≤ Int32.ofNat b) = False := eq_false fun q => h ((o_le ha hb).mp q)
theorem o_eq_t {a b : Nat} (h : a = b) : (Int32.ofNat a = Int32.ofNat b) = True := eq_true (by rw [h])
theorem o_eq_f {a b : Nat} (ha : a < 2147483648) (hb : b < 2147483648) (h : ¬ a = b) : (Int32.ofNat a = Int32.ofNat b) = False := eq_false fun q => h ((o_eq ha hb).mp q)
theorem i32_neg {b : Nat} (hb : b < 2147483648) : (-Int32.ofNat b).toInt = -(b : Int) := by
  rw [Int32.toInt_neg, i32_ofN hb]
  exact Int.bmod_eq_of_le (by omega) (by omega)
theorem n_lt_t {a b : Nat} (ha : a < 2147483648) (hb : b < 2147483648) (h : 0 < b) : (-Int32.ofNat b < Int32.ofNat a) = True := eq_true (by rw [Int32.lt_iff_toInt_lt, i32_neg hb, i32_ofN ha]; omega)
theorem n_le_t {a b : Nat} (ha : a < 2147483648) (hb : b < 2147483648) : (-Int32.ofNat b ≤ Int32.ofNat a) = True := eq_true (by rw [Int32.le_iff_toInt_le, i32_neg hb, i32_ofN ha]; omega)
theorem n_eq_f {a b : Nat} (ha : a < 2147483648) (hb : b < 2147483648) (h : 0 < b) : (Int32.ofNat a = -Int32.ofNat b) = False := eq_false fun q => by
  have q := congrArg Int32.toInt q
  rw [i32_neg hb, i32_ofN ha] at q
  omega
theorem o_sub {a b : Nat} (h : b ≤ a) : Int32.ofNat a - Int32.ofNat b = Int32.ofNat (a - b) := (Int32.ofNat_sub a b h).symm
theorem o_addn {a b : Nat} (h : b ≤ a) : Int32.ofNat a + -Int32.ofNat b = Int32.ofNat (a - b) := by
  rw [← Int32.sub_eq_add_neg, o_sub h]
theorem n_rem {a b : Nat} : a - a / b * b = a % b := by
  have := Nat.div_add_mod' a b
  omega
theorem o_mul {a b : Nat} : Int32.ofNat a * Int32.ofNat b = Int32.ofNat (a * b) := (Int32.ofNat_mul a b).symm
theorem o_div {a b : Nat} (ha : a < 2147483648) (hb : b < 2147483648) : Int32.ofNat a / Int32.ofNat b = Int32.ofNat (a / b) := (Int32.ofNat_div (by omega) (by omega)).symm
theorem o_rem {a b : Nat} (ha : a < 2147483648) (hb : b < 2147483648) : Int32.ofNat a - Int32.ofNat a / Int32.ofNat b * Int32.ofNat b = Int32.ofNat (a % b) := by
  rw [o_div ha hb, o_mul, o_sub (Nat.div_mul_le_self a b)]
  have := Nat.div_add_mod' a b
  rw [show a - a / b * b = a % b by omega]
/-- an input against a range from 0 on -/
theorem rng (x : Int32) {k : Nat} (hk : k < 2147483648) : (x < 0 ∨ Int32.ofNat k < x) ∨ ∃ i, i ≤ k ∧ x = Int32.ofNat i := by
  by_cases h : x < 0
  · exact Or.inl (Or.inl h)
  obtain ⟨i, hi, rfl⟩ := o_of h
  by_cases h2 : i ≤ k
  · exact Or.inr ⟨i, h2, rfl⟩
  · exact Or.inl (Or.inr ((o_lt hk hi).mpr (by omega)))
theorem in_0 {x lo hi : Int32} {X : XD} (h : x < lo ∨ hi < x) : fX12_in x lo hi X = some 0 := by
  unfold fX12_in
  by_cases q : x < lo
  · rw [if_pos q]
  · rw [if_neg q, if_pos (h.resolve_left q)]
theorem in_1 {i : Nat} {hi : Nat} {X : XD} (h : i ≤ hi) (h2 : hi < 2147483648) : fX12_in (Int32.ofNat i) 0 (Int32.ofNat hi) X = some 1 := by
  unfold fX12_in
  rw [if_neg (o_ge0 (by omega)), if_neg (fun q => by have := (o_lt h2 (by omega)).mp q; omega)]
theorem not_lt_of {x y : Int32} (h : x < y) : ¬ y ≤ x := by
  rw [Int32.lt_iff_toInt_lt] at h
  rw [Int32.le_iff_toInt_le]
  omega
theorem le_of_not {x y : Int32} (h : ¬ x < y) : y ≤ x := by
  rw [Int32.lt_iff_toInt_lt] at h
  rw [Int32.le_iff_toInt_le]
  omega
theorem lt_of_not {x y : Int32} (h : ¬ x ≤ y) : y < x := by
  rw [Int32.le_iff_toInt_le] at h
  rw [Int32.lt_iff_toInt_lt]
  omega
/-- what holds of all that comes -/
def Tr {α : Type} (o : Option (α × XD)) (P : α → XD → Prop) : Prop := ∃ a X, o = some (a, X) ∧ P a X
theorem Tr_bnw {α β : Type} {o : Option (α × XD)} {k : α → XD → Option (β × XD)} {Q : α → XD → Prop} {P : β → XD → Prop} (h : Tr o Q) (hk : ∀ a X, Q a X → Tr (k a X) P) : Tr (bnw o k) P := by
  obtain ⟨a, X, rfl, h2⟩ := h
  exact hk a X h2
theorem Tr_bnd {α β : Type} {o : Option α} {k : α → Option (β × XD)} {a : α} {P : β → XD → Prop} (h : o = some a) (hk : Tr (k a) P) : Tr (bnd o k) P := by
  subst h
  exact hk
theorem Tr_ret {α : Type} {a : α} {X : XD} {P : α → XD → Prop} (h : P a X) : Tr (some (a, X)) P := ⟨a, X, rfl, h⟩
theorem Tr_weak {α : Type} {o : Option (α × XD)} {P Q : α → XD → Prop} (h : Tr o P) (hw : ∀ a X, P a X → Q a X) : Tr o Q := by
  obtain ⟨a, X, h1, h2⟩ := h
  exact ⟨a, X, h1, hw a X h2⟩
theorem FU_gt {k : Nat} (h : k < 1000000) : k < FU := h
