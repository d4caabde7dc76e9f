set_option maxHeartbeats 40000000
set_option maxRecDepth 100000
/-! the class's parser: small steps -/
def cI (n : Nat) : Int32 := if n = 1000 then -1 else Int32.ofNat n
def TC (Z : XS) (X : XD) (N : Nat) (tx : Nat → Nat) : Prop := sL Z 46 = 100 ∧ N ≤ 100 ∧ X.1 45 1 = Int32.ofNat N ∧ ∀ j, j < N → tx j ≤ 127 ∧ X.1 46 j = Int32.ofNat (tx j)
theorem ng1_ne {b : Nat} (hb : b < 2147483648) : ¬ (-1 : Int32) = Int32.ofNat b := by
  intro h
  have h := congrArg Int32.toInt h
  rw [i32_ofN hb] at h
  have : (-1 : Int32).toInt = -1 := by decide
  omega
theorem cI_eq {n k : Nat} (hn : n ≤ 1000) (hk : k < 1000) : cI n = Int32.ofNat k ↔ n = k := by
  unfold cI
  by_cases h : n = 1000
  · rw [if_pos h]
    exact ⟨fun q => absurd q (ng1_ne (by omega)), fun q => by omega⟩
  · rw [if_neg h]
    exact o_eq (by omega) (by omega)
theorem up2_up2 {f : Nat → Nat → Int32} {i k : Nat} {v w : Int32} : up2 (up2 f i k v) i k w = up2 f i k w := by
  funext a b
  unfold up2
  by_cases h : a = i ∧ b = k <;> simp [h]
section
variable {Z : XS} {X : XD} {N : Nat} {tx : Nat → Nat}
theorem cT_le (hT : ∀ j, j < N → tx j ≤ 127) (p : Nat) : cT N tx p ≤ 1000 := by
  unfold cT
  by_cases h : p < N
  · rw [if_pos h]; have := hT p h; omega
  · rw [if_neg h]; exact Nat.le_refl _
theorem TC.le (h : TC Z X N tx) (p : Nat) : cT N tx p ≤ 1000 := cT_le (fun j hj => (h.2.2.2 j hj).1) p
theorem TC.le127 (h : TC Z X N tx) {p : Nat} (hp : p < N) : cT N tx p ≤ 127 := by
  unfold cT
  rw [if_pos hp]
  exact (h.2.2.2 p hp).1
theorem TC.at (h : TC Z X N tx) {p : Nat} (hp : p < 1000000) : fX3_at Z 45 (Int32.ofNat p) X = some (cI (cT N tx p)) := by
  obtain ⟨h1, h2, h3, h4⟩ := h
  by_cases q : p < N
  · obtain ⟨a, b⟩ := h4 p q
    rw [at_c h1 h3 (by decide) h2 q]
    show some (X.1 46 p) = _
    unfold cT cI
    rw [if_pos q, if_neg (by omega), b]
  · unfold fX3_at
    rw [if_neg (o_ge0 (by omega)), h3, if_pos ((o_le (by omega) (by omega)).mpr (by omega))]
    unfold cT cI
    rw [if_neg q, if_pos rfl]
theorem cI_m1 {n : Nat} (hn : n ≤ 1000) : cI n = -1 ↔ n = 1000 := by
  unfold cI
  by_cases h : n = 1000
  · rw [if_pos h]; exact ⟨fun _ => h, fun _ => rfl⟩
  · rw [if_neg h]
    exact ⟨fun q => absurd q.symm (ng1_ne (by omega)), fun q => absurd q h⟩
theorem cI_lt {n k : Nat} (hn : n < 1000) (hk : k < 1000) : cI n < Int32.ofNat k ↔ n < k := by
  unfold cI
  rw [if_neg (by omega)]
  exact o_lt (by omega) (by omega)
theorem isDigit_c {n : Nat} (hn : n ≤ 1000) : fX1_isDigit Z (cI n) X = some (if dig n = true then 1 else 0) := by
  unfold fX1_isDigit
  by_cases h : n = 1000
  · subst h
    rfl
  · have e : cI n = Int32.ofNat n := if_neg h
    rw [e]
    by_cases h1 : n < 48
    · rw [if_pos (show Int32.ofNat n < 48 from (o_lt (b := 48) (by omega) (by omega)).mpr h1), if_neg (fun q => by have := dig_i.mp q; omega)]
    · rw [if_neg (show ¬ Int32.ofNat n < 48 from fun q => h1 ((o_lt (b := 48) (by omega) (by omega)).mp q))]
      by_cases h2 : 57 < n
      · rw [if_pos (show (57 : Int32) < Int32.ofNat n from (o_lt (a := 57) (by omega) (by omega)).mpr h2), if_neg (fun q => by have := dig_i.mp q; omega)]
      · rw [if_neg (show ¬ (57 : Int32) < Int32.ofNat n from fun q => h2 ((o_lt (a := 57) (by omega) (by omega)).mp q)), if_pos (dig_i.mpr (by omega))]
/-- place and steps, all else untouched -/
def FrC (g : Nat) (X Y : XD) : Prop := Y.2 = X.2 ∧ ∀ i k, i ≠ g + 5 → ¬ (i = g ∧ (k = 6 ∨ k = 7)) → Y.1 i k = X.1 i k
theorem FrC.rfl {g : Nat} {X : XD} : FrC g X X := ⟨Eq.refl _, fun _ _ _ _ => Eq.refl _⟩
theorem FrC.trans {g : Nat} {X Y W : XD} (h : FrC g X Y) (h2 : FrC g Y W) : FrC g X W := ⟨h2.1.trans h.1, fun i k a b => (h2.2 i k a b).trans (h.2 i k a b)⟩
theorem FrC.TC {g : Nat} {Y : XD} (f : FrC g X Y) (hg : g ≤ 38) (h : TC Z X N tx) : TC Z Y N tx := by
  obtain ⟨h1, h2, h3, h4⟩ := h
  refine ⟨h1, h2, ?_, fun j hj => ⟨(h4 j hj).1, ?_⟩⟩
  · rw [f.2 45 1 (by omega) (by omega)]; exact h3
  · rw [f.2 46 j (by omega) (by omega)]; exact (h4 j hj).2
def mv (X : XD) (g p : Nat) : XD := wI X g 7 (Int32.ofNat p)
theorem mv_f {g p : Nat} : FrC g X (mv X g p) := ⟨rfl, fun i k a b => by
  unfold mv
  by_cases h : i = g
  · rw [wI_k (by omega)]
  · rw [wI_c h]⟩
theorem mv_7 {g p : Nat} : (mv X g p).1 g 7 = Int32.ofNat p := wI_s
theorem mv_6 {g p : Nat} : (mv X g p).1 g 6 = X.1 g 6 := wI_k (by decide)
theorem mv_5 {g p : Nat} : (mv X g p).1 (g + 5) = X.1 (g + 5) := wI_c (by omega)
theorem skip_c (h : TC Z X N tx) {g p k : Nat} (hp : X.1 g 7 = Int32.ofNat p) (hb : p < 1000000) (hk : k < 1000) : fX1_skip Z g 45 (Int32.ofNat k) X = some (if cT N tx p = k then ((1 : Int32), mv X g (p + 1)) else ((0 : Int32), X)) := by
  unfold fX1_skip
  rw [hp, h.at hb, bnd_some]
  by_cases q : cT N tx p = k
  · rw [if_pos ((cI_eq (h.le p) hk).mpr q), if_pos q]
    rw [nm_eq]
    show some ((1 : Int32), wI X g 7 (Int32.ofNat p + Int32.ofNat 1)) = _
    rw [o_add]
    rfl
  · rw [if_neg (fun z => q ((cI_eq (h.le p) hk).mp z)), if_neg q]
/-- a step put behind the others -/
def ps (X : XD) (g s : Nat) (v : Int32) : XD := wI (wI X (g + 5) s v) g 6 (Int32.ofNat (s + 1))
theorem ps_f {g s : Nat} {v : Int32} : FrC g X (ps X g s v) := ⟨rfl, fun i k a b => by
  unfold ps
  by_cases h : i = g
  · rw [wI_k (by omega), wI_c (by omega)]
  · rw [wI_c h, wI_c a]⟩
theorem ps_7 {g s : Nat} {v : Int32} : (ps X g s v).1 g 7 = X.1 g 7 := by
  unfold ps
  rw [wI_k (by decide), wI_c (by omega)]
theorem ps_6 {g s : Nat} {v : Int32} : (ps X g s v).1 g 6 = Int32.ofNat (s + 1) := wI_s
theorem ps_5 {g s k : Nat} {v : Int32} : (ps X g s v).1 (g + 5) k = if k = s then v else X.1 (g + 5) k := by
  unfold ps
  rw [wI_c (by omega)]
  by_cases h : k = s
  · rw [if_pos h, h, wI_s]
  · rw [if_neg h, wI_k h]
theorem addStep_c {g s : Nat} (h : X.1 g 6 = Int32.ofNat s) (hs : s < 100) (v : Int32) : fX1_addStep Z g v X = some ((1 : Int32), ps X g s v) := by
  unfold fX1_addStep
  rw [h, if_neg (o_ge0 (by omega)), if_pos (show Int32.ofNat s < 100 from (o_lt (b := 100) (by omega) (by omega)).mpr hs), gin_o (by omega) (by omega), i32n (by omega), nm_eq, nm_eq, wI_c (by omega : g ≠ g + 5), h]
  show some ((1 : Int32), wI _ g 6 (Int32.ofNat s + Int32.ofNat 1)) = _
  rw [o_add]
  rfl
/-- a number of one or two digits -/
def pNum (N : Nat) (tx : Nat → Nat) (p : Nat) : Option (Nat × Nat) := if dig (cT N tx p) = true then (if dig (cT N tx (p + 1)) = true then some (p + 2, 10 * (cT N tx p - 48) + (cT N tx (p + 1) - 48)) else some (p + 1, cT N tx p - 48)) else none
theorem number_c (h : TC Z X N tx) {g p : Nat} (hg : g ≤ 38) (hp : X.1 g 7 = Int32.ofNat p) (hb : p < 100000) : fX1_number Z g 45 X = some (match pNum N tx p with | none => ((-1 : Int32), X) | some q => (Int32.ofNat q.2, mv X g q.1)) := by
  unfold fX1_number pNum
  rw [hp, h.at (by omega), bnd_some, isDigit_c (h.le p), bnd_some]
  by_cases d : dig (cT N tx p) = true
  · obtain ⟨d1, d2, d3⟩ := nodig (a := 0) d
    have e1 : cI (cT N tx p) = Int32.ofNat (cT N tx p) := if_neg (by omega)
    rw [if_pos d, if_pos d, if_neg (show ¬ (1 : Int32) = 0 by decide), bnd_some, nm_eq]
    have e2 : wI X g 7 (Int32.ofNat p + 1) = mv X g (p + 1) := by
      show wI X g 7 (Int32.ofNat p + Int32.ofNat 1) = _
      rw [o_add]
      rfl
    rw [nm_eq, e2, mv_7, (mv_f.TC hg h).at (by omega), bnd_some, isDigit_c (h.le _), bnd_some, e1]
    have e3 : Int32.ofNat (cT N tx p) - 48 = Int32.ofNat (cT N tx p - 48) := o_sub (b := 48) d2
    rw [e3]
    by_cases c : dig (cT N tx (p + 1)) = true
    · obtain ⟨c1, c2, c3⟩ := nodig (a := 0) c
      rw [if_pos c, if_pos c, if_neg (show ¬ (1 : Int32) = 0 by decide), bnd_some, nm_eq, nm_eq]
      have e4 : cI (cT N tx (p + 1)) = Int32.ofNat (cT N tx (p + 1)) := if_neg (by omega)
      rw [e4]
      have e5 : (10 : Int32) * Int32.ofNat (cT N tx p - 48) + Int32.ofNat (cT N tx (p + 1)) - 48 = Int32.ofNat (10 * (cT N tx p - 48) + (cT N tx (p + 1) - 48)) := by
        show Int32.ofNat 10 * _ + _ - Int32.ofNat 48 = _
        rw [o_mul, o_add, o_sub (by omega)]
        congr 1
        omega
      rw [e5]
      have e6 : wI (mv X g (p + 1)) g 7 (Int32.ofNat (p + 1) + 1) = mv X g (p + 2) := by
        show wI (mv X g (p + 1)) g 7 (Int32.ofNat (p + 1) + Int32.ofNat 1) = _
        rw [o_add]
        exact Prod.ext up2_up2 rfl
      rw [e6]
    · rw [if_neg c, if_neg c, if_pos rfl]
  · rw [if_neg d, if_neg d, if_pos rfl]
end
