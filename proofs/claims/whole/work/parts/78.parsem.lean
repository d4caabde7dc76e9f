set_option maxHeartbeats 40000000
set_option maxRecDepth 100000
/-! the reference's parser: small steps -/
theorem CMl_k {X Y : XD} : ∀ {c : List Tok} {a : Nat}, (∀ k, a ≤ k → k < a + c.length → Y.1 13 k = X.1 13 k) → CMl X a c → CMl Y a c
  | [], _, _, _ => trivial
  | t :: c, a, h, q => ⟨by rw [h a (Nat.le_refl _) (by rw [List.length_cons]; omega)]; exact q.1, CMl_k (fun k k1 k2 => h k (by omega) (by rw [List.length_cons]; omega)) q.2⟩
theorem CMl_app {X : XD} {d : List Tok} : ∀ {c : List Tok} {a : Nat}, CMl X a c → CMl X (a + c.length) d → CMl X a (c ++ d)
  | [], _, _, h2 => h2
  | t :: c, a, h, h2 => ⟨h.1, CMl_app h.2 (by rw [List.length_cons] at h2; rw [show a + 1 + c.length = a + (c.length + 1) by omega]; exact h2)⟩
def TM (X : XD) (N : Nat) (tx : Nat → Nat) : Prop := N ≤ 100 ∧ X.1 0 11 = Int32.ofNat N ∧ ∀ j, j < N → tx j ≤ 127 ∧ X.1 7 j = Int32.ofNat (tx j)
section
variable {X : XD} {N : Nat} {tx : Nat → Nat}
theorem TM.le (h : TM X N tx) (p : Nat) : cT N tx p ≤ 1000 := cT_le (fun j hj => (h.2.2 j hj).1) p
theorem TM.le127 (h : TM X N tx) {p : Nat} (hp : p < N) : cT N tx p ≤ 127 := by
  unfold cT
  rw [if_pos hp]
  exact (h.2.2 p hp).1
theorem next_m (h : TM X N tx) {p : Nat} (hp : X.1 0 12 = Int32.ofNat p) (hb : p < 1000000) : fX12_next X = some (cI (cT N tx p)) := by
  obtain ⟨h2, h3, h4⟩ := h
  unfold fX12_next
  rw [h3, hp]
  by_cases q : p < N
  · obtain ⟨a, b⟩ := h4 p q
    rw [if_neg (fun z => by have := (o_le (by omega) (by omega)).mp z; omega), gin_o (by omega) (by omega), i32n (by omega), b]
    unfold cT cI
    rw [if_pos q, if_neg (by omega)]
  · rw [if_pos ((o_le (by omega) (by omega)).mpr (by omega))]
    unfold cT cI
    rw [if_neg q, if_pos rfl]
theorem second_m (h : TM X N tx) {p : Nat} (hp : X.1 0 12 = Int32.ofNat p) (hb : p < 1000000) : fX12_second X = some (cI (cT N tx (p + 1))) := by
  obtain ⟨h2, h3, h4⟩ := h
  unfold fX12_second
  have e1 : Int32.ofNat p + 1 = Int32.ofNat (p + 1) := by
    show Int32.ofNat p + Int32.ofNat 1 = _
    rw [o_add]
  rw [h3, hp, e1]
  by_cases q : p + 1 < N
  · obtain ⟨a, b⟩ := h4 (p + 1) q
    rw [if_neg (fun z => by have := (o_le (by omega) (by omega)).mp z; omega), gin_o (by omega) (by omega), i32n (by omega), b]
    unfold cT cI
    rw [if_pos q, if_neg (by omega)]
  · rw [if_pos ((o_le (by omega) (by omega)).mpr (by omega))]
    unfold cT cI
    rw [if_neg q, if_pos rfl]
theorem in_m {n lo hi : Nat} (hn : n ≤ 1000) (h1 : lo ≤ hi) (h2 : hi < 1000) : fX12_in (cI n) (Int32.ofNat lo) (Int32.ofNat hi) X = some (b2 (decide (lo ≤ n) && decide (n ≤ hi))) := by
  unfold fX12_in
  by_cases h : n = 1000
  · subst h
    have e : cI 1000 = -1 := rfl
    have : (-1 : Int32) < Int32.ofNat lo := by
      rw [Int32.lt_iff_toInt_lt, i32_ofN (by omega), show (-1 : Int32).toInt = -1 by decide]
      omega
    rw [e, if_pos this, decide_eq_false (show ¬ 1000 ≤ hi by omega), Bool.and_false]
    rfl
  · have e : cI n = Int32.ofNat n := if_neg h
    rw [e]
    by_cases h3 : n < lo
    · rw [if_pos ((o_lt (by omega) (by omega)).mpr h3), decide_eq_false (show ¬ lo ≤ n by omega), Bool.false_and]
      rfl
    · rw [if_neg (fun z => h3 ((o_lt (by omega) (by omega)).mp z)), decide_eq_true (show lo ≤ n by omega), Bool.true_and]
      by_cases h4 : hi < n
      · rw [if_pos ((o_lt (by omega) (by omega)).mpr h4), decide_eq_false (show ¬ n ≤ hi by omega)]
        rfl
      · rw [if_neg (fun z => h4 ((o_lt (by omega) (by omega)).mp z)), decide_eq_true (show n ≤ hi by omega)]
        rfl
theorem isDigit_m (h : TM X N tx) {p : Nat} (hp : X.1 0 12 = Int32.ofNat p) (hb : p < 1000000) : fX12_isDigit X = some (b2 (dig (cT N tx p))) := by
  unfold fX12_isDigit
  rw [next_m h hp hb, bnd_some, show (48 : Int32) = Int32.ofNat 48 from rfl, show (57 : Int32) = Int32.ofNat 57 from rfl, in_m (h.le p) (by decide) (by decide), bnd_some, gb_b2]
  rfl
theorem placem_ok : ∀ n, n < 128 → fX12_place (Int32.ofNat n) X = some (match letN n with | none => -1 | some f => Int32.ofNat f) := by
  unfold fX12_place
  decide +kernel
theorem place_m {n : Nat} (h : n ≤ 127 ∨ n = 1000) : fX12_place (cI n) X = some (match letN n with | none => -1 | some f => Int32.ofNat f) := by
  rcases h with h | h
  · rw [show cI n = Int32.ofNat n from if_neg (by omega)]
    exact placem_ok n (by omega)
  · subst h
    unfold fX12_place
    decide +kernel
/-- what the parsing of one condition may change: clause x, tokens from e on -/
def FrM (x e : Nat) (X Y : XD) : Prop := Y.2 = X.2 ∧ ∀ i k, i ≠ 14 → ¬ (i = 0 ∧ (k = 12 ∨ k = 13 ∨ k = 22 ∨ k = 23 ∨ k = 24)) → ¬ (i = 12 ∧ k = x) → ¬ (i = 13 ∧ e ≤ k) → Y.1 i k = X.1 i k
theorem FrM.rfl {x e : Nat} {X : XD} : FrM x e X X := ⟨Eq.refl _, fun _ _ _ _ _ _ => Eq.refl _⟩
theorem FrM.trans {x e e2 : Nat} {X Y W : XD} (h : FrM x e X Y) (h2 : FrM x e2 Y W) (he : e ≤ e2) : FrM x e X W := ⟨h2.1.trans h.1, fun i k a b c d => (h2.2 i k a b c (by omega)).trans (h.2 i k a b c d)⟩
theorem FrM.TM {x e : Nat} {X Y : XD} (f : FrM x e X Y) (h : TM X N tx) : TM Y N tx := by
  obtain ⟨h2, h3, h4⟩ := h
  refine ⟨h2, ?_, fun j hj => ⟨(h4 j hj).1, ?_⟩⟩
  · rw [f.2 0 11 (by omega) (by omega) (by omega) (by omega)]; exact h3
  · rw [f.2 7 j (by omega) (by omega) (by omega) (by omega)]; exact (h4 j hj).2
theorem FrM.w0 {x e : Nat} {X : XD} {k : Nat} {v : Int32} (hk : k = 12 ∨ k = 13 ∨ k = 22 ∨ k = 23 ∨ k = 24) : FrM x e X (wI X 0 k v) := ⟨Eq.refl _, fun i q a b c d => by
  by_cases z : i = 0
  · rw [wI_k (by omega)]
  · rw [wI_c z]⟩
theorem FrM.w14 {x e : Nat} {X : XD} {k : Nat} {v : Int32} : FrM x e X (wI X 14 k v) := ⟨Eq.refl _, fun i q a b c d => by rw [wI_c a]⟩
theorem FrM.w13 {x e k : Nat} {X : XD} {v : Int32} (h : e ≤ k) : FrM x e X (wI X 13 k v) := ⟨Eq.refl _, fun i q a b c d => by
  by_cases z : i = 13
  · rw [wI_k (by omega)]
  · rw [wI_c z]⟩
theorem FrM.w12 {x e : Nat} {X : XD} {v : Int32} : FrM x e X (wI X 12 x v) := ⟨Eq.refl _, fun i q a b c d => by
  by_cases z : i = 12
  · rw [wI_k (by omega)]
  · rw [wI_c z]⟩
def Pc (x e : Nat) (X Y : XD) (l : List Tok) : Prop := FrM x e X Y ∧ CMl Y e l
theorem Pc.nil {x e : Nat} {X Y : XD} (h : FrM x e X Y) : Pc x e X Y [] := ⟨h, trivial⟩
theorem Pc.app {x e : Nat} {X Y W : XD} {l l2 : List Tok} (h : Pc x e X Y l) (h2 : Pc x (e + l.length) Y W l2) : Pc x e X W (l ++ l2) := ⟨h.1.trans h2.1 (by omega), CMl_app (CMl_k (fun k k1 k2 => h2.1.2 13 k (by omega) (by omega) (by omega) (by omega)) h.2) h2.2⟩
theorem Pc.fr {x e : Nat} {X Y W : XD} {l : List Tok} (h : Pc x e X Y l) (h2 : FrM x (e + l.length) Y W) : Pc x e X W l := by
  have := h.app (Pc.nil h2)
  rwa [List.append_nil] at this
theorem Pc.fr1 {x e : Nat} {X Y W : XD} {l : List Tok} (h : FrM x e X Y) (h2 : Pc x e Y W l) : Pc x e X W l := (Pc.nil h).app h2
/-- the stack of open signs, top first -/
def stk (X : XD) : List Nat → Prop
  | [] => True
  | w :: W => X.1 14 W.length = Int32.ofNat w ∧ stk X W
theorem stk_eq {X Y : XD} : ∀ {W : List Nat}, (∀ k, k < W.length → Y.1 14 k = X.1 14 k) → stk X W → stk Y W
  | [], _, _ => trivial
  | w :: W, h, q => ⟨by rw [h _ (by rw [List.length_cons]; omega)]; exact q.1, stk_eq (fun k hk => h k (by rw [List.length_cons]; omega)) q.2⟩
def opn : List Nat → Nat
  | [] => 0
  | w :: W => (if w = 33 ∨ w = 40 then 1 else 0) + opn W
def pnd : List Nat → Nat
  | [] => 0
  | w :: W => (if w = 40 then 0 else 1) + pnd W
def nb : List Nat → Nat
  | [] => 0
  | w :: W => if w = 33 then nb W + 1 else 0
def strip : List Nat → List Nat
  | [] => []
  | w :: W => if w = 33 then strip W else w :: W
def Sm (N : Nat) (tx : Nat → Nat) (b : Nat) (X : XD) (p : Nat) (W : List Nat) (e : Nat) : Prop := TM X N tx ∧ p ≤ N ∧ b ≤ 500 ∧ e + pnd W ≤ b + p ∧ W.length ≤ p ∧ (∀ w ∈ W, w ≤ 124) ∧ X.1 0 12 = Int32.ofNat p ∧ X.1 0 23 = Int32.ofNat W.length ∧ stk X W ∧ X.1 0 24 = Int32.ofNat (opn W) ∧ X.1 0 22 = Int32.ofNat e
def em (X : XD) (e : Nat) (v : Int32) : XD := wI (wI X 13 e v) 0 22 (Int32.ofNat (e + 1))
theorem emits_m {e : Nat} (h : X.1 0 22 = Int32.ofNat e) (he : e < 600) (v : Int32) : fX12_emits v X = some ((), em X e v) := by
  unfold fX12_emits
  rw [h, gin_o he (by omega), i32n (by omega), nm_eq, nm_eq, wI_c (by decide), h]
  show some ((), wI _ 0 22 (Int32.ofNat e + Int32.ofNat 1)) = _
  rw [o_add]
  rfl
theorem em_f {x e : Nat} {v : Int32} : FrM x e X (em X e v) := (FrM.w13 (Nat.le_refl _)).trans (FrM.w0 (by omega)) (Nat.le_refl _)
theorem em_p {x e : Nat} {t : Tok} : Pc x e X (em X e (tokM t)) [t] := ⟨em_f, by unfold em; exact ⟨by rw [wI_c (by decide), wI_s], trivial⟩⟩
end
