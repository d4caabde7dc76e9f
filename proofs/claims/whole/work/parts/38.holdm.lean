set_option maxHeartbeats 40000000
set_option maxRecDepth 100000
/-! the reference's holds -/
def Pl (X : XD) : List Bool → Prop
  | [] => True
  | b :: r => X.1 16 r.length = b2 b ∧ Pl X r
theorem Pl.w {X : XD} {k : Nat} {v : Int32} : ∀ {st : List Bool}, Pl X st → st.length ≤ k → Pl (wI X 16 k v) st
  | [], _, _ => trivial
  | b :: r, h, hk => ⟨(wI_k (show r.length ≠ k by have : (b :: r).length = r.length + 1 := rfl; omega)).trans h.1, Pl.w h.2 (by have : (b :: r).length = r.length + 1 := rfl; omega)⟩
def eqP (X Y : XD) : Prop := Y.2 = X.2 ∧ ∀ i, i ≠ 16 → Y.1 i = X.1 i
theorem eqP.rfl {X : XD} : eqP X X := ⟨Eq.refl _, fun _ _ => Eq.refl _⟩
theorem eqP.trans {X Y Z : XD} (h : eqP X Y) (h2 : eqP Y Z) : eqP X Z := ⟨h2.1.trans h.1, fun i q => (h2.2 i q).trans (h.2 i q)⟩
theorem eqP.w {X : XD} {k : Nat} {v : Int32} : eqP X (wI X 16 k v) := ⟨Eq.refl _, fun i q => wI_c q⟩
def CMl (X : XD) : Nat → List Tok → Prop
  | _, [] => True
  | a, t :: c => X.1 13 a = tokM t ∧ CMl X (a + 1) c
theorem CMl.eq {X Y : XD} (h : Y.1 13 = X.1 13) : ∀ {c : List Tok} {a : Nat}, CMl X a c → CMl Y a c
  | [], _, _ => trivial
  | _ :: _, _, q => ⟨by rw [h]; exact q.1, CMl.eq h q.2⟩
def FM (X : XD) (p s : Nat) (v : Nat → Nat) : Prop := ∀ Y, eqP X Y → ∀ f, f ≤ 5 → fX12_factOf (Int32.ofNat f) (Int32.ofNat p) (Int32.ofNat s) Y = some (Int32.ofNat (v f)) ∧ v f < 2000
theorem FM.eq {X Y : XD} {p s : Nat} {v : Nat → Nat} (h : FM X p s v) (q : eqP X Y) : FM Y p s v := fun Z hz => h Z (q.trans hz)
theorem tok_n {q : Nat × Nat × Nat} (h : okT (.inr q)) : tokM (.inr q) = Int32.ofNat (1000 * q.1 + 100 * q.2.1 + q.2.2) ∧ (1000 * q.1 + 100 * q.2.1 + q.2.2) / 1000 = q.1 ∧ (1000 * q.1 + 100 * q.2.1 + q.2.2) / 100 % 10 = q.2.1 ∧ (1000 * q.1 + 100 * q.2.1 + q.2.2) % 100 = q.2.2 ∧ 1000 * q.1 + 100 * q.2.1 + q.2.2 < 6000 := by
  obtain ⟨h1, h2, h3⟩ := h
  exact ⟨rfl, by omega, by omega, by omega, by omega⟩
theorem cmp_m {α : Type} {a r d : Nat} (ha : a < 2000) (hd : d ≤ 99) (hr : r ≤ 2) (y : Bool → α) : (if Int32.ofNat r = 0 then if Int32.ofNat d ≤ Int32.ofNat a then y false else y true else if Int32.ofNat r = 1 then if Int32.ofNat a = Int32.ofNat d then y true else y false else if Int32.ofNat a ≤ Int32.ofNat d then y false else y true) = y (cmpN a r d) := by
  unfold cmpN
  simp only [lit]
  rcases (show r = 0 ∨ r = 1 ∨ r = 2 by omega) with rfl | rfl | rfl
  · by_cases q : a < d
    · simp (disch := omega) only [↓bnd_some, ↓bnw_some, ↓nm_eq, ↓gb_0, ↓gb_1, ↓gin_o, ↓reduceIte, lit, o_lt_t, o_lt_f, o_le_t, o_le_f, o_eq_t, o_eq_f, n_lt_t, n_le_t, n_eq_f, i32n, wI_s, wI_c, wI_k, wI_2, wJ_s, wJ_c, wJ_k, wJ_1, o_add, o_sub, o_addn, o_mul, o_div, n_rem, Nat.add_zero, Nat.zero_add, q, decide_true] <;> rfl
    · simp (disch := omega) only [↓bnd_some, ↓bnw_some, ↓nm_eq, ↓gb_0, ↓gb_1, ↓gin_o, ↓reduceIte, lit, o_lt_t, o_lt_f, o_le_t, o_le_f, o_eq_t, o_eq_f, n_lt_t, n_le_t, n_eq_f, i32n, wI_s, wI_c, wI_k, wI_2, wJ_s, wJ_c, wJ_k, wJ_1, o_add, o_sub, o_addn, o_mul, o_div, n_rem, Nat.add_zero, Nat.zero_add, q, decide_false] <;> rfl
  · by_cases q : a = d
    · simp (disch := omega) only [↓bnd_some, ↓bnw_some, ↓nm_eq, ↓gb_0, ↓gb_1, ↓gin_o, ↓reduceIte, lit, o_lt_t, o_lt_f, o_le_t, o_le_f, o_eq_t, o_eq_f, n_lt_t, n_le_t, n_eq_f, i32n, wI_s, wI_c, wI_k, wI_2, wJ_s, wJ_c, wJ_k, wJ_1, o_add, o_sub, o_addn, o_mul, o_div, n_rem, Nat.add_zero, Nat.zero_add, q, decide_true] <;> rfl
    · simp (disch := omega) only [↓bnd_some, ↓bnw_some, ↓nm_eq, ↓gb_0, ↓gb_1, ↓gin_o, ↓reduceIte, lit, o_lt_t, o_lt_f, o_le_t, o_le_f, o_eq_t, o_eq_f, n_lt_t, n_le_t, n_eq_f, i32n, wI_s, wI_c, wI_k, wI_2, wJ_s, wJ_c, wJ_k, wJ_1, o_add, o_sub, o_addn, o_mul, o_div, n_rem, Nat.add_zero, Nat.zero_add, q, decide_false] <;> rfl
  · by_cases q : d < a
    · simp (disch := omega) only [↓bnd_some, ↓bnw_some, ↓nm_eq, ↓gb_0, ↓gb_1, ↓gin_o, ↓reduceIte, lit, o_lt_t, o_lt_f, o_le_t, o_le_f, o_eq_t, o_eq_f, n_lt_t, n_le_t, n_eq_f, i32n, wI_s, wI_c, wI_k, wI_2, wJ_s, wJ_c, wJ_k, wJ_1, o_add, o_sub, o_addn, o_mul, o_div, n_rem, Nat.add_zero, Nat.zero_add, q, decide_true] <;> rfl
    · simp (disch := omega) only [↓bnd_some, ↓bnw_some, ↓nm_eq, ↓gb_0, ↓gb_1, ↓gin_o, ↓reduceIte, lit, o_lt_t, o_lt_f, o_le_t, o_le_f, o_eq_t, o_eq_f, n_lt_t, n_le_t, n_eq_f, i32n, wI_s, wI_c, wI_k, wI_2, wJ_s, wJ_c, wJ_k, wJ_1, o_add, o_sub, o_addn, o_mul, o_div, n_rem, Nat.add_zero, Nat.zero_add, q, decide_false] <;> rfl
theorem holds_lp {c p s : Nat} {v : Nat → Nat} (hc : c < 60) : ∀ (code : List Tok) (st : List Bool) (a n : Nat) (X : XD), code.length < n → Pl X st → (∀ t ∈ code, okT t) → hts code st.length = some 1 → CMl X a code → X.1 12 c = Int32.ofNat (a + code.length) → a + code.length ≤ 600 → st.length ≤ 13 → FM X p s v → ∃ Y, fX12_holds_11 n (Int32.ofNat c) (Int32.ofNat p) (Int32.ofNat s) (Int32.ofNat st.length) (Int32.ofNat a) X = some (b2 ((evs v code st).headD false), Y) ∧ eqP X Y := by
  intro code
  induction code with
  | nil =>
    intro st a n X h1 h2 h3 h4 h5 h6 h7 h8 h9
    obtain ⟨n, rfl⟩ : ∃ q, n = q + 1 := ⟨n - 1, by omega⟩
    have h4 : some st.length = some 1 := h4
    obtain ⟨b, rfl⟩ : ∃ b, st = [b] := List.length_eq_one_iff.mp (Option.some.inj h4)
    refine ⟨X, ?_, eqP.rfl⟩
    have h2 : X.1 16 0 = b2 b := h2.1
    rw [fX12_holds_11_s]
    simp (disch := omega) only [↓bnd_some, ↓bnw_some, ↓nm_eq, ↓gb_0, ↓gb_1, ↓gin_o, ↓reduceIte, lit, o_lt_t, o_lt_f, o_le_t, o_le_f, o_eq_t, o_eq_f, n_lt_t, n_le_t, n_eq_f, i32n, wI_s, wI_c, wI_k, wI_2, wJ_s, wJ_c, wJ_k, wJ_1, o_add, o_sub, o_addn, o_mul, o_div, n_rem, Nat.add_zero, Nat.zero_add, h6, List.length_nil, h2]
    rw [gb_b2]
    rfl
  | cons t code ih =>
    intro st a n X h1 h2 h3 h4 h5 h6 h7 h8 h9
    obtain ⟨n, rfl⟩ : ∃ q, n = q + 1 := ⟨n - 1, by omega⟩
    obtain ⟨h, e1, e2⟩ := hts_cons h4
    have hl : (t :: code).length = code.length + 1 := rfl
    rw [hl] at h1 h6 h7
    have ht := h3 t List.mem_cons_self
    have h5a : X.1 13 a = tokM t := h5.1
    have go : ∀ (st2 : List Bool) (Y : XD), eqP X Y → Pl Y st2 → st2.length = h → stp v t st = st2 → st2.length ≤ 13 → ∃ Y2, fX12_holds_11 n (Int32.ofNat c) (Int32.ofNat p) (Int32.ofNat s) (Int32.ofNat st2.length) (Int32.ofNat (a + 1)) Y = some (b2 ((evs v (t :: code) st).headD false), Y2) ∧ eqP X Y2 := by
      intro st2 Y q1 q2 q3 q4 q5
      have := ih st2 (a + 1) n Y (by omega) q2 (fun t h => h3 t (List.mem_cons_of_mem _ h)) (by rw [q3]; exact e2) (CMl.eq (q1.2 13 (by decide)) h5.2) (by rw [q1.2 12 (by decide), h6]; congr 1; omega) (by omega) q5 (h9.eq q1)
      obtain ⟨Y2, g1, g2⟩ := this
      exact ⟨Y2, by rw [g1]; show _ = some (b2 ((evs v code (stp v t st)).headD false), _); rw [q4], q1.trans g2⟩
    rw [fX12_holds_11_s, gin_o hc (by omega), i32n (by omega), h6, if_neg (show ¬ Int32.ofNat (a + (code.length + 1)) ≤ Int32.ofNat a by rw [o_le (by omega) (by omega)]; omega), gin_o (by omega) (by omega), nm_eq, i32n (by omega), h5a]
    match t, st with
    | .inl 0, [] => cases e1
    | .inl 0, b :: r =>
      have hb : X.1 16 r.length = b2 b := h2.1
      have hs : (b :: r).length = r.length + 1 := rfl
      rw [hs] at h8 ⊢
      rw [if_pos (show tokM (.inl 0) = -33 from rfl)]
      simp only [fX12_holds_63, fX12_holds_247]
      simp (disch := omega) only [↓bnd_some, ↓bnw_some, ↓nm_eq, ↓gb_0, ↓gb_1, ↓gin_o, ↓reduceIte, lit, o_lt_t, o_lt_f, o_le_t, o_le_f, o_eq_t, o_eq_f, n_lt_t, n_le_t, n_eq_f, i32n, wI_s, wI_c, wI_k, wI_2, wJ_s, wJ_c, wJ_k, wJ_1, o_add, o_sub, o_addn, o_mul, o_div, n_rem, Nat.add_zero, Nat.zero_add, hb, show r.length + 1 - 1 = r.length from rfl]
      have g := go ((!b) :: r) (wI X 16 r.length (b2 (!b))) eqP.w ⟨wI_s, Pl.w h2.2 (Nat.le_refl _)⟩ (stp_len (v := v) e1) rfl (by show r.length + 1 ≤ 13; omega)
      cases b with
      | true => rw [if_neg (by decide)]; exact g
      | false => rw [if_pos (by decide)]; exact g
    | .inl (k + 1), [] => cases e1
    | .inl (k + 1), [b] => cases e1
    | .inl 1, b :: b1 :: r =>
      have hb : X.1 16 (r.length + 1) = b2 b := h2.1
      have hb1 : X.1 16 r.length = b2 b1 := h2.2.1
      have hs : (b :: b1 :: r).length = r.length + 2 := rfl
      rw [hs] at h8 ⊢
      rw [if_neg (show ¬ tokM (.inl 1) = -33 by decide), if_neg (show ¬ 0 ≤ tokM (.inl 1) by decide), nm_eq, if_pos (show tokM (.inl 1) = -38 from rfl)]
      simp only [fX12_holds_116, fX12_holds_142, fX12_holds_147, fX12_holds_247]
      simp (disch := omega) only [↓bnd_some, ↓bnw_some, ↓nm_eq, ↓gb_0, ↓gb_1, ↓gin_o, ↓reduceIte, lit, o_lt_t, o_lt_f, o_le_t, o_le_f, o_eq_t, o_eq_f, n_lt_t, n_le_t, n_eq_f, i32n, wI_s, wI_c, wI_k, wI_2, wJ_s, wJ_c, wJ_k, wJ_1, o_add, o_sub, o_addn, o_mul, o_div, n_rem, Nat.add_zero, Nat.zero_add, show r.length + 2 - 1 = r.length + 1 from rfl, show r.length + 1 - 1 = r.length from rfl, hb, hb1]
      have g := go ((b1 && b) :: r) (wI X 16 r.length (b2 (b1 && b))) eqP.w ⟨wI_s, Pl.w h2.2.2 (Nat.le_refl _)⟩ (stp_len (v := v) e1) rfl (by show r.length + 1 ≤ 13; omega)
      cases b1 with
      | false => rw [if_pos (by decide)]; exact g
      | true =>
        rw [if_neg (by decide)]
        cases b with
        | false => rw [if_pos (by decide)]; exact g
        | true => rw [if_neg (by decide)]; exact g
    | .inl (k + 2), b :: b1 :: r =>
      have hb : X.1 16 (r.length + 1) = b2 b := h2.1
      have hb1 : X.1 16 r.length = b2 b1 := h2.2.1
      have hs : (b :: b1 :: r).length = r.length + 2 := rfl
      rw [hs] at h8 ⊢
      rw [if_neg (show ¬ tokM (.inl (k + 2)) = -33 by show ¬ (-124 : Int32) = -33; decide), if_neg (show ¬ 0 ≤ tokM (.inl (k + 2)) by show ¬ (0 : Int32) ≤ -124; decide), nm_eq, if_neg (show ¬ tokM (.inl (k + 2)) = -38 by show ¬ (-124 : Int32) = -38; decide)]
      simp only [fX12_holds_116, fX12_holds_142, fX12_holds_147, fX12_holds_247]
      simp (disch := omega) only [↓bnd_some, ↓bnw_some, ↓nm_eq, ↓gb_0, ↓gb_1, ↓gin_o, ↓reduceIte, lit, o_lt_t, o_lt_f, o_le_t, o_le_f, o_eq_t, o_eq_f, n_lt_t, n_le_t, n_eq_f, i32n, wI_s, wI_c, wI_k, wI_2, wJ_s, wJ_c, wJ_k, wJ_1, o_add, o_sub, o_addn, o_mul, o_div, n_rem, Nat.add_zero, Nat.zero_add, show r.length + 2 - 1 = r.length + 1 from rfl, show r.length + 1 - 1 = r.length from rfl, hb, hb1]
      have g := go ((b1 || b) :: r) (wI X 16 r.length (b2 (b1 || b))) eqP.w ⟨wI_s, Pl.w h2.2.2 (Nat.le_refl _)⟩ (stp_len (v := v) e1) rfl (by show r.length + 1 ≤ 13; omega)
      cases b1 with
      | true => rw [if_neg (by decide)]; exact g
      | false =>
        rw [if_pos (by decide)]
        cases b with
        | false => rw [if_pos (by decide)]; exact g
        | true => rw [if_neg (by decide)]; exact g
    | .inr q, r =>
      obtain ⟨k0, k1, k2, k3, k4⟩ := tok_n ht
      have ht1 := ht.1
      have ht2 := ht.2.1
      have ht3 := ht.2.2
      rw [k0]
      have hm : r.length ≤ 12 := by
        unfold hs1 at e1
        by_cases q : r.length ≤ 12
        · exact q
        · rw [if_neg q] at e1; cases e1
      have g := go (cmpN (v q.1) q.2.1 q.2.2 :: r) (wI X 16 r.length (b2 (cmpN (v q.1) q.2.1 q.2.2))) eqP.w ⟨wI_s, Pl.w h2 (Nat.le_refl _)⟩ (stp_len (v := v) e1) rfl (by show r.length + 1 ≤ 13; omega)
      have hf := h9 X eqP.rfl q.1 ht1
      revert k1 k2 k3 k4
      generalize 1000 * q.1 + 100 * q.2.1 + q.2.2 = m
      intro k1 k2 k3 k4
      have n33 : ¬ Int32.ofNat m = -33 := fun z => cast (n_eq_f (a := m) (b := 33) (by omega) (by omega) (by omega)) z
      rw [if_neg n33, if_pos (show (0 : Int32) ≤ Int32.ofNat m from (o_le (a := 0) (by omega) (by omega)).mpr (by omega))]
      rw [show Int32.ofNat m / 1000 = Int32.ofNat q.1 from (o_div (b := 1000) (by omega) (by omega)).trans (by rw [k1]), bnd_of hf.1, nm_eq]
      rw [show Int32.ofNat m / 100 - Int32.ofNat m / 100 / 10 * 10 = Int32.ofNat q.2.1 from by
        rw [show Int32.ofNat m / 100 = Int32.ofNat (m / 100) from o_div (b := 100) (by omega) (by omega), show Int32.ofNat (m / 100) - Int32.ofNat (m / 100) / 10 * 10 = Int32.ofNat (m / 100 % 10) from o_rem (b := 10) (by omega) (by omega), k2]]
      rw [show Int32.ofNat m - Int32.ofNat m / 100 * 100 = Int32.ofNat q.2.2 from (o_rem (b := 100) (by omega) (by omega)).trans (by rw [k3])]
      have hc := cmp_m hf.2 ht3 ht2 (fun b => fX12_holds_243 (fX12_holds_11 n) (Int32.ofNat c) (Int32.ofNat p) (Int32.ofNat s) (Int32.ofNat r.length) (Int32.ofNat a) (b2 b) (Int32.ofNat r.length) X)
      obtain ⟨Y, g1, g2⟩ := g
      refine ⟨Y, hc.trans ?_, g2⟩
      simp only [fX12_holds_243, fX12_holds_247, gb_b2]
      rw [gin_o (by omega) (by omega)]
      simp only [nm_eq]
      rw [i32n (by omega), show Int32.ofNat r.length + 1 = Int32.ofNat (r.length + 1) from o_add _ 1, show Int32.ofNat a + 1 = Int32.ofNat (a + 1) from o_add _ 1]
      exact g1
