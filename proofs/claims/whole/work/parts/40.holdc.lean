set_option maxHeartbeats 40000000
set_option maxRecDepth 100000
/-! the class's holds-/
def CCl (X : XD) (g : Nat) : Nat → List Tok → Prop
  | _, [] => True
  | a, t :: c => X.1 (g + 5) a = tokC t ∧ CCl X g (a + 1) c
theorem CCl.eq {X Y : XD} {g : Nat} (h : Y.1 (g + 5) = X.1 (g + 5)) : ∀ {c : List Tok} {a : Nat}, CCl X g a c → CCl Y g a c
  | [], _, _ => trivial
  | _ :: _, _, q => ⟨by rw [h]; exact q.1, CCl.eq h q.2⟩
def FC (X : XD) (g : Nat) (f : Nat → Nat) : Prop := (∀ k, k < 6 → k ≠ 2 → X.1 (g + 6) k = Int32.ofNat (f k)) ∧ ∀ k, f k < 2000
theorem cmp_c {Z : XS} {X : XD} {a r d : Nat} (ha : a < 2000) (hd : d ≤ 99) (hr : r ≤ 2) : fX1_compared Z (Int32.ofNat a) (Int32.ofNat r) (Int32.ofNat d) X = some (b2 (cmpN a r d)) := by
  unfold fX1_compared cmpN
  simp only [lit]
  rcases (show r = 0 ∨ r = 1 ∨ r = 2 by omega) with rfl | rfl | rfl
  · by_cases q : a < d
    · simp (disch := omega) only [↓bnd_some, ↓bnw_some, ↓nm_eq, ↓gb_0, ↓gb_1, ↓gin_o, ↓reduceIte, lit, o_lt_t, o_lt_f, o_le_t, o_le_f, o_eq_t, o_eq_f, n_lt_t, n_le_t, n_eq_f, i32n, wI_s, wI_c, wI_k, wI_2, wJ_s, wJ_c, wJ_k, wJ_1, o_add, o_sub, o_addn, o_mul, o_div, n_rem, Nat.add_zero, Nat.zero_add, q, decide_true, b2_t] <;> rfl
    · simp (disch := omega) only [↓bnd_some, ↓bnw_some, ↓nm_eq, ↓gb_0, ↓gb_1, ↓gin_o, ↓reduceIte, lit, o_lt_t, o_lt_f, o_le_t, o_le_f, o_eq_t, o_eq_f, n_lt_t, n_le_t, n_eq_f, i32n, wI_s, wI_c, wI_k, wI_2, wJ_s, wJ_c, wJ_k, wJ_1, o_add, o_sub, o_addn, o_mul, o_div, n_rem, Nat.add_zero, Nat.zero_add, q, decide_false, b2_f] <;> rfl
  · by_cases q : a = d
    · simp (disch := omega) only [↓bnd_some, ↓bnw_some, ↓nm_eq, ↓gb_0, ↓gb_1, ↓gin_o, ↓reduceIte, lit, o_lt_t, o_lt_f, o_le_t, o_le_f, o_eq_t, o_eq_f, n_lt_t, n_le_t, n_eq_f, i32n, wI_s, wI_c, wI_k, wI_2, wJ_s, wJ_c, wJ_k, wJ_1, o_add, o_sub, o_addn, o_mul, o_div, n_rem, Nat.add_zero, Nat.zero_add, q, decide_true, b2_t] <;> rfl
    · simp (disch := omega) only [↓bnd_some, ↓bnw_some, ↓nm_eq, ↓gb_0, ↓gb_1, ↓gin_o, ↓reduceIte, lit, o_lt_t, o_lt_f, o_le_t, o_le_f, o_eq_t, o_eq_f, n_lt_t, n_le_t, n_eq_f, i32n, wI_s, wI_c, wI_k, wI_2, wJ_s, wJ_c, wJ_k, wJ_1, o_add, o_sub, o_addn, o_mul, o_div, n_rem, Nat.add_zero, Nat.zero_add, q, decide_false, b2_f] <;> rfl
  · by_cases q : d < a
    · simp (disch := omega) only [↓bnd_some, ↓bnw_some, ↓nm_eq, ↓gb_0, ↓gb_1, ↓gin_o, ↓reduceIte, lit, o_lt_t, o_lt_f, o_le_t, o_le_f, o_eq_t, o_eq_f, n_lt_t, n_le_t, n_eq_f, i32n, wI_s, wI_c, wI_k, wI_2, wJ_s, wJ_c, wJ_k, wJ_1, o_add, o_sub, o_addn, o_mul, o_div, n_rem, Nat.add_zero, Nat.zero_add, q, decide_true, b2_t] <;> rfl
    · simp (disch := omega) only [↓bnd_some, ↓bnw_some, ↓nm_eq, ↓gb_0, ↓gb_1, ↓gin_o, ↓reduceIte, lit, o_lt_t, o_lt_f, o_le_t, o_le_f, o_eq_t, o_eq_f, n_lt_t, n_le_t, n_eq_f, i32n, wI_s, wI_c, wI_k, wI_2, wJ_s, wJ_c, wJ_k, wJ_1, o_add, o_sub, o_addn, o_mul, o_div, n_rem, Nat.add_zero, Nat.zero_add, q, decide_false, b2_f] <;> rfl
theorem tested_k {Z : XS} {X : XD} {g f r d : Nat} {F : Nat → Nat} (hf : f ≤ 5) (hr : r ≤ 2) (hd : d ≤ 99) (hF : FC X g F) : ∃ m, m < 16 ∧ fX1_tested Z g (Int32.ofNat ((f * 3 + r) * 100 + d)) X = some (Int32.ofNat m) ∧ ∀ s, s < 4 → m.testBit s = cmpN (fact F s f) r d := by
  unfold fX1_tested
  have q1 : Int32.ofNat ((f * 3 + r) * 100 + d) - Int32.ofNat ((f * 3 + r) * 100 + d) / 100 * 100 = Int32.ofNat d := (o_rem (b := 100) (by omega) (by omega)).trans (by congr 1; omega)
  have q2 : Int32.ofNat ((f * 3 + r) * 100 + d) / 100 - Int32.ofNat ((f * 3 + r) * 100 + d) / 100 / 3 * 3 = Int32.ofNat r := by
    rw [show Int32.ofNat ((f * 3 + r) * 100 + d) / 100 = Int32.ofNat (((f * 3 + r) * 100 + d) / 100) from o_div (b := 100) (by omega) (by omega)]
    exact (o_rem (b := 3) (by omega) (by omega)).trans (by congr 1; omega)
  have q3 : Int32.ofNat ((f * 3 + r) * 100 + d) / 300 = Int32.ofNat f := (o_div (b := 300) (by omega) (by omega)).trans (by congr 1; omega)
  simp only [nm_eq]
  rw [q1, q2, q3]
  by_cases e : f = 2
  · subst e
    have c : ∀ s, s < 4 → fX1_compared Z (Int32.ofNat s) (Int32.ofNat r) (Int32.ofNat d) X = some (b2 (cmpN s r d)) := fun s hs => cmp_c (by omega) hd hr
    have c0 : fX1_compared Z (0 : Int32) (Int32.ofNat r) (Int32.ofNat d) X = some (b2 (cmpN 0 r d)) := c 0 (by omega)
    have c1 : fX1_compared Z (1 : Int32) (Int32.ofNat r) (Int32.ofNat d) X = some (b2 (cmpN 1 r d)) := c 1 (by omega)
    have c2 : fX1_compared Z (2 : Int32) (Int32.ofNat r) (Int32.ofNat d) X = some (b2 (cmpN 2 r d)) := c 2 (by omega)
    have c3 : fX1_compared Z (3 : Int32) (Int32.ofNat r) (Int32.ofNat d) X = some (b2 (cmpN 3 r d)) := c 3 (by omega)
    have fu : ∀ s, fact F s 2 = s := fun s => rfl
    simp only [fu]
    obtain ⟨n, hn⟩ : ∃ n, FU = n + 5 := ⟨999995, rfl⟩
    rw [if_pos (show Int32.ofNat 2 = 2 from rfl), hn]
    have i1 : (0 + 1 : Int32) = 1 := rfl
    have i2 : (1 + 1 : Int32) = 2 := rfl
    have i3 : (2 + 1 : Int32) = 3 := rfl
    have i4 : (3 + 1 : Int32) = 4 := rfl
    have e0 : ¬ (3 : Int32) < 0 := by decide
    have e1 : ¬ (3 : Int32) < 1 := by decide
    have e2 : ¬ (3 : Int32) < 2 := by decide
    have e3 : ¬ (3 : Int32) < 3 := by decide
    have e4 : (3 : Int32) < 4 := by decide
    simp only [fX1_tested_76_s, fX1_tested_101, nm_eq, i1, i2, i3, i4, c0, c1, c2, c3, bnd_some, if_neg e0, if_neg e1, if_neg e2, if_neg e3, if_pos e4]
    refine ⟨(if cmpN 0 r d then 1 else 0) + (if cmpN 1 r d then 2 else 0) + (if cmpN 2 r d then 4 else 0) + (if cmpN 3 r d then 8 else 0), ?_, ?_, ?_⟩
    · cases cmpN 0 r d <;> cases cmpN 1 r d <;> cases cmpN 2 r d <;> cases cmpN 3 r d <;> decide
    · cases cmpN 0 r d <;> cases cmpN 1 r d <;> cases cmpN 2 r d <;> cases cmpN 3 r d <;> rfl
    · intro s hs
      rcases (show s = 0 ∨ s = 1 ∨ s = 2 ∨ s = 3 by omega) with rfl | rfl | rfl | rfl <;> cases cmpN 0 r d <;> cases cmpN 1 r d <;> cases cmpN 2 r d <;> cases cmpN 3 r d <;> rfl
  · have fu : ∀ s, fact F s f = F f := fun s => if_neg e
    simp only [fu]
    have hv : X.1 (g + 6) f = Int32.ofNat (F f) := hF.1 f (by omega) e
    refine ⟨if cmpN (F f) r d then 15 else 0, ?_, ?_, ?_⟩
    · cases cmpN (F f) r d <;> decide
    · simp (disch := omega) only [↓bnd_some, ↓bnw_some, ↓nm_eq, ↓gb_0, ↓gb_1, ↓gin_o, ↓reduceIte, lit, o_lt_t, o_lt_f, o_le_t, o_le_f, o_eq_t, o_eq_f, n_lt_t, n_le_t, n_eq_f, i32n, wI_s, wI_c, wI_k, wI_2, wJ_s, wJ_c, wJ_k, wJ_1, o_add, o_sub, o_addn, o_mul, o_div, n_rem, Nat.add_zero, Nat.zero_add, fX1_tested_51, hv]
      rw [bnd_of (cmp_c (hF.2 f) hd hr)]
      cases cmpN (F f) r d <;> rfl
    · intro s hs
      rcases (show s = 0 ∨ s = 1 ∨ s = 2 ∨ s = 3 by omega) with rfl | rfl | rfl | rfl <;> cases cmpN (F f) r d <;> rfl
theorem tokC_op {t : Tok} : (∀ q, t ≠ .inr q) → tokC t < 0 := by
  intro h
  match t with
  | .inl 0 => decide
  | .inl 1 => decide
  | .inl (k + 2) => show (-2 : Int32) < 0; decide
  | .inr q => exact absurd rfl (h q)
theorem holds_c {Z : XS} {X : XD} {g : Nat} {F : Nat → Nat} (hF : FC X g F) : ∀ (code : List Tok) (w : Int64) (sts : Nat → List Bool) (h a n : Nat), code.length < n → (∀ s, s < 4 → Bt w s (sts s)) → (∀ s, s < 4 → (sts s).length = h) → h ≤ 13 → (∀ t ∈ code, okT t) → hts code h = some 1 → CCl X g a code → a + code.length ≤ 100 → ∃ m, m < 16 ∧ fX1_holds_9 Z g n (Int32.ofNat (a + code.length)) w (Int32.ofNat a) X = some (Int32.ofNat m) ∧ ∀ s, s < 4 → m.testBit s = (evs (fact F s) code (sts s)).headD false := by
  intro code
  induction code with
  | nil =>
    intro w sts h a n h1 h2 h3 h4 h5 h6 h7 h8
    obtain ⟨n, rfl⟩ : ∃ q, n = q + 1 := ⟨n - 1, by omega⟩
    obtain ⟨m, m1, m2, m3⟩ := bt_last (w := w)
    have h6 : some h = some 1 := h6
    have h6 := Option.some.inj h6
    subst h6
    refine ⟨m, m1, ?_, fun s hs => ?_⟩
    · rw [fX1_holds_9_s, if_pos (show Int32.ofNat (a + ([] : List Tok).length) ≤ Int32.ofNat a from Int32.le_refl _), m2]
    · rw [m3 s hs]
      have := h2 s hs 0 (by omega)
      rw [show 4 * 0 + s = s by omega] at this
      rw [this]
      show (sts s).getD 0 false = (sts s).headD false
      cases sts s <;> rfl
  | cons t code ih =>
    intro w sts h a n h1 h2 h3 h4 h5 h6 h7 h8
    obtain ⟨n, rfl⟩ : ∃ q, n = q + 1 := ⟨n - 1, by omega⟩
    obtain ⟨h', e1, e2⟩ := hts_cons h6
    have hl : (t :: code).length = code.length + 1 := rfl
    rw [hl] at h1 h8 ⊢
    have ht := h5 t List.mem_cons_self
    have h7a : X.1 (g + 5) a = tokC t := h7.1
    have hh : h' ≤ 13 := by
      unfold hs1 at e1
      match t with
      | .inl 0 => by_cases q : 1 ≤ h <;> simp [q] at e1; omega
      | .inl (k + 1) => by_cases q : 2 ≤ h <;> simp [q] at e1; omega
      | .inr x => by_cases q : h ≤ 12 <;> simp [q] at e1; omega
    have go : ∀ w2, (∀ s, s < 4 → Bt w2 s (stp (fact F s) t (sts s))) → ∃ m, m < 16 ∧ fX1_holds_9 Z g n (Int32.ofNat (a + (code.length + 1))) w2 (Int32.ofNat (a + 1)) X = some (Int32.ofNat m) ∧ ∀ s, s < 4 → m.testBit s = (evs (fact F s) (t :: code) (sts s)).headD false := by
      intro w2 q
      have := ih w2 (fun s => stp (fact F s) t (sts s)) h' (a + 1) n (by omega) q (fun s hs => stp_len (by rw [h3 s hs]; exact e1)) hh (fun t h => h5 t (List.mem_cons_of_mem _ h)) e2 h7.2 (by omega)
      rw [show a + 1 + code.length = a + (code.length + 1) by omega] at this
      exact this
    rw [fX1_holds_9_s]
    simp only [nm_eq, fX1_holds_114]
    rw [if_neg (show ¬ Int32.ofNat (a + (code.length + 1)) ≤ Int32.ofNat a by rw [o_le (by omega) (by omega)]; omega), if_neg (show ¬ (100 : Int32) ≤ Int32.ofNat a from fun z => by have := (o_le (a := 100) (by omega) (by omega)).mp z; omega), gin_o (by omega) (by omega), gin_o (by omega) (by omega), i32n (by omega), h7a, show Int32.ofNat a + 1 = Int32.ofNat (a + 1) from o_add a 1]
    match t with
    | .inl 0 =>
      rw [if_pos (show tokC (.inl 0) = -3 from rfl)]
      refine go _ fun s hs => ?_
      have hb := h2 s hs
      have hn := h3 s hs
      revert hb hn
      generalize sts s = st
      intro hb hn
      match st with
      | [] => subst hn; cases e1
      | b :: r => exact Bt.not hs hb
    | .inl 1 =>
      rw [if_neg (show ¬ tokC (.inl 1) = -3 by decide), if_neg (show ¬ tokC (.inl 1) = -2 by decide), if_pos (show tokC (.inl 1) = -1 from rfl)]
      refine go _ fun s hs => ?_
      have hb := h2 s hs
      have hn := h3 s hs
      revert hb hn
      generalize sts s = st
      intro hb hn
      match st with
      | [] => subst hn; cases e1
      | [b] => subst hn; cases e1
      | b :: b1 :: r => exact Bt.and hs (by have : (b :: b1 :: r).length = r.length + 2 := rfl; omega) hb
    | .inl (k + 2) =>
      rw [if_neg (show ¬ tokC (.inl (k + 2)) = -3 by show ¬ (-2 : Int32) = -3; decide), if_pos (show tokC (.inl (k + 2)) = -2 from rfl)]
      refine go _ fun s hs => ?_
      have hb := h2 s hs
      have hn := h3 s hs
      revert hb hn
      generalize sts s = st
      intro hb hn
      match st with
      | [] => subst hn; cases e1
      | [b] => subst hn; cases e1
      | b :: b1 :: r => exact Bt.or hs (by have : (b :: b1 :: r).length = r.length + 2 := rfl; omega) hb
    | .inr q =>
      obtain ⟨k1, k2, k3⟩ := ht
      obtain ⟨m, m1, m2, m3⟩ := tested_k (Z := Z) k1 k2 k3 hF
      have en : ∀ k : Nat, 0 < k → k < 100 → ¬ tokC (.inr q) = -Int32.ofNat k := fun k a1 a2 z => by
        have := n_eq_f (a := (q.1 * 3 + q.2.1) * 100 + q.2.2) (b := k) (by omega) (by omega) a1
        exact cast this z
      rw [if_neg (show ¬ tokC (.inr q) = -3 from en 3 (by omega) (by omega)), if_neg (show ¬ tokC (.inr q) = -2 from en 2 (by omega) (by omega)), if_neg (show ¬ tokC (.inr q) = -1 from en 1 (by omega) (by omega))]
      rw [bnd_of (show fX1_tested Z g (tokC (.inr q)) X = some (Int32.ofNat m) from m2)]
      refine go _ fun s hs => ?_
      have := Bt.push hs m1 (h2 s hs)
      rw [m3 s hs] at this
      exact this
