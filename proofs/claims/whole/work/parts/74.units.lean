set_option maxHeartbeats 40000000
set_option maxRecDepth 100000
/-! the class's parser: tests, loops, units -/
theorem CCl_k {X Y : XD} {g : Nat} : ∀ {c : List Tok} {a : Nat}, (∀ k, a ≤ k → k < a + c.length → Y.1 (g + 5) k = X.1 (g + 5) k) → CCl X g a c → CCl Y g a c
  | [], _, _, _ => trivial
  | t :: c, a, h, q => ⟨by rw [h a (Nat.le_refl _) (by rw [List.length_cons]; omega)]; exact q.1, CCl_k (fun k k1 k2 => h k (by omega) (by rw [List.length_cons]; omega)) q.2⟩
theorem CCl_app {X : XD} {g : Nat} {d : List Tok} : ∀ {c : List Tok} {a : Nat}, CCl X g a c → CCl X g (a + c.length) d → CCl X g a (c ++ d)
  | [], _, _, h2 => h2
  | t :: c, a, h, h2 => ⟨h.1, CCl_app h.2 (by rw [List.length_cons] at h2; rw [show a + 1 + c.length = a + (c.length + 1) by omega]; exact h2)⟩
def Rgc (g s : Nat) (X Y : XD) (R : Rr) : Prop := FrC g X Y ∧ Y.1 g 7 = Int32.ofNat R.2.1 ∧ (∀ k, k < s → Y.1 (g + 5) k = X.1 (g + 5) k) ∧ (R.1 = true → Y.1 g 6 = Int32.ofNat (s + R.2.2.length) ∧ CCl Y g s R.2.2)
theorem Rgc.mv {g s p : Nat} {X Y : XD} {R : Rr} (h : Rgc g s (mv X g p) Y R) : Rgc g s X Y R := ⟨mv_f.trans h.1, h.2.1, fun k hk => by rw [h.2.2.1 k hk, mv_5], h.2.2.2⟩
theorem Rgc.rfl {g s p : Nat} {X : XD} (h6 : X.1 g 6 = Int32.ofNat s) (h7 : X.1 g 7 = Int32.ofNat p) {b : Bool} : Rgc g s X X (b, p, []) := ⟨FrC.rfl, h7, fun _ _ => Eq.refl _, fun _ => ⟨h6, trivial⟩⟩
theorem Rgc.app {g s : Nat} {X Y W : XD} {R R2 : Rr} (h : Rgc g s X Y R) (ht : R.1 = true) (h2 : Rgc g (s + R.2.2.length) Y W R2) : Rgc g s X W (R2.1, R2.2.1, R.2.2 ++ R2.2.2) := by
  obtain ⟨a1, a2, a3, a4⟩ := h
  obtain ⟨b1, b2, b3, b4⟩ := h2
  obtain ⟨a5, a6⟩ := a4 ht
  refine ⟨a1.trans b1, b2, fun k hk => (b3 k (by omega)).trans (a3 k hk), fun q => ?_⟩
  obtain ⟨c1, c2⟩ := b4 q
  refine ⟨?_, CCl_app (CCl_k (fun k _ k2 => b3 k k2) a6) c2⟩
  rw [c1]
  show _ = Int32.ofNat (s + (R.2.2 ++ R2.2.2).length)
  rw [List.length_append, Nat.add_assoc]
theorem Rgc.ps {g s p : Nat} {X Y : XD} {l : List Tok} (h : Rgc g s X Y (true, p, l)) (t : Tok) : Rgc g s X (ps Y g (s + l.length) (tokC t)) (true, p, l ++ [t]) := by
  refine Rgc.app (R2 := (true, p, [t])) h (Eq.refl _) ⟨ps_f, ps_7.trans h.2.1, fun k hk => ?_, fun _ => ⟨ps_6, ?_, trivial⟩⟩
  · rw [ps_5, if_neg (by dsimp only at hk; omega)]
  · rw [ps_5, if_pos (Eq.refl _)]
theorem Rgc.fail {g s p : Nat} {X Y : XD} {R : Rr} (h : Rgc g s X Y R) (hp : R.2.1 = p) (l : List Tok) : Rgc g s X Y (false, p, l) := ⟨h.1, by rw [h.2.1, hp], h.2.2.1, fun q => by cases q⟩
abbrev Uu : Type := Nat → Nat → Int32 → XD → Option (Int32 × XD)
section
variable {Z : XS} {N : Nat} {tx : Nat → Nat}
def UC (Z : XS) (N : Nat) (tx : Nat → Nat) (g : Nat) (u : Uu) (x : Int32) (f : Nat → Rr) : Prop := ∀ (X : XD) (s p : Nat), TC Z X N tx → X.1 g 6 = Int32.ofNat s → X.1 g 7 = Int32.ofNat p → s ≤ p → p ≤ N → ∃ Y, u g 45 x X = some (b2 (f p).1, Y) ∧ Rgc g s X Y (f p)
theorem pTest_n {p : Nat} : pTest N tx p = (match letN (cT N tx p) with | none => (false, p, []) | some f => if 60 ≤ cT N tx (p + 1) ∧ cT N tx (p + 1) ≤ 62 then (match pNum N tx (p + 2) with | none => (false, p + 2, []) | some q => (true, q.1, [.inr (f, cT N tx (p + 1) - 60, q.2)])) else (false, p + 1, [])) := by
  unfold pTest pNum
  cases letN (cT N tx p) with
  | none => rfl
  | some f =>
    dsimp only
    by_cases h : 60 ≤ cT N tx (p + 1) ∧ cT N tx (p + 1) ≤ 62
    · rw [if_pos h, if_pos h]
      by_cases h2 : dig (cT N tx (p + 2)) = true
      · rw [if_pos h2, if_pos h2]
        by_cases h3 : dig (cT N tx (p + 3)) = true
        · rw [if_pos h3, if_pos h3]
        · rw [if_neg h3, if_neg h3]
      · rw [if_neg h2, if_neg h2]
    · rw [if_neg h, if_neg h]
theorem pNum_b {p : Nat} {q : Nat × Nat} (h : pNum N tx p = some q) : p < q.1 ∧ q.1 ≤ N ∧ q.2 ≤ 99 := by
  unfold pNum at h
  by_cases h2 : dig (cT N tx p) = true
  · obtain ⟨d1, d2, d3⟩ := nodig (a := 0) h2
    rw [if_pos h2] at h
    by_cases h3 : dig (cT N tx (p + 1)) = true
    · obtain ⟨e1, e2, e3⟩ := nodig (a := 0) h3
      rw [if_pos h3] at h
      cases h
      dsimp only
      omega
    · rw [if_neg h3] at h
      cases h
      dsimp only
      omega
  · rw [if_neg h2] at h
    cases h
theorem test_c {g : Nat} (hg : g ≤ 38) (u : Uu) : ∀ (X : XD) (s p : Nat), TC Z X N tx → X.1 g 6 = Int32.ofNat s → X.1 g 7 = Int32.ofNat p → s ≤ p → p ≤ N → ∃ Y, fX1_unit_66 Z u g 45 X = some (b2 (pTest N tx p).1, Y) ∧ Rgc g s X Y (pTest N tx p) := by
  intro X s p hT h6 h7 hs hp
  have hN := hT.2.1
  unfold fX1_unit_66
  rw [let_c hT h7 (by omega), pTest_n]
  cases e : letN (cT N tx p) with
  | none =>
    dsimp only
    rw [bnw_some, if_pos rfl]
    unfold fX1_unit_90
    rw [if_pos rfl]
    unfold fX1_unit_107
    rw [if_pos rfl]
    exact ⟨X, rfl, Rgc.rfl h6 h7⟩
  | some f =>
    obtain ⟨f1, f2⟩ := letN_b e
    have hpN : p < N := cT_lt (tx := tx) rfl f1
    dsimp only
    rw [bnw_some, if_neg (fun q => ng1_ne (by omega) q.symm)]
    have t1 : TC Z (mv X g (p + 1)) N tx := mv_f.TC hg hT
    rw [sgn_c t1 mv_7 (by omega)]
    by_cases c : 60 ≤ cT N tx (p + 1) ∧ cT N tx (p + 1) ≤ 62
    · have hpN1 : p + 1 < N := cT_lt (tx := tx) rfl (by omega)
      rw [if_pos c, if_pos c, bnw_some]
      unfold fX1_unit_90
      rw [if_neg (fun q => ng1_ne (by omega) q.symm)]
      have t2 : TC Z (mv (mv X g (p + 1)) g (p + 1 + 1)) N tx := mv_f.TC hg t1
      rw [number_c t2 hg mv_7 (by omega)]
      show ∃ Y, (bnw (some (match pNum N tx (p + 2) with | none => _ | some q => _)) _ = _) ∧ _
      cases en : pNum N tx (p + 2) with
      | none =>
        dsimp only
        rw [bnw_some]
        unfold fX1_unit_107
        rw [if_pos rfl]
        exact ⟨_, rfl, Rgc.mv (Rgc.mv (Rgc.rfl (mv_6.trans (mv_6.trans h6)) mv_7))⟩
      | some q =>
        obtain ⟨q1, q2, q3⟩ := pNum_b en
        dsimp only
        rw [bnw_some]
        unfold fX1_unit_107
        rw [if_neg (fun z => ng1_ne (by omega) z.symm), addStep_c (s := s) (mv_6.trans (mv_6.trans (mv_6.trans h6))) (by omega), bnw_some, if_neg (show ¬ (1 : Int32) = 0 by decide)]
        refine ⟨_, rfl, ?_⟩
        have := Rgc.ps (Rgc.rfl (g := g) (s := s) (p := q.1) (X := mv (mv (mv X g (p + 1)) g (p + 1 + 1)) g q.1) (b := true) (mv_6.trans (mv_6.trans (mv_6.trans h6))) mv_7) (.inr (f, cT N tx (p + 1) - 60, q.2))
        have ev : (Int32.ofNat f * 3 + Int32.ofNat (cT N tx (p + 1) - 60)) * 100 + Int32.ofNat q.2 = tokC (.inr (f, cT N tx (p + 1) - 60, q.2)) := by
          show (Int32.ofNat f * Int32.ofNat 3 + Int32.ofNat (cT N tx (p + 1) - 60)) * Int32.ofNat 100 + Int32.ofNat q.2 = _
          rw [o_mul, o_add, o_mul, o_add]
          rfl
        rw [ev]
        exact Rgc.mv (p := p + 1) (Rgc.mv (p := p + 1 + 1) (Rgc.mv (p := q.1) this))
    · rw [if_neg c, if_neg c, bnw_some]
      unfold fX1_unit_90
      rw [if_pos rfl]
      unfold fX1_unit_107
      rw [if_pos rfl]
      exact ⟨_, rfl, Rgc.mv (Rgc.rfl (mv_6.trans h6) mv_7)⟩
theorem both_lp {g : Nat} {u : Uu} {x : Int32} {f : Nat → Rr} (hg : g ≤ 38) (hu : UC Z N tx g u x f) (hB : ∀ p, Bn N p (f p)) : ∀ (m n i s p : Nat) (X : XD), TC Z X N tx → X.1 g 6 = Int32.ofNat s → X.1 g 7 = Int32.ofNat p → s ≤ p → p ≤ N → i ≤ p → 101 ≤ m + p → m < n → ∃ Y, fX1_both_10 Z u g 45 n x 1 (Int32.ofNat i) X = some (b2 (loopB N tx 38 (.inl 1) f m p).1, Y) ∧ Rgc g s X Y (loopB N tx 38 (.inl 1) f m p) := by
  intro m
  induction m with
  | zero => intro n i s p X hT _ _ _ hp _ hm _; have := hT.2.1; omega
  | succ m ih =>
    intro n i s p X hT h6 h7 hs hp hi hm hn
    have hN := hT.2.1
    obtain ⟨n, rfl⟩ : ∃ q, n = q + 1 := ⟨n - 1, by omega⟩
    rw [fX1_both_10_s]
    unfold loopB
    by_cases c : cT N tx p = 38
    · have hpN : p < N := cT_lt c (by decide)
      rw [if_pos c, if_neg (show ¬ (100 : Int32) ≤ Int32.ofNat i from fun q => by have := (o_le (a := 100) (by omega) (by omega)).mp q; omega), if_neg (show ¬ (1 : Int32) = 0 by decide), show (38 : Int32) = Int32.ofNat 38 from rfl, skip_c hT h7 (by omega) (by decide), if_pos c, bnw_some, if_neg (show ¬ (1 : Int32) = 0 by decide)]
      have t1 : TC Z (mv X g (p + 1)) N tx := mv_f.TC hg hT
      obtain ⟨Y, y1, y2⟩ := hu (mv X g (p + 1)) s (p + 1) t1 (mv_6.trans h6) mv_7 (by omega) (by omega)
      obtain ⟨b1, b2', b3⟩ := hB (p + 1)
      rw [y1, bnw_some]
      cases e : (f (p + 1)).1 with
      | false =>
        rw [if_neg (show ¬ false = true by decide), b2_f, if_pos rfl]
        unfold fX1_both_52 fX1_both_53
        rw [nm_eq]
        obtain ⟨n, rfl⟩ : ∃ q, n = q + 1 := ⟨n - 1, by omega⟩
        rw [fX1_both_10_s, if_pos (rfl : (0 : Int32) = 0), gb_0, ite_self, e]
        exact ⟨Y, rfl, Rgc.mv y2⟩
      | true =>
        rw [if_pos rfl, b2_t, if_neg (show ¬ (1 : Int32) = 0 by decide)]
        have y3 : Rgc g s X Y (true, (f (p + 1)).2.1, (f (p + 1)).2.2) := by
          have := Rgc.mv y2
          rw [show f (p + 1) = (true, (f (p + 1)).2.1, (f (p + 1)).2.2) by rw [← e]] at this
          exact this
        have b4 := b2' (by omega)
        rw [addStep_c (s := s + (f (p + 1)).2.2.length) (y2.2.2.2 e).1 (by omega), bnw_some, if_neg (show ¬ (1 : Int32) = 0 by decide)]
        unfold fX1_both_53
        rw [nm_eq]
        have y4 := Rgc.ps y3 (.inl 1)
        show ∃ W, fX1_both_10 Z u g 45 n x 1 (Int32.ofNat i + Int32.ofNat 1) _ = _ ∧ _
        rw [o_add]
        have t2 : TC Z (ps Y g (s + (f (p + 1)).2.2.length) (-1)) N tx := y4.1.TC hg hT
        obtain ⟨W, w1, w2⟩ := ih n (i + 1) (s + (f (p + 1)).2.2.length + 1) (f (p + 1)).2.1 _ t2 ps_6 (ps_7.trans y2.2.1) (by omega) b4 (by omega) (by omega) (by omega)
        refine ⟨W, w1, ?_⟩
        have w3 := y4.app rfl (R2 := loopB N tx 38 (.inl 1) f m (f (p + 1)).2.1) (by
          rw [show s + ((true, (f (p + 1)).2.1, (f (p + 1)).2.2 ++ [.inl 1]) : Rr).2.2.length = s + (f (p + 1)).2.2.length + 1 by rw [List.length_append]; rfl]
          exact w2)
        rw [show ((true, (f (p + 1)).2.1, (f (p + 1)).2.2 ++ [.inl 1]) : Rr).2.2 ++ (loopB N tx 38 (.inl 1) f m (f (p + 1)).2.1).2.2 = (f (p + 1)).2.2 ++ .inl 1 :: (loopB N tx 38 (.inl 1) f m (f (p + 1)).2.1).2.2 by rw [List.append_assoc]; rfl] at w3
        exact w3
    · rw [if_neg c]
      by_cases h100 : (100 : Int32) ≤ Int32.ofNat i
      · rw [if_pos h100]
        exact ⟨X, rfl, Rgc.rfl h6 h7⟩
      · rw [if_neg h100, if_neg (show ¬ (1 : Int32) = 0 by decide), show (38 : Int32) = Int32.ofNat 38 from rfl, skip_c hT h7 (by omega) (by decide), if_neg c, bnw_some, if_pos rfl]
        exact ⟨X, rfl, Rgc.rfl h6 h7⟩
theorem both_c {g : Nat} {u : Uu} {x : Int32} {f : Nat → Rr} (hg : g ≤ 38) (hu : UC Z N tx g u x f) (hB : ∀ p, Bn N p (f p)) : UC Z N tx g (fX1_both Z u) x (pB N tx 38 (.inl 1) f) := by
  intro X s p hT h6 h7 hs hp
  have hN := hT.2.1
  unfold fX1_both pB
  obtain ⟨Y, y1, y2⟩ := hu X s p hT h6 h7 hs hp
  obtain ⟨b1, b2', b3⟩ := hB p
  rw [y1, bnw_some]
  cases e : (f p).1 with
  | false =>
    rw [if_neg (show ¬ false = true by decide), b2_f, show FU = (FU - 1) + 1 by have := FU_gt (k := 1) (by decide); omega, fX1_both_10_s, if_pos (rfl : (0 : Int32) = 0), gb_0, ite_self, e]
    exact ⟨Y, rfl, y2⟩
  | true =>
    rw [if_pos rfl, b2_t]
    obtain ⟨y3, y4⟩ := y2.2.2.2 e
    have hb := b2' hp
    obtain ⟨W, w1, w2⟩ := both_lp hg hu hB 101 FU 0 (s + (f p).2.2.length) (f p).2.1 Y (y2.1.TC hg hT) y3 y2.2.1 (by omega) hb (by omega) (by omega) (FU_gt (by decide))
    exact ⟨W, w1, y2.app e w2⟩
theorem either_lp {g : Nat} {u : Uu} {x : Int32} {f : Nat → Rr} (hg : g ≤ 38) (hu : UC Z N tx g (fX1_both Z u) x f) (hB : ∀ p, Bn N p (f p)) : ∀ (m n i s p : Nat) (X : XD), TC Z X N tx → X.1 g 6 = Int32.ofNat s → X.1 g 7 = Int32.ofNat p → s ≤ p → p ≤ N → i ≤ p → 101 ≤ m + p → m < n → ∃ Y, fX1_either_10 Z u g 45 n x 1 (Int32.ofNat i) X = some (b2 (loopB N tx 124 (.inl 2) f m p).1, Y) ∧ Rgc g s X Y (loopB N tx 124 (.inl 2) f m p) := by
  intro m
  induction m with
  | zero => intro n i s p X hT _ _ _ hp _ hm _; have := hT.2.1; omega
  | succ m ih =>
    intro n i s p X hT h6 h7 hs hp hi hm hn
    have hN := hT.2.1
    obtain ⟨n, rfl⟩ : ∃ q, n = q + 1 := ⟨n - 1, by omega⟩
    rw [fX1_either_10_s]
    unfold loopB
    by_cases c : cT N tx p = 124
    · have hpN : p < N := cT_lt c (by decide)
      rw [if_pos c, if_neg (show ¬ (100 : Int32) ≤ Int32.ofNat i from fun q => by have := (o_le (a := 100) (by omega) (by omega)).mp q; omega), if_neg (show ¬ (1 : Int32) = 0 by decide), show (124 : Int32) = Int32.ofNat 124 from rfl, skip_c hT h7 (by omega) (by decide), if_pos c, bnw_some, if_neg (show ¬ (1 : Int32) = 0 by decide)]
      have t1 : TC Z (mv X g (p + 1)) N tx := mv_f.TC hg hT
      obtain ⟨Y, y1, y2⟩ := hu (mv X g (p + 1)) s (p + 1) t1 (mv_6.trans h6) mv_7 (by omega) (by omega)
      obtain ⟨b1, b2', b3⟩ := hB (p + 1)
      rw [y1, bnw_some]
      cases e : (f (p + 1)).1 with
      | false =>
        rw [if_neg (show ¬ false = true by decide), b2_f, if_pos rfl]
        unfold fX1_either_53 fX1_either_54
        rw [nm_eq]
        obtain ⟨n, rfl⟩ : ∃ q, n = q + 1 := ⟨n - 1, by omega⟩
        rw [fX1_either_10_s, if_pos (rfl : (0 : Int32) = 0), gb_0, ite_self, e]
        exact ⟨Y, rfl, Rgc.mv y2⟩
      | true =>
        rw [if_pos rfl, b2_t, if_neg (show ¬ (1 : Int32) = 0 by decide)]
        have y3 : Rgc g s X Y (true, (f (p + 1)).2.1, (f (p + 1)).2.2) := by
          have := Rgc.mv y2
          rw [show f (p + 1) = (true, (f (p + 1)).2.1, (f (p + 1)).2.2) by rw [← e]] at this
          exact this
        have b4 := b2' (by omega)
        rw [addStep_c (s := s + (f (p + 1)).2.2.length) (y2.2.2.2 e).1 (by omega), bnw_some, if_neg (show ¬ (1 : Int32) = 0 by decide)]
        unfold fX1_either_54
        rw [nm_eq]
        have y4 := Rgc.ps y3 (.inl 2)
        show ∃ W, fX1_either_10 Z u g 45 n x 1 (Int32.ofNat i + Int32.ofNat 1) _ = _ ∧ _
        rw [o_add]
        have t2 : TC Z (ps Y g (s + (f (p + 1)).2.2.length) (-2)) N tx := y4.1.TC hg hT
        obtain ⟨W, w1, w2⟩ := ih n (i + 1) (s + (f (p + 1)).2.2.length + 1) (f (p + 1)).2.1 _ t2 ps_6 (ps_7.trans y2.2.1) (by omega) b4 (by omega) (by omega) (by omega)
        refine ⟨W, w1, ?_⟩
        have w3 := y4.app rfl (R2 := loopB N tx 124 (.inl 2) f m (f (p + 1)).2.1) (by
          rw [show s + ((true, (f (p + 1)).2.1, (f (p + 1)).2.2 ++ [.inl 2]) : Rr).2.2.length = s + (f (p + 1)).2.2.length + 1 by rw [List.length_append]; rfl]
          exact w2)
        rw [show ((true, (f (p + 1)).2.1, (f (p + 1)).2.2 ++ [.inl 2]) : Rr).2.2 ++ (loopB N tx 124 (.inl 2) f m (f (p + 1)).2.1).2.2 = (f (p + 1)).2.2 ++ .inl 2 :: (loopB N tx 124 (.inl 2) f m (f (p + 1)).2.1).2.2 by rw [List.append_assoc]; rfl] at w3
        exact w3
    · rw [if_neg c]
      by_cases h100 : (100 : Int32) ≤ Int32.ofNat i
      · rw [if_pos h100]
        exact ⟨X, rfl, Rgc.rfl h6 h7⟩
      · rw [if_neg h100, if_neg (show ¬ (1 : Int32) = 0 by decide), show (124 : Int32) = Int32.ofNat 124 from rfl, skip_c hT h7 (by omega) (by decide), if_neg c, bnw_some, if_pos rfl]
        exact ⟨X, rfl, Rgc.rfl h6 h7⟩
theorem either_c {g : Nat} {u : Uu} {x : Int32} {f : Nat → Rr} (hg : g ≤ 38) (hu : UC Z N tx g (fX1_both Z u) x f) (hB : ∀ p, Bn N p (f p)) : UC Z N tx g (fX1_either Z u) x (pB N tx 124 (.inl 2) f) := by
  intro X s p hT h6 h7 hs hp
  have hN := hT.2.1
  unfold fX1_either pB
  obtain ⟨Y, y1, y2⟩ := hu X s p hT h6 h7 hs hp
  obtain ⟨b1, b2', b3⟩ := hB p
  rw [y1, bnw_some]
  cases e : (f p).1 with
  | false =>
    rw [if_neg (show ¬ false = true by decide), b2_f, show FU = (FU - 1) + 1 by have := FU_gt (k := 1) (by decide); omega, fX1_either_10_s, if_pos (rfl : (0 : Int32) = 0), gb_0, ite_self, e]
    exact ⟨Y, rfl, y2⟩
  | true =>
    rw [if_pos rfl, b2_t]
    obtain ⟨y3, y4⟩ := y2.2.2.2 e
    have hb := b2' hp
    obtain ⟨W, w1, w2⟩ := either_lp hg hu hB 101 FU 0 (s + (f p).2.2.length) (f p).2.1 Y (y2.1.TC hg hT) y3 y2.2.1 (by omega) hb (by omega) (by omega) (FU_gt (by decide))
    exact ⟨W, w1, y2.app e w2⟩
theorem unit_c {g : Nat} (hg : g ≤ 38) : ∀ (k : Nat), k ≤ 4 → ∀ m, k < m → UC Z N tx g (fX1_unitN Z m) (Int32.ofNat (4 - k)) (pU N tx k) := by
  intro k
  induction k with
  | zero =>
    intro _ m hm X s p hT h6 h7 hs hp
    obtain ⟨m, rfl⟩ : ∃ q, m = q + 1 := ⟨m - 1, by omega⟩
    rw [fX1_unitN_s]
    unfold fX1_unit fX1_unit_24
    rw [if_pos (show (4 : Int32) ≤ Int32.ofNat (4 - 0) by decide), if_pos (show (4 : Int32) ≤ Int32.ofNat (4 - 0) by decide)]
    exact test_c hg _ X s p hT h6 h7 hs hp
  | succ k ih =>
    intro hk m hm X s p hT h6 h7 hs hp
    obtain ⟨m, rfl⟩ : ∃ q, m = q + 1 := ⟨m - 1, by omega⟩
    have ih := ih (by omega) m (by omega)
    have hN := hT.2.1
    have n4 : ¬ (4 : Int32) ≤ Int32.ofNat (4 - (k + 1)) := fun q => by
      have := (o_le (a := 4) (by omega) (by omega)).mp q
      omega
    have e4 : Int32.ofNat (4 - (k + 1)) + 1 = Int32.ofNat (4 - k) := by
      show Int32.ofNat (4 - (k + 1)) + Int32.ofNat 1 = _
      rw [o_add, show 4 - (k + 1) + 1 = 4 - k by omega]
    rw [fX1_unitN_s]
    unfold fX1_unit fX1_unit_24 fX1_negated pU
    rw [if_neg n4, e4, show (33 : Int32) = Int32.ofNat 33 from rfl, skip_c hT h7 (by omega) (by decide)]
    have t1 : TC Z (mv X g (p + 1)) N tx := mv_f.TC hg hT
    by_cases c1 : cT N tx p = 33
    · have hpN : p < N := cT_lt c1 (by decide)
      rw [if_pos c1, if_pos c1, bnw_some, if_neg (show ¬ (1 : Int32) = 0 by decide)]
      obtain ⟨Y, y1, y2⟩ := ih (mv X g (p + 1)) s (p + 1) t1 (mv_6.trans h6) mv_7 (by omega) (by omega)
      obtain ⟨⟨b1, b2', b3⟩, _⟩ := pU_b (N := N) (tx := tx) k (by omega) (p + 1)
      rw [y1, bnw_some]
      cases e : (pU N tx k (p + 1)).1 with
      | false =>
        rw [if_neg (show ¬ false = true by decide), b2_f, if_pos rfl, bnw_some, gb_0, e]
        exact ⟨Y, rfl, Rgc.mv y2⟩
      | true =>
        have b4 := b2' (by omega)
        rw [if_pos rfl, b2_t, if_neg (show ¬ (1 : Int32) = 0 by decide), addStep_c (s := s + (pU N tx k (p + 1)).2.2.length) (y2.2.2.2 e).1 (by omega), bnw_some, if_neg (show ¬ (1 : Int32) = 0 by decide), bnw_some, gb_1]
        refine ⟨_, rfl, ?_⟩
        have y3 : Rgc g s X Y (true, (pU N tx k (p + 1)).2.1, (pU N tx k (p + 1)).2.2) := by
          have := Rgc.mv y2
          rw [show pU N tx k (p + 1) = (true, (pU N tx k (p + 1)).2.1, (pU N tx k (p + 1)).2.2) by rw [← e]] at this
          exact this
        exact y3.ps (.inl 0)
    · rw [if_neg c1, if_neg c1, bnw_some, if_pos rfl, if_neg n4, show (40 : Int32) = Int32.ofNat 40 from rfl, skip_c hT h7 (by omega) (by decide)]
      by_cases c2 : cT N tx p = 40
      · have hpN : p < N := cT_lt c2 (by decide)
        rw [if_pos c2, if_pos c2, bnw_some, if_neg (show ¬ (1 : Int32) = 0 by decide)]
        have bU : ∀ q, Bn N q (pU N tx k q) := fun q => (pU_b k (by omega) q).1
        have bT : ∀ q, Bn N q (pT N tx (pU N tx k) q) := fun q => by
          refine (pB_b (a := 0) (by decide) (by decide) (fun q => ⟨(pU_b (N := N) (tx := tx) k (by omega) q).1, (pU_b (N := N) (tx := tx) k (by omega) q).2.mono (by omega)⟩) q).1
        have hE : UC Z N tx g (fX1_either Z (fX1_unitN Z m)) (Int32.ofNat (4 - k)) (pE N tx (pU N tx k)) := either_c hg (both_c hg ih bU) bT
        have bE : ∀ q, Bn N q (pE N tx (pU N tx k) q) := fun q => by
          refine (pB_b (a := 0) (by decide) (by decide) (fun q => ?_) q).1
          refine pB_b (a := 1) (by decide) (by decide) (fun q => ⟨(pU_b (N := N) (tx := tx) k (by omega) q).1, (pU_b (N := N) (tx := tx) k (by omega) q).2.mono (by omega)⟩) q
        obtain ⟨Y, y1, y2⟩ := hE (mv X g (p + 1)) s (p + 1) t1 (mv_6.trans h6) mv_7 (by omega) (by omega)
        obtain ⟨b1, b2', b3⟩ := bE (p + 1)
        have b4 := b2' (by omega)
        rw [y1, bnw_some]
        cases e : (pE N tx (pU N tx k) (p + 1)).1 with
        | false =>
          rw [if_neg (show ¬ false = true by decide), b2_f, if_pos rfl, e]
          exact ⟨Y, rfl, Rgc.mv y2⟩
        | true =>
          have y3 : Rgc g s X Y (true, (pE N tx (pU N tx k) (p + 1)).2.1, (pE N tx (pU N tx k) (p + 1)).2.2) := by
            have := Rgc.mv y2
            rw [show pE N tx (pU N tx k) (p + 1) = (true, (pE N tx (pU N tx k) (p + 1)).2.1, (pE N tx (pU N tx k) (p + 1)).2.2) by rw [← e]] at this
            exact this
          rw [if_pos rfl, b2_t, if_neg (show ¬ (1 : Int32) = 0 by decide), show (41 : Int32) = Int32.ofNat 41 from rfl, skip_c (y2.1.TC hg t1) y2.2.1 (by omega) (by decide)]
          by_cases c3 : cT N tx (pE N tx (pU N tx k) (p + 1)).2.1 = 41
          · rw [if_pos c3, if_pos c3, bnw_some, if_neg (show ¬ (1 : Int32) = 0 by decide)]
            refine ⟨_, rfl, y3.1.trans mv_f, mv_7, fun q hq => by rw [mv_5]; exact y3.2.2.1 q hq, fun _ => ⟨by rw [mv_6]; exact (y3.2.2.2 rfl).1, (y3.2.2.2 rfl).2.eq mv_5⟩⟩
          · rw [if_neg c3, if_neg c3, bnw_some, if_pos rfl]
            exact ⟨Y, rfl, y3.fail rfl _⟩
      · rw [if_neg c2, if_neg c2, bnw_some, if_pos rfl]
        exact test_c hg _ X s p hT h6 h7 hs hp
theorem expr_c {g : Nat} (hg : g ≤ 38) : UC Z N tx g (fX1_either Z (fX1_unitN Z 6)) 0 (pE N tx (pU N tx 4)) := by
  refine either_c hg (both_c hg (unit_c hg 4 (by decide) 6 (by decide)) (fun q => (pU_b 4 (by decide) q).1)) (fun q => ?_)
  exact (pB_b (a := 1) (by decide) (by decide) (fun q => pU_b 4 (by decide) q) q).1
end
