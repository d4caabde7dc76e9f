set_option maxHeartbeats 40000000
set_option maxRecDepth 100000
/-! the reference's parser: tests, the run of one condition -/
section
variable {N : Nat} {tx : Nat → Nat}
noncomputable abbrev LE := fX12_takesE_22
theorem test_m {b x p e : Nat} {W : List Nat} {X : XD} (hS : Sm N tx b X p W e) : ∃ Y, fX12_takesTest X = some (b2 (pTest N tx p).1, Y) ∧ Y.1 0 12 = Int32.ofNat (pTest N tx p).2.1 ∧ FrM x e X Y ∧ ((pTest N tx p).1 = true → p < (pTest N tx p).2.1 ∧ Sm N tx b Y (pTest N tx p).2.1 (strip W) (e + (pTest N tx p).2.2.length + nb W) ∧ Pc x e X Y ((pTest N tx p).2.2 ++ List.replicate (nb W) (.inl 0))) := by
  obtain ⟨s1, s2, s3, s4, s5, s6, s7, s8, s9, s10, s11⟩ := id hS
  have hN := s1.1
  have e1 : ∀ q : Nat, Int32.ofNat q + 1 = Int32.ofNat (q + 1) := fun q => by
    show Int32.ofNat q + Int32.ofNat 1 = _
    rw [o_add]
  unfold fX12_takesTest
  have hc : cT N tx p ≤ 127 ∨ cT N tx p = 1000 := by
    by_cases h : p < N
    · exact Or.inl (s1.le127 h)
    · exact Or.inr (if_neg h)
  rw [next_m s1 s7 (by omega), bnd_some, place_m hc, pTest_n]
  cases el : letN (cT N tx p) with
  | none =>
    dsimp only
    rw [bnd_some, if_neg (show ¬ (0 : Int32) ≤ -1 by decide)]
    exact ⟨X, rfl, s7, FrM.rfl, fun h => by cases h⟩
  | some f =>
    obtain ⟨f1, f2⟩ := letN_b el
    have hpN : p < N := cT_lt (tx := tx) rfl f1
    dsimp only
    rw [bnd_some, if_pos (show (0 : Int32) ≤ Int32.ofNat f from (o_le (a := 0) (by omega) (by omega)).mpr (by omega)), nm_eq, s7, e1]
    have t1 : TM (wI X 0 12 (Int32.ofNat (p + 1))) N tx := (FrM.w0 (x := 0) (e := 0) (by omega)).TM s1
    rw [next_m t1 wI_s (by omega), bnd_some, show (60 : Int32) = Int32.ofNat 60 from rfl, show (62 : Int32) = Int32.ofNat 62 from rfl, in_m (t1.le _) (by decide) (by decide), bnd_some]
    by_cases c : 60 ≤ cT N tx (p + 1) ∧ cT N tx (p + 1) ≤ 62
    · have hpN1 : p + 1 < N := cT_lt (tx := tx) rfl (show cT N tx (p + 1) < 1000 by omega)
      rw [decide_eq_true c.1, decide_eq_true c.2, if_pos c]
      rw [show b2 (true && true) = 1 from rfl, if_neg (show ¬ (1 : Int32) = 0 by decide), nm_eq, wI_s, e1]
      have t2 : TM (wI (wI X 0 12 (Int32.ofNat (p + 1))) 0 12 (Int32.ofNat (p + 1 + 1))) N tx := (FrM.w0 (x := 0) (e := 0) (by omega)).TM t1
      have nn := number_m t2 (p := p + 2) wI_s (by omega)
      cases en : pNum N tx (p + 2) with
      | none =>
        rw [en] at nn
        dsimp only at nn ⊢
        rw [nn, bnw_some, if_pos rfl]
        exact ⟨_, rfl, wI_s, (FrM.w0 (by omega)).trans (FrM.w0 (by omega)) (Nat.le_refl _), fun h => by cases h⟩
      | some q =>
        obtain ⟨q1, q2, q3⟩ := pNum_b en
        rw [en] at nn
        obtain ⟨Y, y1, y2, y3, y4, y5⟩ := nn
        dsimp only
        rw [y1, bnw_some, if_neg (show ¬ (1 : Int32) = 0 by decide), y3]
        have fY : FrM x e X Y := ⟨y4, fun i k a1 a2 a3 a4 => by
          rw [y5 i k (by omega)]
          by_cases z : i = 0
          · rw [wI_k (by omega), wI_k (by omega)]
          · rw [wI_c z, wI_c z]⟩
        have kY : ∀ k, k ≠ 12 → k ≠ 13 → Y.1 0 k = X.1 0 k := fun k k1 k2 => by
          rw [y5 0 k (by omega), wI_k k1, wI_k k1]
        have y14 : Y.1 14 = X.1 14 := by
          funext k
          rw [y5 14 k (by omega), wI_c (by decide), wI_c (by decide)]
        have ev : (1000 : Int32) * Int32.ofNat f + 100 * (cI (cT N tx (p + 1)) - Int32.ofNat 60) + Int32.ofNat q.2 = tokM (.inr (f, cT N tx (p + 1) - 60, q.2)) := by
          rw [show cI (cT N tx (p + 1)) = Int32.ofNat (cT N tx (p + 1)) from if_neg (by omega), o_sub c.1]
          show Int32.ofNat 1000 * Int32.ofNat f + Int32.ofNat 100 * Int32.ofNat (cT N tx (p + 1) - 60) + Int32.ofNat q.2 = _
          rw [o_mul, o_mul, o_add, o_add]
          rfl
        rw [ev, emits_m (e := e) ((kY 22 (by decide) (by decide)).trans s11) (by omega), bnw_some]
        have qE : Pc x e X (em Y e (tokM (.inr (f, cT N tx (p + 1) - 60, q.2)))) [.inr (f, cT N tx (p + 1) - 60, q.2)] := Pc.fr1 fY em_p
        have kE : ∀ k, k ≠ 22 → (em Y e (tokM (.inr (f, cT N tx (p + 1) - 60, q.2)))).1 0 k = Y.1 0 k := fun k hk => by
          unfold em
          rw [wI_k hk, wI_c (by decide)]
        have sE : Sm N tx b (em Y e (tokM (.inr (f, cT N tx (p + 1) - 60, q.2)))) q.1 W (e + 1) := by
          refine ⟨qE.1.TM s1, q2, s3, by omega, by omega, s6, ?_, ?_, stk_eq (fun k _ => ?_) s9, ?_, ?_⟩
          · rw [kE _ (by decide)]; exact y2
          · rw [kE _ (by decide), kY _ (by decide) (by decide)]; exact s8
          · unfold em; rw [wI_c (by decide), wI_c (by decide), y14]
          · rw [kE _ (by decide), kY _ (by decide) (by decide)]; exact s10
          · unfold em; rw [wI_s]
        obtain ⟨V, v1, v2, v3⟩ := whole_m (x := x) W FU q.1 (e + 1) _ (FU_gt (by omega)) sE
        unfold fX12_whole
        rw [v1, bnw_some]
        refine ⟨V, rfl, v2.2.2.2.2.2.2.1, qE.1.trans v3.1 (by omega), fun _ => ⟨by omega, v2, qE.app v3⟩⟩
    · have c0 : (decide (60 ≤ cT N tx (p + 1)) && decide (cT N tx (p + 1) ≤ 62)) = false := by
        cases h : (decide (60 ≤ cT N tx (p + 1)) && decide (cT N tx (p + 1) ≤ 62)) with
        | false => rfl
        | true =>
          rw [Bool.and_eq_true, decide_eq_true_iff, decide_eq_true_iff] at h
          exact absurd h c
      rw [c0, if_neg c, b2_f, if_pos rfl]
      exact ⟨_, rfl, wI_s, FrM.w0 (by omega), fun h => by cases h⟩
/-- a run of one condition from sign p on gives R -/
def Rm (N : Nat) (tx : Nat → Nat) (b x e p : Nat) (X : XD) (w : Int32) (R : Rr) (V : List Nat → List Tok → Prop) : Prop := (R.1 = true → ∃ k W l Y, (∀ n, LE (n + k) (Int32.ofNat x) w X = LE n (Int32.ofNat x) 0 Y) ∧ k + p ≤ R.2.1 ∧ Sm N tx b Y R.2.1 W (e + l.length) ∧ Pc x e X Y l ∧ V W l) ∧ (R.1 = false → ∃ k Y, (∀ n, LE (n + k) (Int32.ofNat x) w X = some (0, Y)) ∧ k + p ≤ R.2.1 + 1 ∧ Y.1 0 12 = Int32.ofNat R.2.1 ∧ FrM x e X Y)
end
