set_option maxHeartbeats 40000000
set_option maxRecDepth 100000
/-! the reference's parser: numbers, whole, settle, tests -/
section
variable {N : Nat} {tx : Nat → Nat}
def dg (X : XD) (v p : Nat) : XD := wI (wI X 0 13 (Int32.ofNat v)) 0 12 (Int32.ofNat p)
theorem dg_f {X : XD} {v p i k : Nat} (h : ¬ (i = 0 ∧ (k = 12 ∨ k = 13))) : (dg X v p).1 i k = X.1 i k := by
  unfold dg
  by_cases z : i = 0
  · rw [wI_k (by omega), wI_k (by omega)]
  · rw [wI_c z, wI_c z]
theorem dg_12 {X : XD} {v p : Nat} : (dg X v p).1 0 12 = Int32.ofNat p := wI_s
theorem dg_13 {X : XD} {v p : Nat} : (dg X v p).1 0 13 = Int32.ofNat v := by
  unfold dg
  rw [wI_k (by decide), wI_s]
theorem dg_F {X : XD} {x e v p : Nat} : FrM x e X (dg X v p) := (FrM.w0 (by omega)).trans (FrM.w0 (by omega)) (Nat.le_refl _)
theorem digit_m {X : XD} {v p n c : Nat} (hT : TM X N tx) (h12 : X.1 0 12 = Int32.ofNat p) (h13 : X.1 0 13 = Int32.ofNat v) (hc : c < 2) (hp : p < 1000) : fX12_takesNumber_16 (n + 1) (Int32.ofNat c) X = if dig (cT N tx p) = true then fX12_takesNumber_16 n (Int32.ofNat (c + 1)) (dg X (10 * v + (cT N tx p - 48)) (p + 1)) else some (1, X) := by
  rw [show fX12_takesNumber_16 (n + 1) (Int32.ofNat c) X = if ((2 : Int32)) ≤ Int32.ofNat c then some ((1 : Int32), X) else bnd (fX12_isDigit X) (fun r5 => if r5 = 0 then some ((1 : Int32), X) else bnd (fX12_next X) (fun r7 => nm (wI X 0 13 (((((10 : Int32)) * (X.1 0 13)) + r7) - ((48 : Int32)))) (fun X_8 => nm (wI X_8 0 12 ((X_8.1 0 12) + ((1 : Int32)))) (fun X_9 => nm (Int32.ofNat c + (1 : Int32)) (fun y10 => fX12_takesNumber_16 n y10 X_9))))) from rfl]
  rw [if_neg (show ¬ (2 : Int32) ≤ Int32.ofNat c from fun q => by have := (o_le (a := 2) (by omega) (by omega)).mp q; omega), isDigit_m hT h12 (by omega), bnd_some]
  by_cases d : dig (cT N tx p) = true
  · obtain ⟨d1, d2, d3⟩ := nodig (a := 0) d
    rw [d, b2_t, if_neg (show ¬ (1 : Int32) = 0 by decide), next_m hT h12 (by omega), bnd_some, if_pos rfl, nm_eq, nm_eq, nm_eq, wI_k (by decide), h12, h13]
    have e1 : (10 : Int32) * Int32.ofNat v + cI (cT N tx p) - 48 = Int32.ofNat (10 * v + (cT N tx p - 48)) := by
      rw [show cI (cT N tx p) = Int32.ofNat (cT N tx p) from if_neg (by omega)]
      show Int32.ofNat 10 * _ + _ - Int32.ofNat 48 = _
      rw [o_mul, o_add, o_sub (by omega)]
      congr 1
      omega
    have e2 : Int32.ofNat p + 1 = Int32.ofNat (p + 1) := by
      show Int32.ofNat p + Int32.ofNat 1 = _
      rw [o_add]
    have e3 : Int32.ofNat c + 1 = Int32.ofNat (c + 1) := by
      show Int32.ofNat c + Int32.ofNat 1 = _
      rw [o_add]
    rw [e1, e2, e3]
    rfl
  · have d0 : dig (cT N tx p) = false := by cases h : dig (cT N tx p) with | false => rfl | true => exact absurd h d
    rw [if_neg d, d0, b2_f, if_pos rfl]
theorem dg_T {X : XD} {v p : Nat} (h : TM X N tx) : TM (dg X v p) N tx := (dg_F (x := 0) (e := 0)).TM h
theorem number_m {X : XD} {p : Nat} (hT : TM X N tx) (h12 : X.1 0 12 = Int32.ofNat p) (hp : p < 900) : match pNum N tx p with
    | none => fX12_takesNumber X = some (0, X)
    | some q => ∃ Y, fX12_takesNumber X = some (1, Y) ∧ Y.1 0 12 = Int32.ofNat q.1 ∧ Y.1 0 13 = Int32.ofNat q.2 ∧ Y.2 = X.2 ∧ ∀ i k, ¬ (i = 0 ∧ (k = 12 ∨ k = 13)) → Y.1 i k = X.1 i k := by
  unfold pNum fX12_takesNumber
  rw [isDigit_m hT h12 (by omega), bnd_some]
  by_cases d : dig (cT N tx p) = true
  · rw [if_pos d, d, b2_t, if_neg (show ¬ (1 : Int32) = 0 by decide), nm_eq]
    have t0 : TM (wI X 0 13 0) N tx := (FrM.w0 (x := 0) (e := 0) (by omega)).TM hT
    have f0 : ∀ i k, ¬ (i = 0 ∧ (k = 12 ∨ k = 13)) → (wI X 0 13 0).1 i k = X.1 i k := by
      intro i k h
      by_cases z : i = 0
      · rw [wI_k (by omega)]
      · rw [wI_c z]
    have g12 : (wI X 0 13 0).1 0 12 = Int32.ofNat p := by rw [wI_k (by decide)]; exact h12
    have g13 : (wI X 0 13 0).1 0 13 = Int32.ofNat 0 := wI_s
    have g2 : (wI X 0 13 0).2 = X.2 := rfl
    generalize wI X 0 13 0 = X0 at *
    obtain ⟨m, hm⟩ : ∃ m, FU = m + 3 := ⟨FU - 3, by have := FU_gt (k := 5) (by decide); omega⟩
    rw [hm]
    have s1 := digit_m (n := m + 2) (c := 0) t0 g12 g13 (by decide) (by omega)
    rw [if_pos d] at s1
    have s2 := digit_m (n := m + 1) (c := 1) (dg_T t0) (dg_12 (X := X0) (v := 10 * 0 + (cT N tx p - 48)) (p := p + 1)) dg_13 (by decide) (by omega)
    by_cases d2 : dig (cT N tx (p + 1)) = true
    · rw [if_pos d2] at s2
      rw [if_pos d2]
      refine ⟨dg (dg X0 (10 * 0 + (cT N tx p - 48)) (p + 1)) (10 * (10 * 0 + (cT N tx p - 48)) + (cT N tx (p + 1) - 48)) (p + 1 + 1), (s1.trans s2).trans rfl, dg_12, ?_, g2, fun i k h => by rw [dg_f h, dg_f h, f0 i k h]⟩
      rw [dg_13]
      dsimp only
      congr 1
      omega
    · rw [if_neg d2] at s2
      rw [if_neg d2]
      refine ⟨dg X0 (10 * 0 + (cT N tx p - 48)) (p + 1), s1.trans s2, dg_12, ?_, g2, fun i k h => by rw [dg_f h, f0 i k h]⟩
      rw [dg_13]
      dsimp only
      congr 1
      omega
  · have d0 : dig (cT N tx p) = false := by cases h : dig (cT N tx p) with | false => rfl | true => exact absurd h d
    rw [if_neg d, d0, b2_f, if_pos rfl]
theorem nb_le : ∀ {W : List Nat}, nb W ≤ pnd W
  | [] => Nat.le_refl _
  | w :: W => by
    unfold nb pnd
    by_cases h : w = 33
    · rw [if_pos h, if_neg (by omega)]
      have := nb_le (W := W)
      omega
    · rw [if_neg h]
      exact Nat.zero_le _
/-- one less on the stack, with its step put out -/
def pop1 (X : XD) (W : List Nat) (e : Nat) (v : Int32) : XD := wI (em X e v) 0 23 (Int32.ofNat W.length)
theorem pop1_F {X : XD} {W : List Nat} {x e : Nat} {t : Tok} : Pc x e X (pop1 X W e (tokM t)) [t] := em_p.fr (FrM.w0 (by omega))
theorem whole_m {b x : Nat} : ∀ (W : List Nat) (n p e : Nat) (X : XD), W.length < n → Sm N tx b X p W e → ∃ Y, fX12_whole_0 n X = some ((), Y) ∧ Sm N tx b Y p (strip W) (e + nb W) ∧ Pc x e X Y (List.replicate (nb W) (.inl 0)) := by
  intro W
  induction W with
  | nil =>
    intro n p e X hn hS
    obtain ⟨n, rfl⟩ : ∃ q, n = q + 1 := ⟨n - 1, by omega⟩
    have h23 : X.1 0 23 = Int32.ofNat 0 := hS.2.2.2.2.2.2.2.1
    rw [fX12_whole_0_s, h23, if_pos (show Int32.ofNat 0 ≤ 0 by decide)]
    exact ⟨X, rfl, hS, Pc.nil FrM.rfl⟩
  | cons w W ih =>
    intro n p e X hn hS
    obtain ⟨s1, s2, s3, s4, s5, s6, s7, s8, s9, s10, s11⟩ := id hS
    have hN := s1.1
    rw [List.length_cons] at hn s5 s8
    have hw := s6 w (List.mem_cons_self ..)
    obtain ⟨n, rfl⟩ : ∃ q, n = q + 1 := ⟨n - 1, by omega⟩
    have e1 : Int32.ofNat (W.length + 1) - 1 = Int32.ofNat W.length := o_sub (b := 1) (by omega)
    rw [fX12_whole_0_s, s8, if_neg (show ¬ Int32.ofNat (W.length + 1) ≤ 0 from fun q => by have := (o_le (b := 0) (by omega) (by omega)).mp q; omega), e1, gin_o (by omega) (by omega), i32n (by omega), s9.1]
    by_cases c : w = 33
    · subst c
      have ep : pnd (33 :: W) = 1 + pnd W := rfl
      have eo : opn (33 :: W) = 1 + opn W := rfl
      rw [if_pos (show Int32.ofNat 33 = 33 by decide), show (-33 : Int32) = tokM (.inl 0) from rfl, emits_m s11 (by omega), bnw_some, nm_eq, nm_eq]
      have e2 : (em X e (tokM (.inl 0))).1 0 23 = Int32.ofNat (W.length + 1) := by
        unfold em
        rw [wI_k (by decide), wI_c (by decide), s8]
      have e3 : (wI (em X e (tokM (.inl 0))) 0 23 (Int32.ofNat W.length)).1 0 24 - 1 = Int32.ofNat (opn W) := by
        unfold em
        rw [wI_k (by decide), wI_k (by decide), wI_c (by decide), s10, eo]
        exact (o_sub (b := 1) (by omega)).trans (by rw [Nat.add_sub_cancel_left])
      rw [e2, e1, e3]
      have q1 : Pc x e X (wI (wI (em X e (tokM (.inl 0))) 0 23 (Int32.ofNat W.length)) 0 24 (Int32.ofNat (opn W))) [.inl 0] := (em_p.fr (FrM.w0 (by omega))).fr (FrM.w0 (by omega))
      have q2 : Sm N tx b (wI (wI (em X e (tokM (.inl 0))) 0 23 (Int32.ofNat W.length)) 0 24 (Int32.ofNat (opn W))) p W (e + 1) := by
        refine ⟨q1.1.TM s1, s2, s3, by omega, by omega, fun z hz => s6 z (List.mem_cons_of_mem _ hz), ?_, ?_, stk_eq (fun k _ => ?_) s9.2, wI_s, ?_⟩
        · unfold em; rw [wI_k (by decide), wI_k (by decide), wI_k (by decide), wI_c (by decide), s7]
        · rw [wI_k (by decide), wI_s]
        · unfold em; rw [wI_c (by decide), wI_c (by decide), wI_c (by decide), wI_c (by decide)]
        · unfold em; rw [wI_k (by decide), wI_k (by decide), wI_s]
      obtain ⟨Y, y1, y2, y3⟩ := ih n p (e + 1) _ (by omega) q2
      refine ⟨Y, y1, ?_, ?_⟩
      · rw [show strip (33 :: W) = strip W from rfl, show nb (33 :: W) = nb W + 1 from rfl, show e + (nb W + 1) = e + 1 + nb W by omega]
        exact y2
      · exact q1.app y3
    · rw [if_neg (show ¬ Int32.ofNat w = 33 from fun q => c ((o_eq (b := 33) (by omega) (by omega)).mp q)), show strip (w :: W) = w :: W from if_neg c, show nb (w :: W) = 0 from if_neg c]
      exact ⟨X, rfl, hS, Pc.nil FrM.rfl⟩
def stl (x : Nat) : List Nat → List Nat × List Tok
  | [] => ([], [])
  | w :: W => if w = 38 then ((stl x W).1, .inl 1 :: (stl x W).2) else if w = 124 then (if x = 38 then (w :: W, []) else ((stl x W).1, .inl 2 :: (stl x W).2)) else (w :: W, [])
theorem settle_m {b x v : Nat} (hv : v ≤ 124) : ∀ (W : List Nat) (n p e : Nat) (X : XD), W.length < n → Sm N tx b X p W e → ∃ Y, fX12_settle_0 n (Int32.ofNat v) X = some ((), Y) ∧ Sm N tx b Y p (stl v W).1 (e + (stl v W).2.length) ∧ Pc x e X Y (stl v W).2 := by
  intro W
  induction W with
  | nil =>
    intro n p e X hn hS
    obtain ⟨n, rfl⟩ : ∃ q, n = q + 1 := ⟨n - 1, by omega⟩
    have h23 : X.1 0 23 = Int32.ofNat 0 := hS.2.2.2.2.2.2.2.1
    rw [fX12_settle_0_s, h23, if_pos (show Int32.ofNat 0 ≤ 0 by decide)]
    exact ⟨X, rfl, hS, Pc.nil FrM.rfl⟩
  | cons w W ih =>
    intro n p e X hn hS
    obtain ⟨s1, s2, s3, s4, s5, s6, s7, s8, s9, s10, s11⟩ := id hS
    have hN := s1.1
    rw [List.length_cons] at hn s5 s8
    have hw := s6 w (List.mem_cons_self ..)
    obtain ⟨n, rfl⟩ : ∃ q, n = q + 1 := ⟨n - 1, by omega⟩
    have e1 : Int32.ofNat (W.length + 1) - 1 = Int32.ofNat W.length := o_sub (b := 1) (by omega)
    have go : ∀ t : Tok, tokM t = -Int32.ofNat w → pnd (w :: W) = 1 + pnd W → opn (w :: W) = opn W → ∃ Y, fX12_settle_45 (fX12_settle_0 n) (Int32.ofNat v) X = some ((), Y) ∧ Sm N tx b Y p (stl v W).1 (e + 1 + (stl v W).2.length) ∧ Pc x e X Y (t :: (stl v W).2) := by
      intro t ht ep eo
      unfold fX12_settle_45
      have p23 : (wI X 0 23 (Int32.ofNat W.length)).1 0 23 = Int32.ofNat W.length := wI_s
      have p14 : (wI X 0 23 (Int32.ofNat W.length)).1 14 W.length = Int32.ofNat w := by rw [wI_c (by decide)]; exact s9.1
      have p22 : (wI X 0 23 (Int32.ofNat W.length)).1 0 22 = Int32.ofNat e := by rw [wI_k (by decide)]; exact s11
      rw [nm_eq, s8, e1, p23, gin_o (by omega) (by omega), i32n (by omega), p14, ← ht, emits_m p22 (by omega), bnw_some]
      have q1 : Pc x e X (em (wI X 0 23 (Int32.ofNat W.length)) e (tokM t)) [t] := Pc.fr1 (FrM.w0 (by omega)) em_p
      have q2 : Sm N tx b (em (wI X 0 23 (Int32.ofNat W.length)) e (tokM t)) p W (e + 1) := by
        refine ⟨q1.1.TM s1, s2, s3, by omega, by omega, fun z hz => s6 z (List.mem_cons_of_mem _ hz), ?_, ?_, stk_eq (fun k _ => ?_) s9.2, ?_, ?_⟩
        · unfold em; rw [wI_k (by decide), wI_c (by decide), wI_k (by decide), s7]
        · unfold em; rw [wI_k (by decide), wI_c (by decide), wI_s]
        · unfold em; rw [wI_c (by decide), wI_c (by decide), wI_c (by decide)]
        · unfold em; rw [wI_k (by decide), wI_c (by decide), wI_k (by decide), s10, eo]
        · unfold em; rw [wI_s]
      obtain ⟨Y, y1, y2, y3⟩ := ih n p (e + 1) _ (by omega) q2
      exact ⟨Y, y1, y2, q1.app y3⟩
    rw [fX12_settle_0_s, s8, if_neg (show ¬ Int32.ofNat (W.length + 1) ≤ 0 from fun q => by have := (o_le (b := 0) (by omega) (by omega)).mp q; omega), e1, gin_o (by omega) (by omega), i32n (by omega), s9.1]
    unfold stl
    by_cases c : w = 38
    · subst c
      rw [if_pos (show Int32.ofNat 38 = 38 by decide), if_pos rfl]
      obtain ⟨Y, y1, y2, y3⟩ := go (.inl 1) rfl rfl (by show 0 + opn W = opn W; omega)
      refine ⟨Y, y1, ?_, y3⟩
      rw [List.length_cons, show e + ((stl v W).2.length + 1) = e + 1 + (stl v W).2.length by omega]
      exact y2
    · rw [if_neg (show ¬ Int32.ofNat w = 38 from fun q => c ((o_eq (b := 38) (by omega) (by omega)).mp q)), if_neg c, gin_o (by omega) (by omega)]
      by_cases c2 : w = 124
      · subst c2
        rw [if_pos (show Int32.ofNat 124 = 124 by decide), if_pos rfl]
        by_cases c3 : v = 38
        · subst c3
          rw [if_pos (show Int32.ofNat 38 = 38 by decide), if_pos rfl]
          exact ⟨X, rfl, hS, Pc.nil FrM.rfl⟩
        · rw [if_neg (show ¬ Int32.ofNat v = 38 from fun q => c3 ((o_eq (b := 38) (by omega) (by omega)).mp q)), if_neg c3]
          obtain ⟨Y, y1, y2, y3⟩ := go (.inl 2) rfl rfl (by show 0 + opn W = opn W; omega)
          refine ⟨Y, y1, ?_, y3⟩
          rw [List.length_cons, show e + ((stl v W).2.length + 1) = e + 1 + (stl v W).2.length by omega]
          exact y2
      · rw [if_neg (show ¬ Int32.ofNat w = 124 from fun q => c2 ((o_eq (b := 124) (by omega) (by omega)).mp q)), if_neg c2]
        exact ⟨X, rfl, hS, Pc.nil FrM.rfl⟩
end
