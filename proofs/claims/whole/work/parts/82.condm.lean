set_option maxHeartbeats 40000000
set_option maxRecDepth 100000
/-! the reference's parser: a whole condition by the grammar -/
section
variable {N : Nat} {tx : Nat → Nat}
def UM (N : Nat) (tx : Nat → Nat) (b x k : Nat) (u : Nat → Rr) : Prop := ∀ (p e : Nat) (W : List Nat) (X : XD), Sm N tx b X p W e → opn W + k = 4 → Rm N tx b x e p X 1 (u p) (fun W' l => W' = strip W ∧ l = (u p).2.2 ++ List.replicate (nb W) (.inl 0))
theorem opn_38 {c : Bool} {Q : List Nat} : opn (P38 c Q) = opn Q := by
  cases c with
  | false => rfl
  | true => show 0 + opn Q = _; omega
theorem step38 {b x p e : Nat} {W Q : List Nat} {l : List Tok} {X : XD} {s : Nat} (hs : s = 38 ∨ s = 124) (hS : Sm N tx b X p W e) (hc : cT N tx p = s) (hq : stl s W = (Q, l)) : ∃ Y, (∀ n, LE (n + 1) (Int32.ofNat x) 0 X = LE n (Int32.ofNat x) 1 Y) ∧ Sm N tx b Y (p + 1) (s :: Q) (e + l.length) ∧ Pc x e X Y l := by
  have hp : p < N := cT_lt hc (by omega)
  obtain ⟨Y, y1, y2, y3⟩ := between_m (x := x) hS hp hs hq
  refine ⟨Y, fun n => ?_, y2, y3⟩
  rw [LE_1 hS, hc, show cI s = Int32.ofNat s from if_neg (by omega)]
  show (if (0 : Int32) = 0 then _ else _) = _
  rw [if_pos rfl]
  rcases hs with rfl | rfl
  · rw [if_pos (show Int32.ofNat 38 = 38 by decide)]
    exact y1 _
  · rw [if_neg (show ¬ Int32.ofNat 124 = 38 by decide), if_pos (show Int32.ofNat 124 = 124 by decide)]
    exact y1 _
theorem loopT_m {b x k : Nat} {u : Nat → Rr} (hu : UM N tx b x k u) (hB : ∀ p, Bn N p (u p)) {Q : List Nat} (hQ : hd1 Q) (ho : opn Q + k = 4) : ∀ (m p e : Nat) (c : Bool) (X : XD), Sm N tx b X p (P38 c Q) e → 101 ≤ m + p → Rm N tx b x e p X 0 (loopB N tx 38 (.inl 1) u m p) (fun W' l => ∃ c', W' = P38 c' Q ∧ l ++ K1 c' = K1 c ++ (loopB N tx 38 (.inl 1) u m p).2.2 ∧ cT N tx (loopB N tx 38 (.inl 1) u m p).2.1 ≠ 38) := by
  intro m
  induction m with
  | zero => intro p e c X hS hm; have := hS.1.1; have := hS.2.1; omega
  | succ m ih =>
    intro p e c X hS hm
    unfold loopB
    by_cases h : cT N tx p = 38
    · obtain ⟨Y, y1, y2, y3⟩ := step38 (x := x) (Or.inl rfl) hS h (stl_38 hQ)
      rw [if_pos h]
      have hpN : p < N := cT_lt h (by decide)
      obtain ⟨b1, b2', b3⟩ := hB (p + 1)
      have ru := hu (p + 1) _ _ Y y2 (by show 0 + opn Q + k = 4; omega)
      cases e1 : (u (p + 1)).1 with
      | true =>
        rw [if_pos rfl]
        obtain ⟨j, W, l, Y1, a1, a2, a3, a4, a5, a6⟩ := ru.1 e1
        have hW : W = P38 true Q := a5
        have hl : l = (u (p + 1)).2.2 := by rw [a6]; exact List.append_nil _
        subst hW
        subst hl
        have ri := ih (u (p + 1)).2.1 _ true Y1 a3 (by omega)
        refine Rm.pre (p' := (u (p + 1)).2.1) (w' := 0) (j := j + 1) (l0 := K1 c ++ (u (p + 1)).2.2) (fun n => ?_) (by omega) (y3.app a4) (by rw [List.length_append, ← Nat.add_assoc]; exact ri) rfl rfl ?_
        · rw [← Nat.add_assoc, y1, a1]
        · intro W l _ hV
          obtain ⟨c', v1, v2, v3⟩ := hV
          refine ⟨c', v1, ?_, v3⟩
          rw [List.append_assoc, List.append_assoc, v2]
          rfl
      | false =>
        rw [if_neg (show ¬ false = true by decide)]
        refine Rm.pre (j := 1) y1 (by omega) y3 ru rfl rfl (fun W l t => ?_)
        rw [e1] at t
        cases t
    · rw [if_neg h]
      exact Rm.stay hS ⟨c, rfl, by show K1 c = K1 c ++ []; rw [List.append_nil], h⟩
theorem T_m {b x k : Nat} {u : Nat → Rr} (hu : UM N tx b x k u) (hB : ∀ p, Bn N p (u p)) {Q : List Nat} (hQ : hd1 Q) (ho : opn Q + k = 4) {p e : Nat} {X : XD} (hS : Sm N tx b X p Q e) : Rm N tx b x e p X 1 (pT N tx u p) (fun W' l => ∃ c', W' = P38 c' Q ∧ l ++ K1 c' = (pT N tx u p).2.2 ∧ cT N tx (pT N tx u p).2.1 ≠ 38) := by
  unfold pT pB
  have ru := hu p e Q X hS ho
  rw [(hd1_s hQ).1, (hd1_s hQ).2.1] at ru
  cases e1 : (u p).1 with
  | true =>
    rw [if_pos rfl]
    obtain ⟨j, W, l, Y1, a1, a2, a3, a4, a5, a6⟩ := ru.1 e1
    have hl : l = (u p).2.2 := by rw [a6]; exact List.append_nil _
    subst a5
    subst hl
    refine Rm.pre (j := j) a1 a2 a4 (loopT_m hu hB hQ ho 101 (u p).2.1 _ false Y1 a3 (by omega)) rfl rfl ?_
    intro W l _ hV
    obtain ⟨c', v1, v2, v3⟩ := hV
    refine ⟨c', v1, ?_, v3⟩
    rw [List.append_assoc, v2]
    rfl
  | false =>
    rw [if_neg (show ¬ false = true by decide)]
    refine Rm.pre (j := 0) (l0 := []) (fun n => rfl) (by omega) (Pc.nil FrM.rfl) ru rfl rfl (fun W l t => ?_)
    rw [e1] at t
    cases t
theorem loopE_m {b x k : Nat} {u : Nat → Rr} (hu : UM N tx b x k u) (hB : ∀ p, Bn N p (u p)) (hT : ∀ p, Bn N p (pT N tx u p)) {B : List Nat} (hQ : hd0 B) (ho : opn B + k = 4) : ∀ (m p e : Nat) (c d : Bool) (X : XD), Sm N tx b X p (P38 c (P124 d B)) e → 101 ≤ m + p → cT N tx p ≠ 38 → Rm N tx b x e p X 0 (loopB N tx 124 (.inl 2) (pT N tx u) m p) (fun W' l => ∃ c' d', W' = P38 c' (P124 d' B) ∧ l ++ (K1 c' ++ K2 d') = (K1 c ++ K2 d) ++ (loopB N tx 124 (.inl 2) (pT N tx u) m p).2.2 ∧ cT N tx (loopB N tx 124 (.inl 2) (pT N tx u) m p).2.1 ≠ 38 ∧ cT N tx (loopB N tx 124 (.inl 2) (pT N tx u) m p).2.1 ≠ 124) := by
  intro m
  induction m with
  | zero => intro p e c d X hS hm; have := hS.1.1; have := hS.2.1; omega
  | succ m ih =>
    intro p e c d X hS hm hn
    unfold loopB
    by_cases h : cT N tx p = 124
    · obtain ⟨Y, y1, y2, y3⟩ := step38 (x := x) (Or.inr rfl) hS h (stl_124 hQ)
      rw [if_pos h]
      have hpN : p < N := cT_lt h (by decide)
      obtain ⟨b1, b2', b3⟩ := hT (p + 1)
      have ru := T_m hu hB (Q := 124 :: B) (Or.inr rfl) (by show 0 + opn B + k = 4; omega) y2
      cases e1 : (pT N tx u (p + 1)).1 with
      | true =>
        rw [if_pos rfl]
        obtain ⟨j, W, l, Y1, a1, a2, a3, a4, c2, a5, a6, a7⟩ := ru.1 e1
        have hW : W = P38 c2 (P124 true B) := a5
        subst hW
        have ri := ih (pT N tx u (p + 1)).2.1 _ c2 true Y1 a3 (by omega) a7
        refine Rm.pre (p' := (pT N tx u (p + 1)).2.1) (w' := 0) (j := j + 1) (l0 := (K1 c ++ K2 d) ++ l) (fun n => ?_) (by omega) (y3.app a4) (by rw [List.length_append, ← Nat.add_assoc]; exact ri) rfl rfl ?_
        · rw [← Nat.add_assoc, y1, a1]
        · intro W l' _ hV
          obtain ⟨c', d', v1, v2, v3⟩ := hV
          refine ⟨c', d', v1, ?_, v3⟩
          rw [List.append_assoc, List.append_assoc, v2, List.append_assoc, ← a6, List.append_assoc, List.append_assoc, List.append_assoc]
          rfl
      | false =>
        rw [if_neg (show ¬ false = true by decide)]
        refine Rm.pre (j := 1) y1 (by omega) y3 ru rfl rfl (fun W l t => ?_)
        rw [e1] at t
        cases t
    · rw [if_neg h]
      exact Rm.stay hS ⟨c, d, rfl, by show K1 c ++ K2 d = (K1 c ++ K2 d) ++ []; rw [List.append_nil], hn, h⟩
theorem E_m {b x k : Nat} {u : Nat → Rr} (hu : UM N tx b x k u) (hB : ∀ p, Bn N p (u p)) (hT : ∀ p, Bn N p (pT N tx u p)) {B : List Nat} (hQ : hd0 B) (ho : opn B + k = 4) {p e : Nat} {X : XD} (hS : Sm N tx b X p B e) : Rm N tx b x e p X 1 (pE N tx u p) (fun W' l => ∃ c' d', W' = P38 c' (P124 d' B) ∧ l ++ (K1 c' ++ K2 d') = (pE N tx u p).2.2 ∧ cT N tx (pE N tx u p).2.1 ≠ 38 ∧ cT N tx (pE N tx u p).2.1 ≠ 124) := by
  unfold pE pB
  have ru := T_m hu hB (hd0_s hQ).1 ho hS
  cases e1 : (pT N tx u p).1 with
  | true =>
    rw [if_pos rfl]
    obtain ⟨j, W, l, Y1, a1, a2, a3, a4, c2, a5, a6, a7⟩ := ru.1 e1
    have hW : W = P38 c2 (P124 false B) := a5
    subst hW
    refine Rm.pre (j := j) a1 a2 a4 (loopE_m hu hB hT hQ ho 101 (pT N tx u p).2.1 _ c2 false Y1 a3 (by omega) a7) rfl rfl ?_
    intro W l' _ hV
    obtain ⟨c', d', v1, v2, v3⟩ := hV
    refine ⟨c', d', v1, ?_, v3⟩
    rw [List.append_assoc, v2, ← a6, List.append_assoc, List.append_assoc]
    rfl
  | false =>
    rw [if_neg (show ¬ false = true by decide)]
    refine Rm.pre (j := 0) (l0 := []) (fun n => rfl) (by omega) (Pc.nil FrM.rfl) ru rfl rfl (fun W l t => ?_)
    rw [e1] at t
    cases t
/-- an operand goes as the grammar -/
theorem unit_m {b x : Nat} (hx : x < 60) : ∀ (k : Nat), k ≤ 4 → UM N tx b x k (pU N tx k) := by
  have test : ∀ (k p e : Nat) (W : List Nat) (X : XD), Sm N tx b X p W e → cT N tx p ≠ 33 → cT N tx p ≠ 40 → Rm N tx b x e p X 1 (pTest N tx p) (fun W' l => W' = strip W ∧ l = (pTest N tx p).2.2 ++ List.replicate (nb W) (.inl 0)) := by
    intro k p e W X hS h1 h2
    obtain ⟨Y, y1, y2, y3, y4⟩ := test_m (x := x) hS
    have hl := hS.1.le p
    have step : ∀ n, LE (n + 1) (Int32.ofNat x) 1 X = if b2 (pTest N tx p).1 = 0 then some (0, Y) else LE n (Int32.ofNat x) 0 Y := by
      intro n
      rw [LE_1 hS]
      show (if (1 : Int32) = 0 then _ else if cI (cT N tx p) = 33 then _ else if cI (cT N tx p) = 40 then _ else _) = _
      rw [if_neg (show ¬ (1 : Int32) = 0 by decide), if_neg (show ¬ cI (cT N tx p) = 33 from fun q => h1 ((cI_eq (k := 33) hl (by decide)).mp q)), if_neg (show ¬ cI (cT N tx p) = 40 from fun q => h2 ((cI_eq (k := 40) hl (by decide)).mp q)), y1, bnw_some]
    refine ⟨fun t => ?_, fun t => ?_⟩
    · obtain ⟨z1, z2, z3⟩ := y4 t
      refine ⟨1, strip W, _, Y, fun n => ?_, by omega, ?_, z3, rfl, rfl⟩
      · rw [step, t, b2_t, if_neg (show ¬ (1 : Int32) = 0 by decide)]
      · rw [List.length_append, List.length_replicate, ← Nat.add_assoc]
        exact z2
    · refine ⟨1, Y, fun n => ?_, ?_, y2, y3⟩
      · rw [step, t, b2_f, if_pos rfl]
      · have := (test_b (N := N) (tx := tx) p).1.1
        omega
  have opens : ∀ (p e s : Nat) (W : List Nat) (X : XD), Sm N tx b X p W e → cT N tx p = s → (s = 33 ∨ s = 40) → opn W < 4 → ∃ Y, (∀ n, LE (n + 1) (Int32.ofNat x) 1 X = LE n (Int32.ofNat x) 1 Y) ∧ Sm N tx b Y (p + 1) (s :: W) e ∧ FrM x e X Y := by
    intro p e s W X hS hc hs ho
    obtain ⟨Y, y1, y2, y3⟩ := open_m (x := x) hS (cT_lt hc (by omega)) hs ho
    refine ⟨Y, fun n => ?_, y2, y3⟩
    rw [LE_1 hS, hc, show cI s = Int32.ofNat s from if_neg (by omega)]
    show (if (1 : Int32) = 0 then _ else _) = _
    rw [if_neg (show ¬ (1 : Int32) = 0 by decide)]
    rcases hs with rfl | rfl
    · rw [if_pos (show Int32.ofNat 33 = 33 by decide)]
      exact y1 _ _
    · rw [if_neg (show ¬ Int32.ofNat 40 = 33 by decide), if_pos (show Int32.ofNat 40 = 40 by decide)]
      exact y1 _ _
  intro k
  induction k with
  | zero =>
    intro _ p e W X hS ho
    show Rm N tx b x e p X 1 (pTest N tx p) (fun W' l => W' = strip W ∧ l = (pTest N tx p).2.2 ++ List.replicate (nb W) (.inl 0))
    by_cases h : cT N tx p = 33 ∨ cT N tx p = 40
    · have e0 : pTest N tx p = (false, p, []) := by
        unfold pTest
        rcases h with h | h
        · rw [h]; rfl
        · rw [h]; rfl
      rw [e0]
      refine ⟨fun t => (by cases t), fun _ => ⟨1, X, fun n => ?_, by dsimp only; omega, hS.2.2.2.2.2.2.1, FrM.rfl⟩⟩
      have h24 : X.1 0 24 = Int32.ofNat (opn W) := hS.2.2.2.2.2.2.2.2.2.1
      have h4 : X.1 0 24 = 4 := by rw [h24, show opn W = 4 by omega]; rfl
      rw [LE_1 hS]
      show (if (1 : Int32) = 0 then _ else _) = _
      rw [if_neg (show ¬ (1 : Int32) = 0 by decide)]
      unfold fX12_takesE_43
      rcases h with h | h
      · rw [h, if_pos (show cI 33 = 33 by decide), if_pos h4]
      · rw [h, if_neg (show ¬ cI 40 = 33 by decide), if_pos (show cI 40 = 40 by decide), if_pos h4]
    · exact test 0 p e W X hS (fun q => h (Or.inl q)) (fun q => h (Or.inr q))
  | succ k ih =>
    intro hk p e W X hS ho
    have ih := ih (by omega)
    unfold pU
    by_cases c1 : cT N tx p = 33
    · obtain ⟨Y, y1, y2, y3⟩ := opens p e 33 W X hS c1 (Or.inl rfl) (by omega)
      have ru := ih (p + 1) e (33 :: W) Y y2 (by show 1 + opn W + k = 4; omega)
      rw [if_pos c1]
      cases e1 : (pU N tx k (p + 1)).1 with
      | true =>
        rw [if_pos rfl]
        refine Rm.pre (j := 1) (l0 := []) y1 (by omega) (Pc.nil y3) ru e1.symm rfl (fun W' l _ hV => ?_)
        refine ⟨hV.1, ?_⟩
        show l = ((pU N tx k (p + 1)).2.2 ++ [.inl 0]) ++ List.replicate (nb W) (.inl 0)
        rw [hV.2, List.append_assoc]
        rfl
      | false =>
        rw [if_neg (show ¬ false = true by decide)]
        refine Rm.pre (j := 1) (l0 := []) y1 (by omega) (Pc.nil y3) ru rfl rfl (fun W' l t => ?_)
        rw [e1] at t
        cases t
    · rw [if_neg c1]
      by_cases c2 : cT N tx p = 40
      · obtain ⟨Y, y1, y2, y3⟩ := opens p e 40 W X hS c2 (Or.inr rfl) (by omega)
        rw [if_pos c2]
        have bU : ∀ q, Bn N q (pU N tx k q) := fun q => (pU_b k (by omega) q).1
        have bT : ∀ q, Bn N q (pT N tx (pU N tx k) q) := fun q => (pB_b (a := 0) (by decide) (by decide) (fun q => ⟨(pU_b (N := N) (tx := tx) k (by omega) q).1, (pU_b (N := N) (tx := tx) k (by omega) q).2.mono (by omega)⟩) q).1
        have ru := E_m ih bU bT (B := 40 :: W) rfl (by show 1 + opn W + k = 4; omega) y2
        cases e1 : (pE N tx (pU N tx k) (p + 1)).1 with
        | true =>
          rw [if_pos rfl]
          obtain ⟨j, W1, l, Y1, a1, a2, a3, a4, c', d', a5, a6, a7, a8⟩ := ru.1 e1
          subst a5
          generalize (pE N tx (pU N tx k) (p + 1)).2.1 = q at *
          generalize (pE N tx (pU N tx k) (p + 1)).2.2 = L at *
          have hN := a3.1.1
          have hqN := a3.2.1
          have hlq := a3.1.le q
          obtain ⟨Y2, b1, b2', b3⟩ := settle_m (x := x) (v := 124) (by decide) (P38 c' (P124 d' (40 :: W))) FU q _ Y1 (FU_gt (by have := a3.2.2.2.2.1; omega)) a3
          have hq0 : hd0 (40 :: W) := rfl
          rw [stl_124 hq0] at b2' b3
          dsimp only at b2' b3
          have g23 : (wI Y2 12 x (Y2.1 0 22)).1 0 23 = Int32.ofNat (W.length + 1) := by rw [wI_c (by decide)]; exact b2'.2.2.2.2.2.2.2.1
          have s40 : ∀ n, LE (n + 1) (Int32.ofNat x) 0 Y1 = if cI (cT N tx q) = 41 then nm (wI (wI Y2 12 x (Y2.1 0 22)) 0 23 (((wI Y2 12 x (Y2.1 0 22)).1 0 23) - ((1 : Int32)))) (fun X_10 => nm (wI X_10 0 24 ((X_10.1 0 24) - ((1 : Int32)))) (fun X_11 => nm (wI X_11 0 12 ((X_11.1 0 12) + ((1 : Int32)))) (fun X_12 => bnw (fX12_whole X_12) (fun _ X_15 => LE n (Int32.ofNat x) 0 X_15)))) else some (0, wI Y2 12 x (Y2.1 0 22)) := by
            intro n
            rw [LE_1 a3]
            show (if (0 : Int32) = 0 then if cI (cT N tx q) = 38 then _ else if cI (cT N tx q) = 124 then _ else _ else _) = _
            rw [if_pos rfl, if_neg (show ¬ cI (cT N tx q) = 38 from fun z => a7 ((cI_eq (k := 38) hlq (by decide)).mp z)), if_neg (show ¬ cI (cT N tx q) = 124 from fun z => a8 ((cI_eq (k := 124) hlq (by decide)).mp z))]
            unfold fX12_settle
            rw [show (124 : Int32) = Int32.ofNat 124 from rfl, b1, bnw_some, gin_o hx (by omega), i32n (by omega), nm_eq, if_neg (show ¬ (wI Y2 12 x (Y2.1 0 22)).1 0 23 = 0 from fun z => by rw [g23] at z; have := (o_eq (b := 0) (by have := b2'.2.2.2.2.1; rw [List.length_cons] at this; omega) (by omega)).mp z; omega)]
          have hb3 : Pc x e X (wI Y2 12 x (Y2.1 0 22)) L := by
            have := ((Pc.fr1 y3 a4).app b3).fr (FrM.w12 (v := Y2.1 0 22))
            rwa [a6] at this
          have hlen : e + l.length + (K1 c' ++ K2 d').length = e + L.length := by rw [← a6, List.length_append (as := l)]; omega
          rw [hlen] at b2'
          obtain ⟨s1, s2, s3, s4, s5, s6, s7, s8, s9, s10, s11⟩ := id b2'
          by_cases c3 : cT N tx q = 41
          · have hqN' : q < N := cT_lt c3 (by decide)
            rw [if_pos c3]
            generalize eV : wI (wI (wI (wI Y2 12 x (Y2.1 0 22)) 0 23 (Int32.ofNat W.length)) 0 24 (Int32.ofNat (opn W))) 0 12 (Int32.ofNat (q + 1)) = V
            have pV : Pc x e X V L := by
              subst eV
              exact ((hb3.fr (FrM.w0 (by omega))).fr (FrM.w0 (by omega))).fr (FrM.w0 (by omega))
            have sV : Sm N tx b V (q + 1) W (e + L.length) := by
              rw [List.length_cons] at s5
              have ep : pnd (40 :: W) = 0 + pnd W := rfl
              refine ⟨pV.1.TM hS.1, by omega, s3, by omega, by omega, fun z hz => s6 z (List.mem_cons_of_mem _ hz), ?_, ?_, stk_eq (fun k _ => ?_) s9.2, ?_, ?_⟩
              · subst eV; exact wI_s
              · subst eV; rw [wI_k (by decide), wI_k (by decide), wI_s]
              · subst eV; rw [wI_c (by decide), wI_c (by decide), wI_c (by decide), wI_c (by decide)]
              · subst eV; rw [wI_k (by decide), wI_s]
              · subst eV; rw [wI_k (by decide), wI_k (by decide), wI_k (by decide), wI_c (by decide)]; exact s11
            obtain ⟨V2, v1, v2, v3⟩ := whole_m (x := x) W FU (q + 1) _ V (FU_gt (by have := sV.2.2.2.2.1; omega)) sV
            refine ⟨fun _ => ⟨1 + j + 1, strip W, L ++ List.replicate (nb W) (.inl 0), V2, fun n => ?_, by dsimp only; omega, ?_, pV.app v3, rfl, rfl⟩, fun t => by cases t⟩
            · rw [show n + (1 + j + 1) = n + 1 + j + 1 by omega, y1, a1, s40, c3, if_pos (show cI 41 = 41 by decide), nm_eq, nm_eq, nm_eq]
              have e10 : (wI Y2 12 x (Y2.1 0 22)).1 0 23 - 1 = Int32.ofNat W.length := by rw [g23]; exact o_sub (b := 1) (by omega)
              rw [e10]
              have e11 : (wI (wI Y2 12 x (Y2.1 0 22)) 0 23 (Int32.ofNat W.length)).1 0 24 - 1 = Int32.ofNat (opn W) := by
                rw [wI_k (by decide), wI_c (by decide), s10, show opn (40 :: W) = 1 + opn W from rfl]
                exact (o_sub (b := 1) (by omega)).trans (by rw [Nat.add_sub_cancel_left])
              rw [e11]
              have e12 : (wI (wI (wI Y2 12 x (Y2.1 0 22)) 0 23 (Int32.ofNat W.length)) 0 24 (Int32.ofNat (opn W))).1 0 12 + 1 = Int32.ofNat (q + 1) := by
                rw [wI_k (by decide), wI_k (by decide), wI_c (by decide), s7, i1]
              rw [e12, eV]
              unfold fX12_whole
              rw [v1, bnw_some]
            · rw [List.length_append, List.length_replicate, ← Nat.add_assoc]
              exact v2
          · rw [if_neg c3]
            refine ⟨fun t => (by cases t), fun _ => ⟨1 + j + 1, wI Y2 12 x (Y2.1 0 22), fun n => ?_, by dsimp only; omega, ?_, hb3.1⟩⟩
            · rw [show n + (1 + j + 1) = n + 1 + j + 1 by omega, y1, a1, s40, if_neg (show ¬ cI (cT N tx q) = 41 from fun z => c3 ((cI_eq (k := 41) hlq (by decide)).mp z))]
            · rw [wI_c (by decide)]; exact s7
        | false =>
          rw [if_neg (show ¬ false = true by decide)]
          refine Rm.pre (j := 1) (l0 := []) y1 (by omega) (Pc.nil y3) ru rfl rfl (fun W' l t => ?_)
          rw [e1] at t
          cases t
      · rw [if_neg c2]
        exact test k p e W X hS c1 c2
end
