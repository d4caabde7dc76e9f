set_option maxHeartbeats 40000000
set_option maxRecDepth 100000
/-! the class's parser: clauses and texts -/
section
variable {Z : XS} {N : Nat} {tx : Nat → Nat}
theorem word_c {X : XD} (hT : TC Z X N tx) {g p : Nat} (hp : X.1 g 7 = Int32.ofNat p) (hb : p ≤ 100) : fX1_word Z g 45 X = some (if alk N tx (wd (pk N tx p)) p = (wd (pk N tx p)).length then (Int32.ofNat (pk N tx p), mv X g (p + (wd (pk N tx p)).length)) else ((-1 : Int32), mv X g (p + alk N tx (wd (pk N tx p)) p))) := by
  unfold fX1_word
  have := word_lp hT hp hb 5 FU 0 0 (by decide) (FU_gt (by decide)) (by decide)
  rw [wlk_pk] at this
  refine Eq.trans this ?_
  by_cases c : alk N tx (wd (pk N tx p)) p = (wd (pk N tx p)).length
  · rw [if_pos c, if_pos c]
  · rw [if_neg c, if_neg c]
def FrK (g c : Nat) (X Y : XD) : Prop := Y.2 = X.2 ∧ ∀ i k, i ≠ g + 5 → ¬ (i = g ∧ (k = 6 ∨ k = 7)) → ¬ (g + 1 ≤ i ∧ i ≤ g + 4 ∧ k = c) → Y.1 i k = X.1 i k
def Kgc (g c s : Nat) (X Y : XD) (R : Bool × Nat × Cl) : Prop := FrK g c X Y ∧ Y.1 g 7 = Int32.ofNat R.2.1 ∧ (∀ k, k < s → Y.1 (g + 5) k = X.1 (g + 5) k) ∧ (R.1 = true → Y.1 g 6 = Int32.ofNat (s + R.2.2.2.2.length) ∧ Y.1 (g + 1) c = Int32.ofNat R.2.2.1 ∧ Y.1 (g + 2) c = Int32.ofNat R.2.2.2.1 ∧ Y.1 (g + 3) c = Int32.ofNat s ∧ Y.1 (g + 4) c = Int32.ofNat (s + R.2.2.2.2.length) ∧ CCl Y g s R.2.2.2.2)
theorem Kgc.mv {g c s p : Nat} {X Y : XD} {R : Bool × Nat × Cl} (h : Kgc g c s (mv X g p) Y R) : Kgc g c s X Y R := ⟨⟨h.1.1.trans mv_f.1, fun i k a b d => (h.1.2 i k a b d).trans (mv_f.2 i k a b)⟩, h.2.1, fun k hk => by rw [h.2.2.1 k hk, mv_5], h.2.2.2⟩
theorem Kgc.fail {g c s p : Nat} {X : XD} (h : X.1 g 7 = Int32.ofNat p) {q : Cl} : Kgc g c s X X (false, p, q) := ⟨⟨rfl, fun _ _ _ _ _ => rfl⟩, h, fun _ _ => rfl, fun q => by cases q⟩
theorem FrC.K {g c : Nat} {X Y : XD} (h : FrC g X Y) : FrK g c X Y := ⟨h.1, fun i k a b _ => h.2 i k a b⟩
theorem cl59_c {X : XD} {g c k v s p : Nat} (hg : g ≤ 38) (hc : c < 10) (hv : v ≤ 99) (hT : TC Z X N tx) (h6 : X.1 g 6 = Int32.ofNat s) (h7 : X.1 g 7 = Int32.ofNat p) (hs : s ≤ p) (hp : p ≤ N) : ∃ Y, fX1_clause_59 Z g 45 (Int32.ofNat c) (Int32.ofNat k) (Int32.ofNat v) X = some (if cT N tx p = 32 then b2 (pEx N tx k v (p + 1)).1 else 0, Y) ∧ Kgc g c s X Y (if cT N tx p = 32 then pEx N tx k v (p + 1) else (false, p, (0, 0, []))) := by
  have hN := hT.2.1
  unfold fX1_clause_59
  rw [if_neg (fun q => ng1_ne (by omega) q.symm), show (32 : Int32) = Int32.ofNat 32 from rfl, skip_c hT h7 (by omega) (by decide)]
  by_cases c1 : cT N tx p = 32
  · have hpN : p < N := cT_lt c1 (by decide)
    rw [if_pos c1, if_pos c1, if_pos c1, bnw_some, if_neg (show ¬ (1 : Int32) = 0 by decide), gin_o (by omega) (by omega), i32n (by omega), nm_eq, gin_o (by omega) (by omega), nm_eq, gin_o (by omega) (by omega), nm_eq]
    have e6 : (wI (wI (mv X g (p + 1)) (g + 1) c (Int32.ofNat k)) (g + 2) c (Int32.ofNat v)).1 g 6 = Int32.ofNat s := by
      rw [wI_c (by omega), wI_c (by omega), mv_6, h6]
    rw [e6]
    generalize eW : wI (wI (wI (mv X g (p + 1)) (g + 1) c (Int32.ofNat k)) (g + 2) c (Int32.ofNat v)) (g + 3) c (Int32.ofNat s) = W
    have fW : FrK g c X W := by
      subst eW
      refine ⟨rfl, fun i q a b d => ?_⟩
      have e1 : ∀ (V : XD) (r : Nat) (x : Int32), 1 ≤ r → r ≤ 4 → (wI V (g + r) c x).1 i q = V.1 i q := by
        intro V r x r1 r2
        by_cases z : i = g + r
        · rw [wI_k (by omega)]
        · rw [wI_c z]
      rw [e1 _ 3 _ (by decide) (by decide), e1 _ 2 _ (by decide) (by decide), e1 _ 1 _ (by decide) (by decide)]
      exact mv_f.2 i q a b
    have tW : TC Z W N tx := by
      obtain ⟨h1, h2, h3, h4⟩ := hT
      refine ⟨h1, h2, ?_, fun j hj => ⟨(h4 j hj).1, ?_⟩⟩
      · rw [fW.2 45 1 (by omega) (by omega) (by omega)]; exact h3
      · rw [fW.2 46 j (by omega) (by omega) (by omega)]; exact (h4 j hj).2
    have w6 : W.1 g 6 = Int32.ofNat s := by
      subst eW
      rw [wI_c (by omega)]
      exact e6
    have w7 : W.1 g 7 = Int32.ofNat (p + 1) := by
      subst eW
      rw [wI_c (by omega), wI_c (by omega), wI_c (by omega), mv_7]
    have w1 : W.1 (g + 1) c = Int32.ofNat k := by
      subst eW
      rw [wI_c (by omega), wI_c (by omega), wI_s]
    have w2 : W.1 (g + 2) c = Int32.ofNat v := by
      subst eW
      rw [wI_c (by omega), wI_s]
    have w3 : W.1 (g + 3) c = Int32.ofNat s := by
      subst eW
      rw [wI_s]
    have w5 : W.1 (g + 5) = X.1 (g + 5) := by
      subst eW
      rw [wI_c (by omega), wI_c (by omega), wI_c (by omega), mv_5]
    obtain ⟨Y, y1, y2, y3, y4, y5⟩ := expr_c (Z := Z) (N := N) (tx := tx) hg W s (p + 1) tW w6 w7 (by omega) (by omega)
    rw [y1, bnw_some, gin_o (by omega) (by omega), nm_eq, gb_b2]
    refine ⟨wI Y (g + 4) c (Y.1 g 6), rfl, ⟨y2.1.trans fW.1, fun i q a b d => ?_⟩, ?_, fun q hq => ?_, fun ht => ?_⟩
    · rw [← fW.2 i q a b d, ← y2.2 i q a b]
      by_cases z : i = g + 4
      · rw [wI_k (by omega)]
      · rw [wI_c z]
    · rw [wI_c (by omega)]; exact y3
    · rw [wI_c (by omega), y4 q hq, w5]
    · obtain ⟨z1, z2⟩ := y5 ht
      refine ⟨?_, ?_, ?_, ?_, ?_, ?_⟩
      · rw [wI_c (by omega)]; exact z1
      · rw [wI_c (by omega), y2.2 _ _ (by omega) (by omega), w1]; rfl
      · rw [wI_c (by omega), y2.2 _ _ (by omega) (by omega), w2]; rfl
      · rw [wI_c (by omega), y2.2 _ _ (by omega) (by omega), w3]
      · rw [wI_s]; exact z1
      · exact z2.eq (wI_c (by omega))
  · rw [if_neg c1, if_neg c1, if_neg c1, bnw_some, if_pos rfl]
    exact ⟨X, rfl, Kgc.fail h7⟩
theorem clause_c {X : XD} {g c s p : Nat} (hg : g ≤ 38) (hc : c < 10) (hT : TC Z X N tx) (h6 : X.1 g 6 = Int32.ofNat s) (h7 : X.1 g 7 = Int32.ofNat p) (hs : s ≤ p) (hp : p ≤ N) : ∃ Y, fX1_clause Z g 45 (Int32.ofNat c) X = some (b2 (pCl N tx p).1, Y) ∧ Kgc g c s X Y (pCl N tx p) := by
  have hN := hT.2.1
  have hk := pk_b (N := N) (tx := tx) (p := p)
  obtain ⟨w1, w2⟩ := wd_b _ hk
  obtain ⟨a1, a2⟩ := alk_b (N := N) (tx := tx) w1 (p := p)
  have a2 := a2 hp
  unfold fX1_clause pCl pHd
  rw [word_c hT h7 (by omega)]
  generalize pk N tx p = k at *
  generalize (wd k).length = L at *
  generalize alk N tx (wd k) p = A at *
  by_cases c1 : A = L
  · rw [if_pos c1, if_pos c1, bnw_some, if_neg (fun q => ng1_ne (by omega) q.symm), if_neg (o_ge0 (by omega)), if_pos (show Int32.ofNat c < 10 from (o_lt (b := 10) (by omega) (by omega)).mpr hc)]
    have t1 : TC Z (mv X g (p + L)) N tx := mv_f.TC hg hT
    have two : k ≤ 1 → (if Int32.ofNat k = 0 then fX1_clause_38 Z g 45 (Int32.ofNat c) (Int32.ofNat k) (mv X g (p + L)) else if Int32.ofNat k = 1 then fX1_clause_38 Z g 45 (Int32.ofNat c) (Int32.ofNat k) (mv X g (p + L)) else fX1_clause_59 Z g 45 (Int32.ofNat c) (Int32.ofNat k) 0 (mv X g (p + L))) = fX1_clause_38 Z g 45 (Int32.ofNat c) (Int32.ofNat k) (mv X g (p + L)) := by
      intro h
      by_cases q : k = 0
      · rw [if_pos (show Int32.ofNat k = 0 by rw [q]; rfl)]
      · rw [if_neg (show ¬ Int32.ofNat k = 0 from fun z => q ((o_eq (b := 0) (by omega) (by omega)).mp z)), if_pos (show Int32.ofNat k = 1 by rw [show k = 1 by omega]; rfl)]
    by_cases k1 : k ≤ 1
    · rw [two k1]
      unfold fX1_clause_38
      rw [show (32 : Int32) = Int32.ofNat 32 from rfl, skip_c t1 mv_7 (by omega) (by decide)]
      by_cases c2 : cT N tx (p + L) = 32
      · have hpL := cT_lt c2 (by decide)
        rw [if_pos c2, if_pos c2, bnw_some, if_neg (show ¬ (1 : Int32) = 0 by decide)]
        dsimp only
        rw [if_pos k1]
        have t2 : TC Z (mv (mv X g (p + L)) g (p + L + 1)) N tx := mv_f.TC hg t1
        rw [number_c t2 hg mv_7 (by omega)]
        cases en : pNum N tx (p + L + 1) with
        | none =>
          dsimp only
          rw [bnw_some]
          unfold fX1_clause_57 fX1_clause_59
          rw [if_pos rfl]
          exact ⟨_, rfl, Kgc.mv (Kgc.mv (Kgc.fail mv_7))⟩
        | some z =>
          obtain ⟨z1, z2, z3⟩ := pNum_b en
          dsimp only
          rw [bnw_some]
          unfold fX1_clause_57
          have t3 : TC Z (mv (mv (mv X g (p + L)) g (p + L + 1)) g z.1) N tx := mv_f.TC hg t2
          obtain ⟨Y, y1, y2⟩ := cl59_c (k := k) (v := z.2) (s := s) hg hc z3 t3 (mv_6.trans (mv_6.trans (mv_6.trans h6))) mv_7 (by omega) z2
          have y3 := Kgc.mv (p := p + L) (Kgc.mv (p := p + L + 1) (Kgc.mv (p := z.1) y2))
          rw [y1]
          by_cases c3 : cT N tx z.1 = 32
          · rw [if_pos c3] at y3 ⊢
            rw [if_pos c3]
            exact ⟨Y, rfl, y3⟩
          · rw [if_neg c3] at y3 ⊢
            rw [if_neg c3]
            exact ⟨Y, rfl, y3⟩
      · rw [if_neg c2, if_neg c2, bnw_some, if_pos rfl]
        unfold fX1_clause_57 fX1_clause_59
        rw [if_pos rfl]
        exact ⟨_, rfl, Kgc.mv (Kgc.fail mv_7)⟩
    · rw [if_neg (show ¬ Int32.ofNat k = 0 from fun z => k1 (by have := (o_eq (b := 0) (by omega) (by omega)).mp z; omega)), if_neg (show ¬ Int32.ofNat k = 1 from fun z => k1 (by have := (o_eq (b := 1) (by omega) (by omega)).mp z; omega))]
      obtain ⟨Y, y1, y2⟩ := cl59_c (k := k) (v := 0) (s := s) hg hc (by decide) t1 (mv_6.trans h6) mv_7 (by omega) (by omega)
      have y3 := Kgc.mv (p := p + L) y2
      rw [show (0 : Int32) = Int32.ofNat 0 from rfl, y1]
      by_cases c2 : cT N tx (p + L) = 32
      · rw [if_pos c2] at y3 ⊢
        rw [if_pos c2]
        dsimp only
        rw [if_neg k1]
        exact ⟨Y, rfl, y3⟩
      · rw [if_neg c2] at y3 ⊢
        rw [if_neg c2]
        exact ⟨Y, rfl, y3⟩
  · rw [if_neg c1, if_neg c1, bnw_some, if_pos rfl]
    exact ⟨_, rfl, Kgc.mv (Kgc.fail mv_7)⟩
def FrT (g c : Nat) (X Y : XD) : Prop := Y.2 = X.2 ∧ ∀ i k, i ≠ g + 5 → ¬ (i = g ∧ (k = 4 ∨ k = 6 ∨ k = 7)) → ¬ (g + 1 ≤ i ∧ i ≤ g + 4 ∧ c ≤ k) → Y.1 i k = X.1 i k
theorem FrK.T {g c : Nat} {X Y : XD} (h : FrK g c X Y) : FrT g c X Y := ⟨h.1, fun i k a b d => h.2 i k a (by omega) (by omega)⟩
theorem FrT.trans {g c d : Nat} {X Y W : XD} (h : FrT g c X Y) (h2 : FrT g d Y W) (hcd : c ≤ d) : FrT g c X W := ⟨h2.1.trans h.1, fun i k a b e => (h2.2 i k a b (by omega)).trans (h.2 i k a b e)⟩
theorem FrT.TC {g c : Nat} {X Y : XD} (f : FrT g c X Y) (hg : g ≤ 38) (h : TC Z X N tx) : TC Z Y N tx := by
  obtain ⟨h1, h2, h3, h4⟩ := h
  refine ⟨h1, h2, ?_, fun j hj => ⟨(h4 j hj).1, ?_⟩⟩
  · rw [f.2 45 1 (by omega) (by omega) (by omega)]; exact h3
  · rw [f.2 46 j (by omega) (by omega) (by omega)]; exact (h4 j hj).2
theorem text_lp {g : Nat} (hg : g ≤ 38) : ∀ (d n c s p : Nat) (X : XD), c + d = 10 → d < n → TC Z X N tx → X.1 g 6 = Int32.ofNat s → X.1 g 7 = Int32.ofNat p → s ≤ p → p ≤ N → ∃ Y, fX1_parse_17 Z g 45 n (Int32.ofNat c) X = some (if (pTx N tx d p).1 = true then -1 else Int32.ofNat (pTx N tx d p).2.1, Y) ∧ FrT g c X Y ∧ (∀ k, k < s → Y.1 (g + 5) k = X.1 (g + 5) k) ∧ ((pTx N tx d p).1 = true → Y.1 g 4 = Int32.ofNat (c + (pTx N tx d p).2.2.length) ∧ GCl Y g c (pTx N tx d p).2.2) := by
  intro d
  induction d with
  | zero =>
    intro n c s p X hc hn hT h6 h7 hs hp
    obtain ⟨n, rfl⟩ : ∃ q, n = q + 1 := ⟨n - 1, by omega⟩
    rw [fX1_parse_17_s, if_pos (show (10 : Int32) ≤ Int32.ofNat c from (o_le (a := 10) (by omega) (by omega)).mpr (by omega)), h7]
    exact ⟨X, rfl, ⟨rfl, fun _ _ _ _ _ => rfl⟩, fun _ _ => rfl, fun h => by cases h⟩
  | succ d ih =>
    intro n c s p X hc hn hT h6 h7 hs hp
    have hN := hT.2.1
    obtain ⟨n, rfl⟩ : ∃ q, n = q + 1 := ⟨n - 1, by omega⟩
    obtain ⟨b1, b2', b3⟩ := pCl_b (tx := tx) hN hp
    obtain ⟨Y, y1, y2, y3, y4, y5⟩ := clause_c hg (show c < 10 by omega) hT h6 h7 hs hp
    rw [fX1_parse_17_s, if_neg (show ¬ (10 : Int32) ≤ Int32.ofNat c from fun q => by have := (o_le (a := 10) (by omega) (by omega)).mp q; omega), y1, bnw_some]
    unfold pTx
    cases e : (pCl N tx p).1 with
    | false =>
      rw [if_neg (show ¬ false = true by decide), b2_f, if_pos rfl, y3, if_neg (show ¬ false = true by decide)]
      exact ⟨Y, rfl, y2.T, y4, fun h => by cases h⟩
    | true =>
      obtain ⟨o1, o2⟩ := b3 e
      obtain ⟨z6, z1, z2, z3, z4, z5⟩ := y5 e
      rw [if_pos rfl, b2_t, if_neg (show ¬ (1 : Int32) = 0 by decide), nm_eq]
      have e1 : Int32.ofNat c + 1 = Int32.ofNat (c + 1) := by
        show Int32.ofNat c + Int32.ofNat 1 = _
        rw [o_add]
      rw [e1]
      generalize eW : wI Y g 4 (Int32.ofNat (c + 1)) = W
      have fW : FrT g c X W := by
        subst eW
        refine ⟨y2.1, fun i k a b q => ?_⟩
        by_cases z : i = g
        · rw [wI_k (by omega)]
          exact y2.2 i k a (by omega) (by omega)
        · rw [wI_c z]
          exact y2.2 i k a (by omega) (by omega)
      have wk : ∀ i, i ≠ g → W.1 i = Y.1 i := fun i hi => by subst eW; exact wI_c hi
      have w7 : W.1 g 7 = Int32.ofNat (pCl N tx p).2.1 := by subst eW; rw [wI_k (by decide)]; exact y3
      have w6 : W.1 g 6 = Int32.ofNat (s + (pCl N tx p).2.2.2.2.length) := by subst eW; rw [wI_k (by decide)]; exact z6
      have w4 : W.1 g 4 = Int32.ofNat (c + 1) := by subst eW; exact wI_s
      have tW : TC Z W N tx := fW.TC hg hT
      have one : ∀ (V : XD), FrT g (c + 1) W V → (∀ k, k < s + (pCl N tx p).2.2.2.2.length → V.1 (g + 5) k = W.1 (g + 5) k) → GC1 V g c (pCl N tx p).2.2 := by
        intro V f1 f2
        refine ⟨?_, ?_, s, ?_, ?_, by omega, ?_⟩
        · rw [f1.2 _ _ (by omega) (by omega) (by omega), wk _ (by omega)]; exact z1
        · rw [f1.2 _ _ (by omega) (by omega) (by omega), wk _ (by omega)]; exact z2
        · rw [f1.2 _ _ (by omega) (by omega) (by omega), wk _ (by omega)]; exact z3
        · rw [f1.2 _ _ (by omega) (by omega) (by omega), wk _ (by omega)]; exact z4
        · exact CCl_k (fun k k1 k2 => by rw [f2 k k2, wk _ (by omega)]) z5
      rw [w7, tW.2.2.1]
      by_cases c2 : (pCl N tx p).2.1 < N
      · rw [if_pos c2, if_pos ((o_lt (by omega) (by omega)).mpr c2), tW.at (by omega), bnd_some]
        by_cases c3 : cT N tx (pCl N tx p).2.1 = 59
        · rw [if_pos (show cI _ = 59 from (cI_eq (k := 59) (hT.le _) (by decide)).mpr c3)]
          by_cases c4 : d = 0
          · subst c4
            rw [if_pos (show (9 : Int32) ≤ Int32.ofNat c from (o_le (a := 9) (by omega) (by omega)).mpr (by omega)), if_neg (show ¬ (cT N tx (pCl N tx p).2.1 = 59 ∧ 0 ≠ 0) from fun q => q.2 rfl)]
            unfold fX1_parse_91
            rw [nm_eq, e1]
            obtain ⟨V, v1, v2, v3, v4⟩ := ih n (c + 1) (s + (pCl N tx p).2.2.2.2.length) (pCl N tx p).2.1 W (by omega) (by omega) tW w6 w7 (by omega) b1
            refine ⟨V, v1, fW.trans v2 (by omega), fun k hk => ?_, fun h => by cases h⟩
            rw [v3 k (by omega), wk _ (by omega), y4 k hk]
          · rw [if_neg (show ¬ (9 : Int32) ≤ Int32.ofNat c from fun q => by have := (o_le (a := 9) (by omega) (by omega)).mp q; omega), if_pos (show cT N tx (pCl N tx p).2.1 = 59 ∧ d ≠ 0 from ⟨c3, c4⟩), nm_eq]
            unfold fX1_parse_91
            rw [nm_eq, e1]
            have e2 : Int32.ofNat (pCl N tx p).2.1 + 1 = Int32.ofNat ((pCl N tx p).2.1 + 1) := by
              show Int32.ofNat (pCl N tx p).2.1 + Int32.ofNat 1 = _
              rw [o_add]
            rw [e2]
            show ∃ V, fX1_parse_17 Z g 45 n (Int32.ofNat (c + 1)) (mv W g ((pCl N tx p).2.1 + 1)) = _ ∧ _
            have fM : FrT g (c + 1) W (mv W g ((pCl N tx p).2.1 + 1)) := mv_f.K.T
            obtain ⟨V, v1, v2, v3, v4⟩ := ih n (c + 1) (s + (pCl N tx p).2.2.2.2.length) ((pCl N tx p).2.1 + 1) (mv W g ((pCl N tx p).2.1 + 1)) (by omega) (by omega) (mv_f.TC hg tW) (mv_6.trans w6) mv_7 (by omega) (by omega)
            have fV : FrT g (c + 1) W V := fM.trans v2 (Nat.le_refl _)
            refine ⟨V, v1, fW.trans fV (by omega), fun k hk => ?_, fun h => ?_⟩
            · rw [v3 k (by omega), mv_5, wk _ (by omega), y4 k hk]
            · obtain ⟨q1, q2⟩ := v4 h
              refine ⟨?_, one V fV (fun k hk => by rw [v3 k hk, mv_5]), q2⟩
              rw [q1]
              show _ = Int32.ofNat (c + (_ :: _ : List Cl).length)
              rw [List.length_cons]
              congr 1
              omega
        · rw [if_neg (show ¬ cI _ = 59 from fun q => c3 ((cI_eq (k := 59) (hT.le _) (by decide)).mp q)), if_neg (show ¬ (cT N tx (pCl N tx p).2.1 = 59 ∧ d ≠ 0) from fun q => c3 q.1)]
          exact ⟨W, rfl, fW, fun k hk => by rw [wk _ (by omega), y4 k hk], fun h => by cases h⟩
      · rw [if_neg c2, if_neg (fun q => c2 ((o_lt (by omega) (by omega)).mp q))]
        refine ⟨W, rfl, fW, fun k hk => by rw [wk _ (by omega), y4 k hk], fun _ => ⟨w4, one W ⟨rfl, fun _ _ _ _ _ => rfl⟩ (fun _ _ => rfl), trivial⟩⟩
theorem parse_c {g : Nat} {X : XD} (hg : g ≤ 38) (hT : TC Z X N tx) : ∃ Y, fX1_parse Z g 45 X = some (if (pTx N tx 10 0).1 = true then -1 else Int32.ofNat (pTx N tx 10 0).2.1, Y) ∧ FrT g 0 X Y ∧ ((pTx N tx 10 0).1 = true → Y.1 g 4 = Int32.ofNat (pTx N tx 10 0).2.2.length ∧ GCl Y g 0 (pTx N tx 10 0).2.2) := by
  unfold fX1_parse
  rw [nm_eq, nm_eq, nm_eq]
  have f : FrT g 0 X (wI (wI (wI X g 4 0) g 6 0) g 7 0) := ⟨rfl, fun i k a b d => by
    by_cases z : i = g
    · rw [wI_k (by omega), wI_k (by omega), wI_k (by omega)]
    · rw [wI_c z, wI_c z, wI_c z]⟩
  obtain ⟨Y, y1, y2, _, y4⟩ := text_lp (Z := Z) (N := N) (tx := tx) hg 10 FU 0 0 0 (wI (wI (wI X g 4 0) g 6 0) g 7 0) (by decide) (FU_gt (by decide)) (f.TC hg hT) (by rw [wI_k (by decide), wI_s]; rfl) (by rw [wI_s]; rfl) (Nat.le_refl _) (Nat.zero_le _)
  refine ⟨Y, y1, f.trans y2 (Nat.le_refl _), fun h => ?_⟩
  rw [Nat.zero_add] at y4
  exact y4 h
end
