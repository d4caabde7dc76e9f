set_option maxHeartbeats 40000000
set_option maxRecDepth 100000
/-! the reference's parser: clauses and texts -/
section
variable {N : Nat} {tx : Nat → Nat}
theorem clause_m {x p b e : Nat} {X : XD} (hx : x < 60) (h : Tm N tx b X p e) (hL : RLt X) : ∃ Y, fX12_takesClause (Int32.ofNat x) X = some (b2 (pCl N tx p).1, Y) ∧ Y.1 0 12 = Int32.ofNat (pCl N tx p).2.1 ∧ FrX x e X Y ∧ ((pCl N tx p).1 = true → Y.1 0 22 = Int32.ofNat (e + (pCl N tx p).2.2.2.2.length) ∧ Y.1 9 x = Int32.ofNat (pCl N tx p).2.2.1 ∧ ((pCl N tx p).2.2.1 ≤ 1 → Y.1 10 x = Int32.ofNat (pCl N tx p).2.2.2.1) ∧ Y.1 11 x = Int32.ofNat e ∧ Y.1 12 x = Int32.ofNat (e + (pCl N tx p).2.2.2.2.length) ∧ CMl Y e (pCl N tx p).2.2.2.2) := by
  obtain ⟨Y, y1, y2, y3, y4, y5⟩ := head_m hx h hL
  have hb := pHd_b (tx := tx) h.2.1
  have hk := pk_b (N := N) (tx := tx) (p := p)
  have hN := h.1.1
  unfold fX12_takesClause pCl
  rw [pHd_R] at hb ⊢
  rw [y1, bnw_some]
  have gi : ∀ {f : Option (Int32 × XD)}, gin (Int32.ofNat x) 60 f = f := gin_o hx (by omega)
  generalize pk N tx p = k at *
  rcases hR : hdR N tx k p with ⟨ok, q⟩
  rw [hR] at hb y2
  dsimp only at hb y2 ⊢
  obtain ⟨q1, q2, q3⟩ := hb
  cases ok with
  | false =>
    rw [b2_f, if_pos rfl, if_neg (show ¬ false = true by decide)]
    exact ⟨Y, rfl, y2, y3, fun t => by cases t⟩
  | true =>
    rw [if_pos rfl] at q3
    rw [b2_t, if_neg (show ¬ (1 : Int32) = 0 by decide), if_pos rfl, gi, i32n (by omega), y5]
    dsimp only
    obtain ⟨k4, kp⟩ := q3 k rfl
    have t1 : Tm N tx b Y q e := ⟨y3.TM h.1, q1, h.2.2.1, by have := h.2.2.2.1; omega, y2, y4.trans h.2.2.2.2.2⟩
    by_cases k1 : k ≤ 1
    · rw [if_pos (show Int32.ofNat k ≤ 1 from (o_le (b := 1) (by omega) (by omega)).mpr k1), if_pos k1]
      have nn := number_m t1.1 y2 (by omega)
      cases en : pNum N tx q with
      | none =>
        rw [en] at nn
        dsimp only at nn ⊢
        rw [nn, bnw_some, if_pos rfl]
        exact ⟨Y, rfl, y2, y3, fun t => by cases t⟩
      | some z =>
        obtain ⟨z1, z2, z3⟩ := pNum_b en
        rw [en] at nn
        dsimp only at nn ⊢
        obtain ⟨V, v1, v2, v3, v4, v5⟩ := nn
        rw [v1, bnw_some, if_neg (show ¬ (1 : Int32) = 0 by decide), gi, nm_eq, v3]
        have fV : FrX x e Y (wI V 10 x (Int32.ofNat z.2)) := by
          refine FrX.trans ⟨v4, fun i k a b c d => v5 i k (by omega)⟩ (FrX.w (by decide) (by decide))
        have fX := y3.trans fV
        have g12 : (wI V 10 x (Int32.ofNat z.2)).1 0 12 = Int32.ofNat z.1 := by rw [wI_c (by decide)]; exact v2
        rw [show (32 : Int32) = Int32.ofNat 32 from rfl, takes_m (fX.TM h.1) g12 (by omega) (by decide)]
        by_cases c : cT N tx z.1 = 32
        · have hz := cT_lt c (by decide)
          rw [if_pos c, if_pos c, bnw_some, if_neg (show ¬ (1 : Int32) = 0 by decide)]
          have fM := fX.trans (mm_F (x := x) (e := e) (p := z.1 + 1))
          have t2 : Tm N tx b (mm (wI V 10 x (Int32.ofNat z.2)) (z.1 + 1)) (z.1 + 1) e := by
            refine ⟨fM.TM h.1, by omega, h.2.2.1, by have := t1.2.2.2.1; omega, wI_s, ?_⟩
            show (wI (wI V 10 x _) 0 12 _).1 0 22 = _
            rw [wI_k (by decide), wI_c (by decide), v5 0 22 (by omega)]
            exact t1.2.2.2.2.2
          obtain ⟨U, u1, u2, u3, u4, u5, u6⟩ := expr_m hx t2
          have u9 : U.1 9 x = Int32.ofNat k := by
            rw [u4]
            show (wI (wI V 10 x _) 0 12 _).1 9 x = _
            rw [wI_c (by decide), wI_c (by decide), v5 9 x (by omega)]
            exact y5
          have u10 : U.1 10 x = Int32.ofNat z.2 := by
            rw [u5]
            show (wI (wI V 10 x _) 0 12 _).1 10 x = _
            rw [wI_c (by decide), wI_s]
          rw [u1, bnw_some]
          unfold pEx
          refine ⟨U, ?_, u2, fM.trans u3, fun t => ?_⟩
          · cases e1 : (pE N tx (pU N tx 4) (z.1 + 1)).1 with
            | true => rw [b2_t, if_neg (show ¬ (1 : Int32) = 0 by decide)]
            | false => rw [b2_f, if_pos rfl]
          · obtain ⟨w1, w2, w3, w4⟩ := u6 t
            exact ⟨w1, u9, fun _ => u10, w2, w3, w4⟩
        · rw [if_neg c, if_neg c, bnw_some, if_pos rfl]
          exact ⟨_, rfl, g12, fX, fun t => by cases t⟩
    · rw [if_neg (show ¬ Int32.ofNat k ≤ 1 from fun z => k1 ((o_le (b := 1) (by omega) (by omega)).mp z)), if_neg k1]
      obtain ⟨U, u1, u2, u3, u4, u5, u6⟩ := expr_m hx t1
      rw [u1, bnw_some, gb_b2]
      unfold pEx
      refine ⟨U, rfl, u2, y3.trans u3, fun t => ?_⟩
      obtain ⟨w1, w2, w3, w4⟩ := u6 t
      exact ⟨w1, u4.trans y5, fun z => absurd z k1, w2, w3, w4⟩
def FrG (m c e : Nat) (X Y : XD) : Prop := Y.2 = X.2 ∧ ∀ i k, i ≠ 14 → ¬ (i = 0 ∧ (k = 12 ∨ k = 13 ∨ k = 22 ∨ k = 23 ∨ k = 24)) → ¬ (9 ≤ i ∧ i ≤ 12 ∧ 10 * m + c ≤ k) → ¬ (i = 13 ∧ e ≤ k) → ¬ (i = 8 ∧ k = m) → Y.1 i k = X.1 i k
theorem FrX.G {m c e : Nat} {X Y : XD} (h : FrX (10 * m + c) e X Y) : FrG m c e X Y := ⟨h.1, fun i k a b d f _ => h.2 i k a b (by omega) f⟩
theorem FrG.trans {m c d e f : Nat} {X Y W : XD} (h : FrG m c e X Y) (h2 : FrG m d f Y W) (hc : c ≤ d) (he : e ≤ f) : FrG m c e X W := ⟨h2.1.trans h.1, fun i k a b g j l => (h2.2 i k a b (by omega) (by omega) l).trans (h.2 i k a b g j l)⟩
theorem FrG.w8 {m c e : Nat} {X : XD} {v : Int32} : FrG m c e X (wI X 8 m v) := ⟨rfl, fun i k a b d f g => by
  by_cases z : i = 8
  · rw [wI_k (by omega)]
  · rw [wI_c z]⟩
theorem FrG.TM {m c e : Nat} {X Y : XD} (f : FrG m c e X Y) (h : TM X N tx) : TM Y N tx := by
  obtain ⟨h2, h3, h4⟩ := h
  refine ⟨h2, ?_, fun j hj => ⟨(h4 j hj).1, ?_⟩⟩
  · rw [f.2 0 11 (by omega) (by omega) (by omega) (by omega) (by omega)]; exact h3
  · rw [f.2 7 j (by omega) (by omega) (by omega) (by omega) (by omega)]; exact (h4 j hj).2
theorem FrG.L {m c e : Nat} {X Y : XD} (f : FrG m c e X Y) (h : RLt X) : RLt Y := fun j hj => by rw [f.2 15 j (by omega) (by omega) (by omega) (by omega) (by omega)]; exact h j hj
theorem goes_lp {m : Nat} (hm : m < 6) : ∀ (d n c p e : Nat) (X : XD), c + d = 10 → 1 ≤ d → d < n → Tm N tx (100 * m) X p e → RLt X → ∃ Y, fX12_goesText_15 n (Int32.ofNat m) (Int32.ofNat c) X = some (b2 (pTx N tx d p).1, Y) ∧ Y.1 0 12 = Int32.ofNat (pTx N tx d p).2.1 ∧ FrG m c e X Y ∧ ((pTx N tx d p).1 = true → Y.1 8 m = Int32.ofNat (c + (pTx N tx d p).2.2.length) ∧ GMl Y (10 * m + c) (pTx N tx d p).2.2 ∧ ∀ i, i < (pTx N tx d p).2.2.length → ∃ b, b ≤ 100 * (m + 1) ∧ Y.1 12 (10 * m + c + i) = Int32.ofNat b) := by
  intro d
  induction d with
  | zero => intro n c p e X hc h1; omega
  | succ d ih =>
    intro n c p e X hc hd hn hT hL
    have hN := hT.1.1
    obtain ⟨n, rfl⟩ : ∃ q, n = q + 1 := ⟨n - 1, by omega⟩
    rw [show fX12_goesText_15 (n + 1) (Int32.ofNat m) (Int32.ofNat c) X = bnw (fX12_takesClause ((((10 : Int32)) * Int32.ofNat m) + Int32.ofNat c) X) (fun r4 X_5 => if r4 = 0 then some ((0 : Int32), X_5) else nm (Int32.ofNat c + (1 : Int32)) (fun y6 => gin (Int32.ofNat m) 6 (nm (wI X_5 8 (Int32.ofNat m).toNatClampNeg y6) (fun X_7 => if (X_7.1 0 12) = (X_7.1 0 11) then some ((1 : Int32), X_7) else if y6 = ((10 : Int32)) then some ((0 : Int32), X_7) else bnw (fX12_takes ((59 : Int32)) X_7) (fun r9 X_10 => if r9 = 0 then some ((0 : Int32), X_10) else fX12_goesText_15 n (Int32.ofNat m) y6 X_10))))) from rfl]
    have ex : (10 : Int32) * Int32.ofNat m + Int32.ofNat c = Int32.ofNat (10 * m + c) := by
      show Int32.ofNat 10 * Int32.ofNat m + Int32.ofNat c = _
      rw [o_mul, o_add]
    rw [ex]
    obtain ⟨Y, y1, y2, y3, y4⟩ := clause_m (show 10 * m + c < 60 by omega) hT hL
    obtain ⟨b1, b2', b3⟩ := pCl_b (tx := tx) hN hT.2.1
    rw [y1, bnw_some]
    unfold pTx
    cases e1 : (pCl N tx p).1 with
    | false =>
      rw [b2_f, if_pos rfl, if_neg (show ¬ false = true by decide)]
      exact ⟨Y, rfl, y2, y3.G, fun t => by cases t⟩
    | true =>
      obtain ⟨o1, o2⟩ := b3 e1
      obtain ⟨z1, z2, z3, z4, z5, z6⟩ := y4 e1
      rw [b2_t, if_neg (show ¬ (1 : Int32) = 0 by decide), nm_eq, i1, gin_o hm (by omega), i32n (by omega), nm_eq, if_pos rfl]
      have he := hT.2.2.2.1
      have fW : FrG m c e X (wI Y 8 m (Int32.ofNat (c + 1))) := y3.G.trans FrG.w8 (Nat.le_refl _) (Nat.le_refl _)
      have w8 : (wI Y 8 m (Int32.ofNat (c + 1))).1 8 m = Int32.ofNat (c + 1) := wI_s
      have wk : ∀ i, i ≠ 8 → (wI Y 8 m (Int32.ofNat (c + 1))).1 i = Y.1 i := fun i hi => wI_c hi
      generalize wI Y 8 m (Int32.ofNat (c + 1)) = W at *
      have tW := fW.TM hT.1
      have w12 : W.1 0 12 = Int32.ofNat (pCl N tx p).2.1 := by rw [wk 0 (by decide)]; exact y2
      rw [w12, tW.2.1]
      have one : ∀ (V : XD), FrG m (c + 1) (e + (pCl N tx p).2.2.2.2.length) W V → GM1 V (10 * m + c) (pCl N tx p).2.2 ∧ V.1 12 (10 * m + c) = Int32.ofNat (e + (pCl N tx p).2.2.2.2.length) := by
        intro V f1
        have r12 : V.1 12 (10 * m + c) = Int32.ofNat (e + (pCl N tx p).2.2.2.2.length) := by
          rw [f1.2 12 _ (by omega) (by omega) (by omega) (by omega) (by omega), wk 12 (by decide)]; exact z5
        refine ⟨⟨?_, fun q => ?_, e, ?_, r12, by omega, ?_⟩, r12⟩
        · rw [f1.2 9 _ (by omega) (by omega) (by omega) (by omega) (by omega), wk 9 (by decide)]; exact z2
        · rw [f1.2 10 _ (by omega) (by omega) (by omega) (by omega) (by omega), wk 10 (by decide)]; exact z3 q
        · rw [f1.2 11 _ (by omega) (by omega) (by omega) (by omega) (by omega), wk 11 (by decide)]; exact z4
        · exact CMl_k (fun k k1 k2 => by rw [f1.2 13 k (by omega) (by omega) (by omega) (by omega) (by omega), wk 13 (by decide)]) z6
      by_cases c2 : (pCl N tx p).2.1 < N
      · rw [if_pos c2, if_neg (fun q => by have := (o_eq (by omega) (by omega)).mp q; omega)]
        by_cases c4 : d = 0
        · subst c4
          rw [if_pos (show Int32.ofNat (c + 1) = 10 by rw [show c + 1 = 10 by omega]; rfl), if_neg (show ¬ (cT N tx (pCl N tx p).2.1 = 59 ∧ 0 ≠ 0) from fun q => q.2 rfl)]
          exact ⟨W, rfl, w12, fW, fun t => by cases t⟩
        · rw [if_neg (show ¬ Int32.ofNat (c + 1) = 10 from fun q => by have := (o_eq (b := 10) (by omega) (by omega)).mp q; omega), show (59 : Int32) = Int32.ofNat 59 from rfl, takes_m tW w12 (by omega) (by decide)]
          by_cases c3 : cT N tx (pCl N tx p).2.1 = 59
          · rw [if_pos c3, if_pos (show cT N tx (pCl N tx p).2.1 = 59 ∧ d ≠ 0 from ⟨c3, c4⟩), bnw_some, if_neg (show ¬ (1 : Int32) = 0 by decide)]
            have fM : FrG m (c + 1) (e + (pCl N tx p).2.2.2.2.length) W (mm W ((pCl N tx p).2.1 + 1)) := mm_F.G
            have tM : Tm N tx (100 * m) (mm W ((pCl N tx p).2.1 + 1)) ((pCl N tx p).2.1 + 1) (e + (pCl N tx p).2.2.2.2.length) := by
              refine ⟨fM.TM tW, by omega, by omega, by omega, wI_s, ?_⟩
              show (wI W 0 12 _).1 0 22 = _
              rw [wI_k (by decide), wk 0 (by decide)]
              exact z1
            obtain ⟨V, v1, v2, v3, v4⟩ := ih n (c + 1) ((pCl N tx p).2.1 + 1) (e + (pCl N tx p).2.2.2.2.length) _ (by omega) (by omega) (by omega) tM (fM.L (fW.L hL))
            have fV := fM.trans v3 (Nat.le_refl _) (Nat.le_refl _)
            refine ⟨V, v1, v2, fW.trans fV (by omega) (by omega), fun t => ?_⟩
            obtain ⟨q1, q2, q3⟩ := v4 t
            obtain ⟨g1, g2⟩ := one V fV
            refine ⟨?_, ⟨g1, q2⟩, fun i hi => ?_⟩
            · rw [q1]
              show _ = Int32.ofNat (c + (_ :: _ : List Cl).length)
              rw [List.length_cons]
              congr 1
              omega
            · have hi : i < (_ :: _ : List Cl).length := hi
              rw [List.length_cons] at hi
              by_cases i0 : i = 0
              · subst i0
                exact ⟨e + (pCl N tx p).2.2.2.2.length, by omega, g2⟩
              · obtain ⟨bb, b4, b5⟩ := q3 (i - 1) (by omega)
                exact ⟨bb, b4, by rw [show 10 * m + c + i = 10 * m + (c + 1) + (i - 1) by omega]; exact b5⟩
          · rw [if_neg c3, if_neg (show ¬ (cT N tx (pCl N tx p).2.1 = 59 ∧ d ≠ 0) from fun q => c3 q.1), bnw_some, if_pos rfl]
            exact ⟨W, rfl, w12, fW, fun t => by cases t⟩
      · rw [if_neg c2, if_pos (show Int32.ofNat (pCl N tx p).2.1 = Int32.ofNat N by rw [show (pCl N tx p).2.1 = N by omega])]
        obtain ⟨g1, g2⟩ := one W ⟨rfl, fun _ _ _ _ _ _ _ => rfl⟩
        refine ⟨W, rfl, w12, fW, fun _ => ⟨w8, ⟨g1, trivial⟩, fun i hi => ?_⟩⟩
        have hi : i < 1 := hi
        rw [show i = 0 by omega]
        exact ⟨e + (pCl N tx p).2.2.2.2.length, by omega, g2⟩
theorem goes_m {m : Nat} (hm : m < 6) {X : XD} (hT : TM X N tx) (hL : RLt X) : ∃ Y, fX12_goesText (Int32.ofNat m) X = some (b2 (pTx N tx 10 0).1, Y) ∧ Y.1 0 12 = Int32.ofNat (pTx N tx 10 0).2.1 ∧ FrG m 0 (100 * m) X Y ∧ ((pTx N tx 10 0).1 = true → Y.1 8 m = Int32.ofNat (pTx N tx 10 0).2.2.length ∧ GMl Y (10 * m) (pTx N tx 10 0).2.2 ∧ ∀ i, i < (pTx N tx 10 0).2.2.length → ∃ b, b ≤ 100 * (m + 1) ∧ Y.1 12 (10 * m + i) = Int32.ofNat b) := by
  unfold fX12_goesText
  rw [nm_eq, nm_eq]
  have e1 : (100 : Int32) * Int32.ofNat m = Int32.ofNat (100 * m) := by
    show Int32.ofNat 100 * Int32.ofNat m = _
    rw [o_mul]
  rw [e1]
  have f : FrG m 0 (100 * m) X (wI (wI X 0 12 0) 0 22 (Int32.ofNat (100 * m))) := ((FrM.w0 (by omega)).X.trans (FrM.w0 (by omega)).X).G
  obtain ⟨Y, y1, y2, y3, y4⟩ := goes_lp (N := N) (tx := tx) hm 10 FU 0 0 (100 * m) _ (by decide) (by decide) (FU_gt (by decide)) ⟨f.TM hT, Nat.zero_le _, by omega, Nat.le_refl _, by rw [wI_k (by decide), wI_s]; rfl, wI_s⟩ (f.L hL)
  refine ⟨Y, y1, y2, f.trans y3 (Nat.le_refl _) (Nat.le_refl _), fun t => ?_⟩
  rw [Nat.zero_add, Nat.add_zero] at y4
  exact y4 t
end
