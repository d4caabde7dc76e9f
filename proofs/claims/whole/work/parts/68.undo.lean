set_option maxHeartbeats 40000000
set_option maxRecDepth 100000
/-! undo -/
def unX (X : XD) : XD := wI (wI (wI (wI (wI (wI (wI X 0 10 (X.1 0 44)) 0 0 (X.1 0 45)) 0 1 (X.1 0 46)) 0 2 (X.1 0 47)) 0 32 (X.1 0 48)) 0 38 (X.1 0 49)) 0 40 (X.1 0 50)
theorem unX_o {X : XD} {q : Nat} (h : q ≠ 0) : (unX X).1 q = X.1 q := by
  unfold unX
  rw [wI_c h, wI_c h, wI_c h, wI_c h, wI_c h, wI_c h, wI_c h]
theorem unX_k {X : XD} {k : Nat} (h0 : 2 < k) (h1 : k ≠ 10) (h2 : k ≠ 32) (h3 : k ≠ 38) (h4 : k ≠ 40) : (unX X).1 0 k = X.1 0 k := by
  unfold unX
  rw [wI_k h4, wI_k h3, wI_k h2, wI_k (by omega), wI_k (by omega), wI_k (by omega), wI_k h1]
theorem undo_m {X : XD} (hi : ¬ X.1 0 43 = 0) : ∃ Y, fX12_undo X = some (X.1 0 45, Y) ∧ (∀ j, j < 6 → Y.1 1 j = X.1 28 j ∧ Y.1 2 j = X.1 29 j ∧ Y.1 3 j = X.1 30 j ∧ Y.1 4 j = X.1 31 j ∧ Y.1 5 j = X.1 32 j ∧ Y.1 25 j = X.1 35 j) ∧ (∀ j, j < 24 → Y.1 6 j = X.1 33 j) ∧ (∀ j, j < 4 → Y.1 20 j = X.1 34 j) ∧ (∀ j, j < 10 → Y.1 26 j = X.1 36 j ∧ Y.1 27 j = X.1 37 j) ∧ Y.1 0 = (unX X).1 0 ∧ (∀ q, q ≠ 0 → 6 < q → q ≠ 20 → q ≠ 25 → q ≠ 26 → q ≠ 27 → Y.1 q = X.1 q) ∧ Y.2 = X.2 := by
  obtain ⟨A, a1, a2, -, a4, a5⟩ := un1 6 0 FU (unX X) rfl (FU_gt (by decide))
  obtain ⟨B, b1, b2, -, b4, b5⟩ := un2 24 0 FU A rfl (FU_gt (by decide))
  obtain ⟨C, c1, c2, -, c4, c5⟩ := un3 4 0 FU B rfl (FU_gt (by decide))
  obtain ⟨D, d1, d2, -, d4, d5⟩ := un4 10 0 FU C rfl (FU_gt (by decide))
  have oB : ∀ q, q ≠ 6 → B.1 q = A.1 q := b4
  have oC : ∀ q, q ≠ 20 → C.1 q = B.1 q := c4
  have oD : ∀ q, q ≠ 26 → q ≠ 27 → D.1 q = C.1 q := d4
  have oA : ∀ q, (q = 0 ∨ 6 ≤ q) → q ≠ 25 → A.1 q = (unX X).1 q := fun q h h2 => a4 q (by omega) (by omega) (by omega) (by omega) (by omega) h2
  have all : ∀ q, (q = 0 ∨ 6 < q) → q ≠ 20 → q ≠ 25 → q ≠ 26 → q ≠ 27 → D.1 q = (unX X).1 q := fun q h x y z w => by rw [oD q z w, oC q x, oB q (by omega), oA q (by omega) y]
  refine ⟨D, ?_, fun j hj => ?_, fun j hj => ?_, fun j hj => ?_, fun j hj => ?_, all 0 (by decide) (by decide) (by decide) (by decide) (by decide), fun q q0 h6 x y z w => by rw [all q (by omega) x y z w, unX_o q0], by rw [d5, c5, b5, a5]; rfl⟩
  · have e : fX12_undo X = fX12_undo_68 FU 0 (unX X) := by
      unfold fX12_undo unX
      rw [if_neg hi, nm_eq, nm_eq, nm_eq, nm_eq, nm_eq, nm_eq, nm_eq]
      have g : ∀ {Y : XD} {k : Nat} {v : Int32} {p : Nat}, p ≠ k → (wI Y 0 k v).1 0 p = Y.1 0 p := fun h => wI_k h
      simp only [g (show 45 ≠ 10 by decide), g (show 46 ≠ 10 by decide), g (show 46 ≠ 0 by decide), g (show 47 ≠ 10 by decide), g (show 47 ≠ 0 by decide), g (show 47 ≠ 1 by decide), g (show 48 ≠ 10 by decide), g (show 48 ≠ 0 by decide), g (show 48 ≠ 1 by decide), g (show 48 ≠ 2 by decide), g (show 49 ≠ 10 by decide), g (show 49 ≠ 0 by decide), g (show 49 ≠ 1 by decide), g (show 49 ≠ 2 by decide), g (show 49 ≠ 32 by decide), g (show 50 ≠ 10 by decide), g (show 50 ≠ 0 by decide), g (show 50 ≠ 1 by decide), g (show 50 ≠ 2 by decide), g (show 50 ≠ 32 by decide), g (show 50 ≠ 38 by decide)]
    have e2 : D.1 0 0 = X.1 0 45 := by
      rw [all 0 (by decide) (by decide) (by decide) (by decide) (by decide)]
      unfold unX
      rw [wI_k (by decide), wI_k (by decide), wI_k (by decide), wI_k (by decide), wI_k (by decide), wI_s]
    rw [e2] at d1
    exact e.trans (a1.trans (b1.trans (c1.trans d1)))
  · obtain ⟨z1, z2, z3, z4, z5, z6⟩ := a2 j (Nat.zero_le _) hj
    have o : ∀ q, q ≠ 6 → q ≠ 20 → q ≠ 26 → q ≠ 27 → D.1 q = A.1 q := fun q x y z w => by rw [oD q z w, oC q y, oB q x]
    rw [o 1 (by decide) (by decide) (by decide) (by decide), o 2 (by decide) (by decide) (by decide) (by decide), o 3 (by decide) (by decide) (by decide) (by decide), o 4 (by decide) (by decide) (by decide) (by decide), o 5 (by decide) (by decide) (by decide) (by decide), o 25 (by decide) (by decide) (by decide) (by decide), z1, z2, z3, z4, z5, z6, unX_o (by decide), unX_o (by decide), unX_o (by decide), unX_o (by decide), unX_o (by decide), unX_o (by decide)]
    exact ⟨rfl, rfl, rfl, rfl, rfl, rfl⟩
  · rw [oD 6 (by decide) (by decide), oC 6 (by decide), b2 j (Nat.zero_le _) hj, oA 33 (by decide) (by decide), unX_o (by decide)]
  · rw [oD 20 (by decide) (by decide), c2 j (Nat.zero_le _) hj, oB 34 (by decide), oA 34 (by decide) (by decide), unX_o (by decide)]
  · obtain ⟨z1, z2⟩ := d2 j (Nat.zero_le _) hj
    rw [z1, z2, oC 36 (by decide), oC 37 (by decide), oB 36 (by decide), oB 37 (by decide), oA 36 (by decide) (by decide), oA 37 (by decide) (by decide), unX_o (by decide), unX_o (by decide)]
    exact ⟨rfl, rfl⟩
theorem st28 : St28 Rel := by
  intro Z Xc Xm ⟨n, m, r, h⟩
  obtain ⟨q1, q2, q3, q4, q5, q6, q7, q8, q9, q10⟩ := h.1.2.2
  obtain ⟨i1, i2⟩ := h.2.2.2.2.2.2.1
  unfold fX11_undo
  rcases i2 with i2 | ⟨i2, ni, r', n1, n2, n3, n4, n5, n6, n7, n8, n9, n10⟩
  · rw [i1, i2, if_pos rfl]
    refine ⟨-3, Xc, Xm, rfl, ?_, n, m, r, h⟩
    unfold fX12_undo
    rw [i2, if_pos rfl]
  have hn := h.2.1.1
  have hi : ¬ Xm.1 0 43 = 0 := by rw [i2]; decide
  obtain ⟨Y, y1, y2, y3, y4, ⟨l1, l1'⟩, ⟨l2, l2'⟩, ⟨l3, l3'⟩, ⟨l4, l4'⟩, y5, y6⟩ := tall (Z := Z) (a := 47) (b := 60) n4 (by decide) ⟨q2, q6⟩ ⟨q3, q7⟩ ⟨q4, q8⟩ ⟨q5, q9⟩
  obtain ⟨W, w1, w2, w3, w4, w5, w6, w7, w8⟩ := undo_m hi
  have fld : ∀ k, 2 < k → k ≠ 10 → k ≠ 32 → k ≠ 38 → k ≠ 40 → W.1 0 k = Xm.1 0 k := fun k a b c d e => by rw [w6, unX_k a b c d e]
  have c : ∀ q, (q < 47 ∨ 59 < q) → Y.1 q = Xc.1 q := fun q hq => y5 q (by omega)
  have kk : ∀ q, q ≠ 0 → 6 < q → q ≠ 20 → q ≠ 25 → q ≠ 26 → q ≠ 27 → W.1 q = Xm.1 q := w7
  have u10 : W.1 0 10 = Xm.1 0 44 := by rw [w6]; unfold unX; rw [wI_k (by decide), wI_k (by decide), wI_k (by decide), wI_k (by decide), wI_k (by decide), wI_k (by decide), wI_s]
  have u0 : W.1 0 0 = Xm.1 0 45 := by rw [w6]; unfold unX; rw [wI_k (by decide), wI_k (by decide), wI_k (by decide), wI_k (by decide), wI_k (by decide), wI_s]
  have u1 : W.1 0 1 = Xm.1 0 46 := by rw [w6]; unfold unX; rw [wI_k (by decide), wI_k (by decide), wI_k (by decide), wI_k (by decide), wI_s]
  have u2 : W.1 0 2 = Xm.1 0 47 := by rw [w6]; unfold unX; rw [wI_k (by decide), wI_k (by decide), wI_k (by decide), wI_s]
  have u32 : W.1 0 32 = Xm.1 0 48 := by rw [w6]; unfold unX; rw [wI_k (by decide), wI_k (by decide), wI_s]
  have u38 : W.1 0 38 = Xm.1 0 49 := by rw [w6]; unfold unX; rw [wI_k (by decide), wI_s]
  have u40 : W.1 0 40 = Xm.1 0 50 := by rw [w6]; unfold unX; rw [wI_s]
  obtain ⟨z1, z2, z3, z4⟩ := n10
  rw [i1, i2, if_neg (by decide), bnw_of y1, y3, n2, w1, n3]
  refine ⟨_, _, _, rfl, rfl, ni, m, r', h.1, ⟨by omega, ?_, ?_, fun i hi => ?_⟩, ⟨y2, ⟨fun i hi => ?_, fun i hi => ?_, fun i hi => ?_, fun i hi => ?_, ?_, ?_⟩, n6⟩, ?_, ?_, ⟨?_, ?_, ?_, ?_⟩, ⟨?_, Or.inr ⟨?_, ni, r', Nat.le_refl _, ?_, ?_, ?_, ?_, n6, ?_, ?_, fun i hi => ?_, ?_⟩⟩, ?_, ?_, ?_⟩
  · rw [y3]; exact n2
  · rw [u0]; exact n3
  · obtain ⟨o, k, v, b1, b2, b3⟩ := h.2.1.2.2.2 i (by omega)
    obtain ⟨x1, x2, -⟩ := w2 i (by omega)
    exact ⟨o, k, v, b1, b2.eq (c o (by have := b2.1; omega)), b3.1, b3.2.1, by rw [x1, (n9 i hi).1]; exact b3.2.2.1, by rw [x2, (n9 i hi).2]; exact b3.2.2.2⟩
  · rw [(w2 i (by omega)).2.2.1]; exact n5.1 i hi
  · rw [(w2 i (by omega)).2.2.2.1]; exact n5.2.1 i hi
  · rw [(w2 i (by omega)).2.2.2.2.1]; exact n5.2.2.1 i hi
  · rw [w3 i (by omega)]; exact n5.2.2.2.1 i hi
  · rw [u1]; exact n5.2.2.2.2.1
  · rw [u2]; exact n5.2.2.2.2.2
  · obtain ⟨g1, g2, g3, g4, g5, g6⟩ := h.2.2.2.1
    refine ⟨g1, by rw [c 0 (by decide)]; exact g2, by rw [fld 9 (by decide) (by decide) (by decide) (by decide) (by decide)]; exact g3, by rw [y4]; exact n7, by rw [u10, y4]; exact n8, fun j hj => ?_⟩
    obtain ⟨G, g⟩ := g6 j hj
    exact ⟨G, g.eq (by omega) (fun i a b d => c i (by omega)) (fun p a b => kk p (by omega) (by omega) (by omega) (by omega) (by omega) (by omega))⟩
  · have h5 := h.2.2.2.2.1
    unfold RTx at h5 ⊢
    rw [c 45 (by decide), c 46 (by decide), fld 11 (by decide) (by decide) (by decide) (by decide) (by decide), kk 7 (by decide) (by decide) (by decide) (by decide) (by decide) (by decide)]
    exact h5
  · exact z1.cp l1 l1' u32 (fun j hj => w4 j hj)
  · exact z2.cp l2 l2' u38 (fun j hj => (w2 j hj).2.2.2.2.2)
  · exact z3.cp l3 l3' u40 (fun j hj => (w5 j hj).1)
  · exact z4.cp l4 l4' u40 (fun j hj => (w5 j hj).2)
  · rw [c 0 (by decide), fld 43 (by decide) (by decide) (by decide) (by decide) (by decide)]; exact i1
  · rw [fld 43 (by decide) (by decide) (by decide) (by decide) (by decide)]; exact i2
  · rw [c 60 (by decide)]; exact n2
  · rw [fld 45 (by decide) (by decide) (by decide) (by decide) (by decide)]; exact n3
  · exact n4.eq (by rw [c 60 (by decide)]) (by rw [c 60 (by decide)]) (fun p a b => c _ (by omega))
  · exact n5.eq (fld _ (by decide) (by decide) (by decide) (by decide) (by decide)) (fld _ (by decide) (by decide) (by decide) (by decide) (by decide)) (fun p a b => kk p (by omega) (by omega) (by omega) (by omega) (by omega) (by omega))
  · rw [c 60 (by decide)]; exact n7
  · rw [c 60 (by decide), fld 44 (by decide) (by decide) (by decide) (by decide) (by decide)]; exact n8
  · rw [kk 28 (by decide) (by decide) (by decide) (by decide) (by decide) (by decide), kk 29 (by decide) (by decide) (by decide) (by decide) (by decide) (by decide), (w2 i (by omega)).1, (w2 i (by omega)).2.1]; exact ⟨rfl, rfl⟩
  · exact RLs.eq ⟨z1, z2, z3, z4⟩ (fun p a b => c _ (by omega)) (fld _ (by decide) (by decide) (by decide) (by decide) (by decide)) (fld _ (by decide) (by decide) (by decide) (by decide) (by decide)) (fld _ (by decide) (by decide) (by decide) (by decide) (by decide)) (kk _ (by decide) (by decide) (by decide) (by decide) (by decide) (by decide)) (kk _ (by decide) (by decide) (by decide) (by decide) (by decide) (by decide)) (kk _ (by decide) (by decide) (by decide) (by decide) (by decide) (by decide)) (kk _ (by decide) (by decide) (by decide) (by decide) (by decide) (by decide))
  · have h8 := h.2.2.2.2.2.2.2.1
    unfold RRn at h8 ⊢
    rw [c 142 (by decide), c 143 (by decide), fld 61 (by decide) (by decide) (by decide) (by decide) (by decide), kk 38 (by decide) (by decide) (by decide) (by decide) (by decide) (by decide)]
    exact h8
  · exact h.2.2.2.2.2.2.2.2.1.eq (c _ (by decide)) (c _ (by decide)) (fun t _ _ => by rw [y6]) (kk _ (by decide) (by decide) (by decide) (by decide) (by decide) (by decide)) (kk _ (by decide) (by decide) (by decide) (by decide) (by decide) (by decide)) (by rw [w8])
  · intro j hj
    rw [kk 15 (by decide) (by decide) (by decide) (by decide) (by decide) (by decide)]
    exact h.2.2.2.2.2.2.2.2.2 j hj
