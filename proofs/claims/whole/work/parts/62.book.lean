set_option maxHeartbeats 40000000
set_option maxRecDepth 100000
/-! book -/
theorem st24 : St24 Rel := by
  intro Z Xc Xm a1 a2 ⟨n, m, r, h⟩
  have hn := h.2.1.1
  have hl := h.2.2.2.2.2.1
  have h57 : sL Z 57 = 10 := h.1.2.2.2.2.2.1
  have h59 : sL Z 59 = 10 := h.1.2.2.2.2.2.2.1
  unfold fX11_book fX12_book fX3_clear
  by_cases z : a1 = -1
  · rw [if_pos z, if_pos z, nm_eq, nm_eq, bnw_some, nm_eq, nm_eq, bnw_some, nm_eq]
    refine ⟨_, _, _, rfl, rfl, n, m, r, h.ls ⟨?_, ?_, ?_, ?_⟩ ?_ rfl ?_ ?_ rfl⟩
    · show CRow 4 _ ((wI (wI (wI (wI Xc 58 2 0) 58 1 0) 56 2 0) 56 1 0).1 52 1) ((wI (wI (wI (wI Xc 58 2 0) 58 1 0) 56 2 0) 56 1 0).1 53) ((wI Xm 0 40 0).1 0 32) ((wI Xm 0 40 0).1 20)
      rw [wI_c (by decide), wI_c (by decide), wI_c (by decide), wI_c (by decide), wI_c (by decide), wI_c (by decide), wI_c (by decide), wI_c (by decide), wI_k (by decide), wI_c (by decide)]
      exact hl.1
    · show CRow 6 _ ((wI (wI (wI (wI Xc 58 2 0) 58 1 0) 56 2 0) 56 1 0).1 54 1) ((wI (wI (wI (wI Xc 58 2 0) 58 1 0) 56 2 0) 56 1 0).1 55) ((wI Xm 0 40 0).1 0 38) ((wI Xm 0 40 0).1 25)
      rw [wI_c (by decide), wI_c (by decide), wI_c (by decide), wI_c (by decide), wI_c (by decide), wI_c (by decide), wI_c (by decide), wI_c (by decide), wI_k (by decide), wI_c (by decide)]
      exact hl.2.1
    · show CRow 10 _ ((wI (wI (wI (wI Xc 58 2 0) 58 1 0) 56 2 0) 56 1 0).1 56 1) _ ((wI Xm 0 40 0).1 0 40) _
      rw [wI_s, wI_s]
      exact CRow.nil
    · show CRow 10 _ ((wI (wI (wI (wI Xc 58 2 0) 58 1 0) 56 2 0) 56 1 0).1 58 1) _ ((wI Xm 0 40 0).1 0 40) _
      rw [wI_c (by decide), wI_c (by decide), wI_s, wI_s]
      exact CRow.nil
    · intro i hi; rw [wI_c (by omega), wI_c (by omega), wI_c (by omega), wI_c (by omega)]
    · intro q q0 _; exact wI_c q0
    · intro j hj; exact wI_k (by omega)
  rw [if_neg z, if_neg z]
  rcases h.2.1.find a1 with ⟨f1, f2⟩ | ⟨i, o, k, v, hi, rfl, ho, hc, hm, f1, f2⟩
  · rw [bnd_of f1, bnd_of f2]
    exact h.fin rfl rfl eqC.rfl eqM.rfl
  rw [bnd_of f1, bnd_of f2, mto_some, if_neg ne10]
  rcases draw_cases (Z := Z) a2 with ⟨s1, s2⟩ | ⟨d, hd, rfl, s1, s2⟩
  · rw [bnd_of (s1 _), bnd_of (s2 _)]
    exact h.fin rfl rfl eqC.rfl eqM.rfl
  rw [bnd_of (s1 _), bnd_of (s2 _), if_neg ne10, if_neg ne10]
  obtain ⟨e1, N, hN, e2, e3⟩ := hl.2.2.1
  have e1 : Xc.1 56 1 = Int32.ofNat N := e1.trans e2
  have e4 : Xc.1 58 1 = Int32.ofNat N := hl.2.2.2.1.trans e2
  by_cases y : N = 10
  · rw [bnw_of (add_out (x := Int32.ofNat i) h57 e1 (by decide) y), if_pos rfl, e2, if_pos (show Int32.ofNat N = 10 by rw [y]; rfl)]
    refine ⟨_, _, _, rfl, rfl, n, m, r, h.ls ⟨?_, ?_, ?_, ?_⟩ ?_ rfl ?_ ?_ rfl⟩
    · show CRow 4 _ ((wI Xc 56 2 _).1 52 1) ((wI Xc 56 2 _).1 53) _ _
      rw [wI_c (by decide), wI_c (by decide)]
      exact hl.1
    · show CRow 6 _ ((wI Xc 56 2 _).1 54 1) ((wI Xc 56 2 _).1 55) _ _
      rw [wI_c (by decide), wI_c (by decide)]
      exact hl.2.1
    · show CRow 10 _ ((wI Xc 56 2 _).1 56 1) ((wI Xc 56 2 _).1 57) _ _
      rw [wI_k (by decide), wI_c (by decide)]
      exact hl.2.2.1
    · show CRow 10 _ ((wI Xc 56 2 _).1 58 1) ((wI Xc 56 2 _).1 59) _ _
      rw [wI_c (by decide), wI_c (by decide)]
      exact hl.2.2.2
    · intro i hi; rw [wI_c (by omega)]
    · intro q _ _; rfl
    · intro j _; rfl
  · have hlt : N < 10 := by have : N ≤ 10 := hN; omega
    have eN : Int32.ofNat N + 1 = Int32.ofNat (N + 1) := o_add N 1
    have e4' : (rAdd Xc 56 N (Int32.ofNat i)).1 58 1 = Int32.ofNat N := by rw [rAdd_o (by decide) (by decide)]; exact e4
    rw [bnw_of (add_in (x := Int32.ofNat i) h57 e1 (by decide) hlt), if_neg ne10, bnw_of (add_in (x := Int32.ofNat d) h59 e4' (by decide) hlt), e2, if_neg (show ¬ Int32.ofNat N = 10 from fun w => y ((o_eq (b := 10) (by omega) (by omega)).mp w)), gin_o (by omega) (by omega), nm_eq, i32n (by omega), wI_c (show 0 ≠ 26 by decide), e2, gin_o (by omega) (by omega), nm_eq, nm_eq, i32n (by omega), wI_c (show 0 ≠ 27 by decide), wI_c (show 0 ≠ 26 by decide), e2, eN, show (rAdd (rAdd Xc 56 N (Int32.ofNat i)) 58 N (Int32.ofNat d)).1 56 1 = Int32.ofNat (N + 1) from by rw [rAdd_o (by decide) (by decide)]; exact wI_s, wI_s]
    have c3 := CRow.add (a := 56) hl.2.2.1 e2 (by decide) hlt ⟨i, hi, rfl⟩ (by decide)
    have c4 := CRow.add (a := 58) hl.2.2.2 e2 (by decide) hlt ⟨d, hd, rfl⟩ (by decide)
    refine ⟨_, _, _, rfl, rfl, n, m, r, h.ls ⟨?_, ?_, ?_, ?_⟩ ?_ rfl ?_ ?_ rfl⟩
    · show CRow 4 _ ((rAdd (rAdd Xc 56 N _) 58 N _).1 52 1) ((rAdd (rAdd Xc 56 N _) 58 N _).1 53) ((wI (wI (wI Xm 26 N _) 27 N _) 0 40 _).1 0 32) ((wI (wI (wI Xm 26 N _) 27 N _) 0 40 _).1 20)
      rw [rAdd_o (by decide) (by decide), rAdd_o (by decide) (by decide), rAdd_o (by decide) (by decide), rAdd_o (by decide) (by decide), wI_k (by decide), wI_c (by decide), wI_c (by decide), wI_c (by decide), wI_c (by decide), wI_c (by decide)]
      exact hl.1
    · show CRow 6 _ ((rAdd (rAdd Xc 56 N _) 58 N _).1 54 1) ((rAdd (rAdd Xc 56 N _) 58 N _).1 55) ((wI (wI (wI Xm 26 N _) 27 N _) 0 40 _).1 0 38) ((wI (wI (wI Xm 26 N _) 27 N _) 0 40 _).1 25)
      rw [rAdd_o (by decide) (by decide), rAdd_o (by decide) (by decide), rAdd_o (by decide) (by decide), rAdd_o (by decide) (by decide), wI_k (by decide), wI_c (by decide), wI_c (by decide), wI_c (by decide), wI_c (by decide), wI_c (by decide)]
      exact hl.2.1
    · show CRow 10 _ ((rAdd (rAdd Xc 56 N _) 58 N _).1 56 1) ((rAdd (rAdd Xc 56 N _) 58 N _).1 57) ((wI (wI (wI Xm 26 N _) 27 N _) 0 40 _).1 0 40) ((wI (wI (wI Xm 26 N _) 27 N _) 0 40 _).1 26)
      rw [rAdd_o (show 56 ≠ 58 by decide) (by decide), rAdd_o (show 57 ≠ 58 by decide) (by decide), wI_s, wI_c (show 26 ≠ 0 by decide), wI_c (show 26 ≠ 27 by decide)]
      rw [wI_s, wI_c (show 26 ≠ 0 by decide)] at c3
      exact c3
    · show CRow 10 _ ((rAdd (rAdd Xc 56 N _) 58 N _).1 58 1) ((rAdd (rAdd Xc 56 N _) 58 N _).1 59) ((wI (wI (wI Xm 26 N _) 27 N _) 0 40 _).1 0 40) ((wI (wI (wI Xm 26 N _) 27 N _) 0 40 _).1 27)
      have q1 : (rAdd (rAdd Xc 56 N (Int32.ofNat i)) 58 N (Int32.ofNat d)).1 58 1 = (rAdd Xc 58 N (Int32.ofNat d)).1 58 1 := wI_s.trans wI_s.symm
      have q2 : (rAdd (rAdd Xc 56 N (Int32.ofNat i)) 58 N (Int32.ofNat d)).1 59 = (rAdd Xc 58 N (Int32.ofNat d)).1 59 := by
        unfold rAdd
        rw [wI_c (show 59 ≠ 58 by decide), wI_c (show 59 ≠ 58 by decide), wI_row, wI_row, wI_c (show 59 ≠ 58 by decide), wI_c (show 59 ≠ 56 by decide), wI_c (show 59 ≠ 57 by decide), wI_c (show 59 ≠ 56 by decide), wI_c (show 59 ≠ 58 by decide)]
      have q3 : (wI (wI (wI Xm 26 N (Int32.ofNat i)) 27 N (Int32.ofNat d)) 0 40 (Int32.ofNat (N + 1))).1 27 = (wI (wI Xm 27 N (Int32.ofNat d)) 0 40 (Int32.ofNat (N + 1))).1 27 := by
        rw [wI_c (show 27 ≠ 0 by decide), wI_c (show 27 ≠ 0 by decide), wI_row, wI_row, wI_c (show 27 ≠ 26 by decide)]
      rw [q1, q2, q3, wI_s]
      rw [wI_s] at c4
      exact c4
    · intro q hq; rw [rAdd_o (by omega) (by omega), rAdd_o (by omega) (by omega)]
    · intro q q0 hq; rw [wI_c q0, wI_c (by omega), wI_c (by omega)]
    · intro j hj; rw [wI_k (by omega), wI_c (by decide), wI_c (by decide)]
