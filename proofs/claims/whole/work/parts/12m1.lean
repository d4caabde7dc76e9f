noncomputable def fX12_takesHead_103 (x1 : Int32) (s0 : Int32) (s1 : Int32) (X : XD) : Option (Int32 × XD) := gin s1 60 (nm (wI X 9 (s1).toNatClampNeg s0) (fun X_23 => gin x1 60 (if (X_23.1 9 (x1).toNatClampNeg) = ((4 : Int32)) then bnw (fX12_takesWord ((15 : Int32)) ((4 : Int32)) X_23) (fun r29 X_30 => gb r29 (some (r29, X_30))) else bnw (fX12_takesWord ((2 : Int32)) ((4 : Int32)) X_23) (fun r25 X_26 => gb r25 (some (r25, X_26))))))
noncomputable def fX12_takesHead (x1 : Int32) (X : XD) : Option (Int32 × XD) := bnd (fX12_next X) (fun r2 => if r2 = (105 : Int32) then gin x1 60 (nm (wI X 9 (x1).toNatClampNeg ((0 : Int32))) (fun X_4 => bnw (fX12_takesWord ((0 : Int32)) ((2 : Int32)) X_4) (fun r6 X_7 => gb r6 (some (r6, X_7))))) else (if r2 = (108 : Int32) then gin x1 60 (nm (wI X 9 (x1).toNatClampNeg ((2 : Int32))) (fun X_10 => bnw (fX12_takesWord ((6 : Int32)) ((4 : Int32)) X_10) (fun r12 X_13 => gb r12 (some (r12, X_13))))) else (if r2 = (114 : Int32) then gin x1 60 (nm (wI X 9 (x1).toNatClampNeg ((3 : Int32))) (fun X_16 => bnw (fX12_takesWord ((10 : Int32)) ((5 : Int32)) X_16) (fun r18 X_19 => gb r18 (some (r18, X_19))))) else (bnd (fX12_second X) (fun r22 => if r22 = ((116 : Int32)) then fX12_takesHead_103 x1 ((4 : Int32)) x1 X else fX12_takesHead_103 x1 ((1 : Int32)) x1 X)))))
set_option maxHeartbeats 40000000 in
set_option maxRecDepth 100000 in
theorem ceX12_takesHead {l : Launch} {E : XE} {w : XW} {z : Nat} {Z : XS} (hL : LayM Z) {x1 : Int32} {X X1 : XD} {r : Int32} (h : fX12_takesHead x1 X = some (r, X1)) : Ct l E w yX12_takesHead (wsM yX12_takesHead cX12_takesHead 2 (some .boolean)) (rmX 4 0 0) 0 0 [.ref (w.1 0), .int x1] z z Z Z X X1 (some (.int r)) := by
  refine ct_of (by decide) (Nat.le_of_ble_eq_true rfl) ?_
  intro p e s m args below meth c hC hr hin hav
  have j103 : ∀ (x1 : Int32) (s0 : Int32) (s1 : Int32) (X : XD), fX12_takesHead_103 x1 s0 s1 X = some (r, X1) → WW p l e (rmX 4 0 0) s m args below meth c 2 (MQ below (XQ E w z Z X1 (some (.int r))) args s 0 0 (A0 E)) E w 0 0 z Z 103 [(0, .ref (w.1 0)), (1, .int x1)] [.int s0, .int s1, .ref (w.1 9)] X := by
    intro x1 s0 s1 X h
    unfold fX12_takesHead_103 at h
    refine ww_iast (pc := 103) hC ((lay_12_16 hL).2) h dX12_takesHead_103 (fun h => ?_)
    obtain ⟨X_23, eX_23⟩ : ∃ q, q = wI X 9 (s1).toNatClampNeg s0 := ⟨_, rfl⟩
    replace h := nm_i h eX_23
    refine ww_nmX eX_23 ?_
    refine ww_aload_n (pc := 104) hC dX12_takesHead_104 0 rfl ?_
    refine ww_getR (pc := 105) hC 12 16 9 hL.1 RX12 (by decide) (by decide) rfl (lay_12_16 hL).1 qf_X12_59 rfl dX12_takesHead_105 ?_
    refine ww_iload_n (pc := 108) hC dX12_takesHead_108 1 rfl ?_
    refine ww_iald (pc := 109) hC ((lay_12_16 hL).2) h dX12_takesHead_109 (fun h => ?_)
    refine ww_iconst (pc := 110) hC (v := (4 : Int32)) dX12_takesHead_110 (by decide) ?_
    refine ww_icmp_ne (pc := 111) hC h 124 dX12_takesHead_111 (by decide) (fun h => ?_) (fun h => ?_)
    · refine ww_aload_n (pc := 124) hC dX12_takesHead_124 0 rfl ?_
      refine ww_iconst (pc := 125) hC (v := (2 : Int32)) dX12_takesHead_125 (by decide) ?_
      refine ww_iconst (pc := 126) hC (v := (4 : Int32)) dX12_takesHead_126 (by decide) ?_
      obtain ⟨r25, X_26, h24, h⟩ := bnw_i h
      refine ww_callVi (pc := 127) hC [.int ((2 : Int32)), .int ((4 : Int32))] hL.1.1 hL.1.2 (by decide) (ceX12_takesWord hL h24) ql_X12_257 qi_X12_takesWord qs_X12_X12_takesWord qn_X12 qc_X12_takesWord rfl ⟨by decide, by decide, rfl⟩ rfl ⟨Nat.le_of_ble_eq_true rfl, Nat.le_of_ble_eq_true rfl⟩ (by decide) (rest := []) (Nat.le_of_ble_eq_true rfl) dX12_takesHead_127 ⟨Nat.le_of_ble_eq_true rfl, Nat.le_of_ble_eq_true rfl⟩ rfl ?_
      obtain ⟨hb27, h⟩ := gb_i h
      exact ww_zret (pc := 130) hC hr (gb_n hb27) h dX12_takesHead_130
    · refine ww_aload_n (pc := 114) hC dX12_takesHead_114 0 rfl ?_
      refine ww_bipush (pc := 115) hC (v := (15 : Int32)) dX12_takesHead_115 (by decide) ?_
      refine ww_iconst (pc := 117) hC (v := (4 : Int32)) dX12_takesHead_117 (by decide) ?_
      obtain ⟨r29, X_30, h28, h⟩ := bnw_i h
      refine ww_callVi (pc := 118) hC [.int ((15 : Int32)), .int ((4 : Int32))] hL.1.1 hL.1.2 (by decide) (ceX12_takesWord hL h28) ql_X12_257 qi_X12_takesWord qs_X12_X12_takesWord qn_X12 qc_X12_takesWord rfl ⟨by decide, by decide, rfl⟩ rfl ⟨Nat.le_of_ble_eq_true rfl, Nat.le_of_ble_eq_true rfl⟩ (by decide) (rest := []) (Nat.le_of_ble_eq_true rfl) dX12_takesHead_118 ⟨Nat.le_of_ble_eq_true rfl, Nat.le_of_ble_eq_true rfl⟩ rfl ?_
      refine ww_goto (pc := 121) hC 130 dX12_takesHead_121 (by decide) ?_
      obtain ⟨hb31, h⟩ := gb_i h
      exact ww_zret (pc := 130) hC hr (gb_n hb31) h dX12_takesHead_130
  unfold fX12_takesHead at h
  refine ww_lv (lv' := [(0, .ref (w.1 0)), (1, .int x1)]) rfl ?_
  refine ww_aload_n (pc := 0) hC dX12_takesHead_0 0 rfl ?_
  obtain ⟨r2, h1, h⟩ := bnd_i h
  refine ww_callVi (pc := 1) hC [] hL.1.1 hL.1.2 (by decide) (ceX12_next hL h1) ql_X12_226 qi_X12_next qs_X12_X12_next qn_X12 qc_X12_next rfl ⟨by decide, by decide, rfl⟩ rfl ⟨Nat.le_of_ble_eq_true rfl, Nat.le_of_ble_eq_true rfl⟩ (by decide) (rest := []) (Nat.le_of_ble_eq_true rfl) dX12_takesHead_1 ⟨Nat.le_of_ble_eq_true rfl, Nat.le_of_ble_eq_true rfl⟩ rfl ?_
  rcases Classical.em (r2 = (105 : Int32)) with q3 | q3
  · replace h := ite_t h q3
    refine ww_lookup (pc := 4) hC (off := 36) 40 dX12_takesHead_4 (by decide) (by rw [q3] <;> rfl) (by decide) ?_
    refine ww_aload_n (pc := 40) hC dX12_takesHead_40 0 rfl ?_
    refine ww_getR (pc := 41) hC 12 16 9 hL.1 RX12 (by decide) (by decide) rfl (lay_12_16 hL).1 qf_X12_59 rfl dX12_takesHead_41 ?_
    refine ww_iload_n (pc := 44) hC dX12_takesHead_44 1 rfl ?_
    refine ww_iconst (pc := 45) hC (v := (0 : Int32)) dX12_takesHead_45 (by decide) ?_
    refine ww_iast (pc := 46) hC ((lay_12_16 hL).2) h dX12_takesHead_46 (fun h => ?_)
    obtain ⟨X_4, eX_4⟩ : ∃ q, q = wI X 9 (x1).toNatClampNeg ((0 : Int32)) := ⟨_, rfl⟩
    replace h := nm_i h eX_4
    refine ww_nmX eX_4 ?_
    refine ww_aload_n (pc := 47) hC dX12_takesHead_47 0 rfl ?_
    refine ww_iconst (pc := 48) hC (v := (0 : Int32)) dX12_takesHead_48 (by decide) ?_
    refine ww_iconst (pc := 49) hC (v := (2 : Int32)) dX12_takesHead_49 (by decide) ?_
    obtain ⟨r6, X_7, h5, h⟩ := bnw_i h
    refine ww_callVi (pc := 50) hC [.int ((0 : Int32)), .int ((2 : Int32))] hL.1.1 hL.1.2 (by decide) (ceX12_takesWord hL h5) ql_X12_257 qi_X12_takesWord qs_X12_X12_takesWord qn_X12 qc_X12_takesWord rfl ⟨by decide, by decide, rfl⟩ rfl ⟨Nat.le_of_ble_eq_true rfl, Nat.le_of_ble_eq_true rfl⟩ (by decide) (rest := []) (Nat.le_of_ble_eq_true rfl) dX12_takesHead_50 ⟨Nat.le_of_ble_eq_true rfl, Nat.le_of_ble_eq_true rfl⟩ rfl ?_
    obtain ⟨hb8, h⟩ := gb_i h
    exact ww_zret (pc := 53) hC hr (gb_n hb8) h dX12_takesHead_53
  replace h := ite_f h q3
  rcases Classical.em (r2 = (108 : Int32)) with q9 | q9
  · replace h := ite_t h q9
    refine ww_lookup (pc := 4) hC (off := 50) 54 dX12_takesHead_4 (by decide) (by rw [q9] <;> rfl) (by decide) ?_
    refine ww_aload_n (pc := 54) hC dX12_takesHead_54 0 rfl ?_
    refine ww_getR (pc := 55) hC 12 16 9 hL.1 RX12 (by decide) (by decide) rfl (lay_12_16 hL).1 qf_X12_59 rfl dX12_takesHead_55 ?_
    refine ww_iload_n (pc := 58) hC dX12_takesHead_58 1 rfl ?_
    refine ww_iconst (pc := 59) hC (v := (2 : Int32)) dX12_takesHead_59 (by decide) ?_
    refine ww_iast (pc := 60) hC ((lay_12_16 hL).2) h dX12_takesHead_60 (fun h => ?_)
    obtain ⟨X_10, eX_10⟩ : ∃ q, q = wI X 9 (x1).toNatClampNeg ((2 : Int32)) := ⟨_, rfl⟩
    replace h := nm_i h eX_10
    refine ww_nmX eX_10 ?_
    refine ww_aload_n (pc := 61) hC dX12_takesHead_61 0 rfl ?_
    refine ww_bipush (pc := 62) hC (v := (6 : Int32)) dX12_takesHead_62 (by decide) ?_
    refine ww_iconst (pc := 64) hC (v := (4 : Int32)) dX12_takesHead_64 (by decide) ?_
    obtain ⟨r12, X_13, h11, h⟩ := bnw_i h
    refine ww_callVi (pc := 65) hC [.int ((6 : Int32)), .int ((4 : Int32))] hL.1.1 hL.1.2 (by decide) (ceX12_takesWord hL h11) ql_X12_257 qi_X12_takesWord qs_X12_X12_takesWord qn_X12 qc_X12_takesWord rfl ⟨by decide, by decide, rfl⟩ rfl ⟨Nat.le_of_ble_eq_true rfl, Nat.le_of_ble_eq_true rfl⟩ (by decide) (rest := []) (Nat.le_of_ble_eq_true rfl) dX12_takesHead_65 ⟨Nat.le_of_ble_eq_true rfl, Nat.le_of_ble_eq_true rfl⟩ rfl ?_
    obtain ⟨hb14, h⟩ := gb_i h
    exact ww_zret (pc := 68) hC hr (gb_n hb14) h dX12_takesHead_68
  replace h := ite_f h q9
  rcases Classical.em (r2 = (114 : Int32)) with q15 | q15
  · replace h := ite_t h q15
    refine ww_lookup (pc := 4) hC (off := 65) 69 dX12_takesHead_4 (by decide) (by rw [q15] <;> rfl) (by decide) ?_
    refine ww_aload_n (pc := 69) hC dX12_takesHead_69 0 rfl ?_
    refine ww_getR (pc := 70) hC 12 16 9 hL.1 RX12 (by decide) (by decide) rfl (lay_12_16 hL).1 qf_X12_59 rfl dX12_takesHead_70 ?_
    refine ww_iload_n (pc := 73) hC dX12_takesHead_73 1 rfl ?_
    refine ww_iconst (pc := 74) hC (v := (3 : Int32)) dX12_takesHead_74 (by decide) ?_
    refine ww_iast (pc := 75) hC ((lay_12_16 hL).2) h dX12_takesHead_75 (fun h => ?_)
    obtain ⟨X_16, eX_16⟩ : ∃ q, q = wI X 9 (x1).toNatClampNeg ((3 : Int32)) := ⟨_, rfl⟩
    replace h := nm_i h eX_16
    refine ww_nmX eX_16 ?_
    refine ww_aload_n (pc := 76) hC dX12_takesHead_76 0 rfl ?_
    refine ww_bipush (pc := 77) hC (v := (10 : Int32)) dX12_takesHead_77 (by decide) ?_
    refine ww_iconst (pc := 79) hC (v := (5 : Int32)) dX12_takesHead_79 (by decide) ?_
    obtain ⟨r18, X_19, h17, h⟩ := bnw_i h
    refine ww_callVi (pc := 80) hC [.int ((10 : Int32)), .int ((5 : Int32))] hL.1.1 hL.1.2 (by decide) (ceX12_takesWord hL h17) ql_X12_257 qi_X12_takesWord qs_X12_X12_takesWord qn_X12 qc_X12_takesWord rfl ⟨by decide, by decide, rfl⟩ rfl ⟨Nat.le_of_ble_eq_true rfl, Nat.le_of_ble_eq_true rfl⟩ (by decide) (rest := []) (Nat.le_of_ble_eq_true rfl) dX12_takesHead_80 ⟨Nat.le_of_ble_eq_true rfl, Nat.le_of_ble_eq_true rfl⟩ rfl ?_
    obtain ⟨hb20, h⟩ := gb_i h
    exact ww_zret (pc := 83) hC hr (gb_n hb20) h dX12_takesHead_83
  replace h := ite_f h q15
  refine ww_lookup (pc := 4) hC (off := 80) 84 dX12_takesHead_4 (by decide) ((lv_osw q3 rfl).trans ((lv_osw q9 rfl).trans ((lv_osw q15 rfl).trans rfl))) (by decide) ?_
  refine ww_aload_n (pc := 84) hC dX12_takesHead_84 0 rfl ?_
  refine ww_getR (pc := 85) hC 12 16 9 hL.1 RX12 (by decide) (by decide) rfl (lay_12_16 hL).1 qf_X12_59 rfl dX12_takesHead_85 ?_
  refine ww_iload_n (pc := 88) hC dX12_takesHead_88 1 rfl ?_
  refine ww_aload_n (pc := 89) hC dX12_takesHead_89 0 rfl ?_
  obtain ⟨r22, h21, h⟩ := bnd_i h
  refine ww_callVi (pc := 90) hC [] hL.1.1 hL.1.2 (by decide) (ceX12_second hL h21) ql_X12_261 qi_X12_second qs_X12_X12_second qn_X12 qc_X12_second rfl ⟨by decide, by decide, rfl⟩ rfl ⟨Nat.le_of_ble_eq_true rfl, Nat.le_of_ble_eq_true rfl⟩ (by decide) (rest := [.int x1, .ref (w.1 9)]) (Nat.le_of_ble_eq_true rfl) dX12_takesHead_90 ⟨Nat.le_of_ble_eq_true rfl, Nat.le_of_ble_eq_true rfl⟩ rfl ?_
  refine ww_bipush (pc := 93) hC (v := (116 : Int32)) dX12_takesHead_93 (by decide) ?_
  refine ww_icmp_ne (pc := 95) hC h 102 dX12_takesHead_95 (by decide) (fun h => ?_) (fun h => ?_)
  · refine ww_iconst (pc := 102) hC (v := (1 : Int32)) dX12_takesHead_102 (by decide) ?_
    refine ww_sub [0, 1] rfl ?_
    exact j103 _ _ _ _ h
  · refine ww_iconst (pc := 98) hC (v := (4 : Int32)) dX12_takesHead_98 (by decide) ?_
    refine ww_goto (pc := 99) hC 103 dX12_takesHead_99 (by decide) ?_
    refine ww_sub [0, 1] rfl ?_
    exact j103 _ _ _ _ h
noncomputable def fX12_takesClause (x1 : Int32) (X : XD) : Option (Int32 × XD) := bnw (fX12_takesHead x1 X) (fun r2 X_3 => if r2 = 0 then some ((0 : Int32), X_3) else gin x1 60 (if (X_3.1 9 (x1).toNatClampNeg) ≤ ((1 : Int32)) then bnw (fX12_takesNumber X_3) (fun r5 X_6 => if r5 = 0 then some ((0 : Int32), X_6) else gin x1 60 (nm (wI X_6 10 (x1).toNatClampNeg (X_6.1 0 13)) (fun X_7 => bnw (fX12_takes ((32 : Int32)) X_7) (fun r9 X_10 => if r9 = 0 then some ((0 : Int32), X_10) else bnw (fX12_takesE x1 X_10) (fun r12 X_13 => if r12 = 0 then some ((0 : Int32), X_13) else some ((1 : Int32), X_13)))))) else bnw (fX12_takesE x1 X_3) (fun r15 X_16 => gb r15 (some (r15, X_16)))))
set_option maxHeartbeats 40000000 in
set_option maxRecDepth 100000 in
theorem ceX12_takesClause {l : Launch} {E : XE} {w : XW} {z : Nat} {Z : XS} (hL : LayM Z) {x1 : Int32} {X X1 : XD} {r : Int32} (h : fX12_takesClause x1 X = some (r, X1)) : Ct l E w yX12_takesClause (wsM yX12_takesClause cX12_takesClause 2 (some .boolean)) (rmX 6 0 0) 0 0 [.ref (w.1 0), .int x1] z z Z Z X X1 (some (.int r)) := by
  refine ct_of (by decide) (Nat.le_of_ble_eq_true rfl) ?_
  intro p e s m args below meth c hC hr hin hav
  unfold fX12_takesClause at h
  refine ww_lv (lv' := [(0, .ref (w.1 0)), (1, .int x1)]) rfl ?_
  refine ww_aload_n (pc := 0) hC dX12_takesClause_0 0 rfl ?_
  refine ww_iload_n (pc := 1) hC dX12_takesClause_1 1 rfl ?_
  obtain ⟨r2, X_3, h1, h⟩ := bnw_i h
  refine ww_callVi (pc := 2) hC [.int x1] hL.1.1 hL.1.2 (by decide) (ceX12_takesHead hL h1) ql_X12_264 qi_X12_takesHead qs_X12_X12_takesHead qn_X12 qc_X12_takesHead rfl ⟨by decide, by decide, rfl⟩ rfl ⟨Nat.le_of_ble_eq_true rfl, Nat.le_of_ble_eq_true rfl⟩ (by decide) (rest := []) (Nat.le_of_ble_eq_true rfl) dX12_takesClause_2 ⟨Nat.le_of_ble_eq_true rfl, Nat.le_of_ble_eq_true rfl⟩ rfl ?_
  refine ww_if_ne (pc := 5) hC h 10 dX12_takesClause_5 (by decide) (fun h => ?_) (fun h => ?_)
  · refine ww_aload_n (pc := 10) hC dX12_takesClause_10 0 rfl ?_
    refine ww_getR (pc := 11) hC 12 16 9 hL.1 RX12 (by decide) (by decide) rfl (lay_12_16 hL).1 qf_X12_59 rfl dX12_takesClause_11 ?_
    refine ww_iload_n (pc := 14) hC dX12_takesClause_14 1 rfl ?_
    refine ww_iald (pc := 15) hC ((lay_12_16 hL).2) h dX12_takesClause_15 (fun h => ?_)
    refine ww_iconst (pc := 16) hC (v := (1 : Int32)) dX12_takesClause_16 (by decide) ?_
    refine ww_icmp_le (pc := 17) hC h 26 dX12_takesClause_17 (by decide) (fun h => ?_) (fun h => ?_)
    · refine ww_aload_n (pc := 26) hC dX12_takesClause_26 0 rfl ?_
      obtain ⟨r5, X_6, h4, h⟩ := bnw_i h
      refine ww_callVi (pc := 27) hC [] hL.1.1 hL.1.2 (by decide) (ceX12_takesNumber hL h4) ql_X12_245 qi_X12_takesNumber qs_X12_X12_takesNumber qn_X12 qc_X12_takesNumber rfl ⟨by decide, by decide, rfl⟩ rfl ⟨Nat.le_of_ble_eq_true rfl, Nat.le_of_ble_eq_true rfl⟩ (by decide) (rest := []) (Nat.le_of_ble_eq_true rfl) dX12_takesClause_27 ⟨Nat.le_of_ble_eq_true rfl, Nat.le_of_ble_eq_true rfl⟩ rfl ?_
      refine ww_if_ne (pc := 30) hC h 35 dX12_takesClause_30 (by decide) (fun h => ?_) (fun h => ?_)
      · refine ww_aload_n (pc := 35) hC dX12_takesClause_35 0 rfl ?_
        refine ww_getR (pc := 36) hC 12 17 10 hL.1 RX12 (by decide) (by decide) rfl (lay_12_17 hL).1 qf_X12_62 rfl dX12_takesClause_36 ?_
        refine ww_iload_n (pc := 39) hC dX12_takesClause_39 1 rfl ?_
        refine ww_aload_n (pc := 40) hC dX12_takesClause_40 0 rfl ?_
        refine ww_getI (pc := 41) hC 12 13 hL.1 RX12 (by decide) (by decide) rfl qf_X12_50 (Or.inl rfl) dX12_takesClause_41 ?_
        refine ww_iast (pc := 44) hC ((lay_12_17 hL).2) h dX12_takesClause_44 (fun h => ?_)
        obtain ⟨X_7, eX_7⟩ : ∃ q, q = wI X_6 10 (x1).toNatClampNeg (X_6.1 0 13) := ⟨_, rfl⟩
        replace h := nm_i h eX_7
        refine ww_nmX eX_7 ?_
        refine ww_aload_n (pc := 45) hC dX12_takesClause_45 0 rfl ?_
        refine ww_bipush (pc := 46) hC (v := (32 : Int32)) dX12_takesClause_46 (by decide) ?_
        obtain ⟨r9, X_10, h8, h⟩ := bnw_i h
        refine ww_callVi (pc := 48) hC [.int ((32 : Int32))] hL.1.1 hL.1.2 (by decide) (ceX12_takes hL h8) ql_X12_230 qi_X12_takes qs_X12_X12_takes qn_X12 qc_X12_takes rfl ⟨by decide, by decide, rfl⟩ rfl ⟨Nat.le_of_ble_eq_true rfl, Nat.le_of_ble_eq_true rfl⟩ (by decide) (rest := []) (Nat.le_of_ble_eq_true rfl) dX12_takesClause_48 ⟨Nat.le_of_ble_eq_true rfl, Nat.le_of_ble_eq_true rfl⟩ rfl ?_
        refine ww_if_eq (pc := 51) hC h 66 dX12_takesClause_51 (by decide) (fun h => ?_) (fun h => ?_)
        · refine ww_iconst (pc := 66) hC (v := (0 : Int32)) dX12_takesClause_66 (by decide) ?_
          exact ww_zret (pc := 67) hC hr rfl h dX12_takesClause_67
        · refine ww_aload_n (pc := 54) hC dX12_takesClause_54 0 rfl ?_
          refine ww_iload_n (pc := 55) hC dX12_takesClause_55 1 rfl ?_
          obtain ⟨r12, X_13, h11, h⟩ := bnw_i h
          refine ww_callVi (pc := 56) hC [.int x1] hL.1.1 hL.1.2 (by decide) (ceX12_takesE hL h11) ql_X12_267 qi_X12_takesE qs_X12_X12_takesE qn_X12 qc_X12_takesE rfl ⟨by decide, by decide, rfl⟩ rfl ⟨Nat.le_of_ble_eq_true rfl, Nat.le_of_ble_eq_true rfl⟩ (by decide) (rest := []) (Nat.le_of_ble_eq_true rfl) dX12_takesClause_56 ⟨Nat.le_of_ble_eq_true rfl, Nat.le_of_ble_eq_true rfl⟩ rfl ?_
          refine ww_if_eq (pc := 59) hC h 66 dX12_takesClause_59 (by decide) (fun h => ?_) (fun h => ?_)
          · refine ww_iconst (pc := 66) hC (v := (0 : Int32)) dX12_takesClause_66 (by decide) ?_
            exact ww_zret (pc := 67) hC hr rfl h dX12_takesClause_67
          · refine ww_iconst (pc := 62) hC (v := (1 : Int32)) dX12_takesClause_62 (by decide) ?_
            refine ww_goto (pc := 63) hC 67 dX12_takesClause_63 (by decide) ?_
            exact ww_zret (pc := 67) hC hr rfl h dX12_takesClause_67
      · refine ww_iconst (pc := 33) hC (v := (0 : Int32)) dX12_takesClause_33 (by decide) ?_
        exact ww_zret (pc := 34) hC hr rfl h dX12_takesClause_34
    · refine ww_aload_n (pc := 20) hC dX12_takesClause_20 0 rfl ?_
      refine ww_iload_n (pc := 21) hC dX12_takesClause_21 1 rfl ?_
      obtain ⟨r15, X_16, h14, h⟩ := bnw_i h
      refine ww_callVi (pc := 22) hC [.int x1] hL.1.1 hL.1.2 (by decide) (ceX12_takesE hL h14) ql_X12_267 qi_X12_takesE qs_X12_X12_takesE qn_X12 qc_X12_takesE rfl ⟨by decide, by decide, rfl⟩ rfl ⟨Nat.le_of_ble_eq_true rfl, Nat.le_of_ble_eq_true rfl⟩ (by decide) (rest := []) (Nat.le_of_ble_eq_true rfl) dX12_takesClause_22 ⟨Nat.le_of_ble_eq_true rfl, Nat.le_of_ble_eq_true rfl⟩ rfl ?_
      obtain ⟨hb17, h⟩ := gb_i h
      exact ww_zret (pc := 25) hC hr (gb_n hb17) h dX12_takesClause_25
  · refine ww_iconst (pc := 8) hC (v := (0 : Int32)) dX12_takesClause_8 (by decide) ?_
    exact ww_zret (pc := 9) hC hr rfl h dX12_takesClause_9
noncomputable def fX12_goesText_15 (n : Nat) : Int32 → Int32 → XD → Option (Int32 × XD) := Nat.rec (motive := fun _ => Int32 → Int32 → XD → Option (Int32 × XD)) (fun _ _ _ => none) (fun _ f => fun x1 x2 X => bnw (fX12_takesClause ((((10 : Int32)) * x1) + x2) X) (fun r4 X_5 => if r4 = 0 then some ((0 : Int32), X_5) else nm (x2 + (1 : Int32)) (fun y6 => gin x1 6 (nm (wI X_5 8 (x1).toNatClampNeg y6) (fun X_7 => if (X_7.1 0 12) = (X_7.1 0 11) then some ((1 : Int32), X_7) else if y6 = ((10 : Int32)) then some ((0 : Int32), X_7) else bnw (fX12_takes ((59 : Int32)) X_7) (fun r9 X_10 => if r9 = 0 then some ((0 : Int32), X_10) else f x1 y6 X_10)))))) n
theorem fX12_goesText_15_s (n : Nat) (x1 : Int32) (x2 : Int32) (X : XD) : fX12_goesText_15 (n + 1) x1 x2 X = bnw (fX12_takesClause ((((10 : Int32)) * x1) + x2) X) (fun r4 X_5 => if r4 = 0 then some ((0 : Int32), X_5) else nm (x2 + (1 : Int32)) (fun y6 => gin x1 6 (nm (wI X_5 8 (x1).toNatClampNeg y6) (fun X_7 => if (X_7.1 0 12) = (X_7.1 0 11) then some ((1 : Int32), X_7) else if y6 = ((10 : Int32)) then some ((0 : Int32), X_7) else bnw (fX12_takes ((59 : Int32)) X_7) (fun r9 X_10 => if r9 = 0 then some ((0 : Int32), X_10) else (fX12_goesText_15 n) x1 y6 X_10))))) := rfl
noncomputable def fX12_goesText (x1 : Int32) (X : XD) : Option (Int32 × XD) := nm (wI X 0 12 ((0 : Int32))) (fun X_1 => nm (wI X_1 0 22 (((100 : Int32)) * x1)) (fun X_2 => fX12_goesText_15 FU x1 ((0 : Int32)) X_2))
set_option maxHeartbeats 40000000 in
set_option maxRecDepth 100000 in
theorem ceX12_goesText {l : Launch} {E : XE} {w : XW} {z : Nat} {Z : XS} (hL : LayM Z) {x1 : Int32} {X X1 : XD} {r : Int32} (h : fX12_goesText x1 X = some (r, X1)) : Ct l E w yX12_goesText (wsM yX12_goesText cX12_goesText 3 (some .boolean)) (rmX 7 0 0) 0 0 [.ref (w.1 0), .int x1] z z Z Z X X1 (some (.int r)) := by
  refine ct_of (by decide) (Nat.le_of_ble_eq_true rfl) ?_
  intro p e s m args below meth c hC hr hin hav
  have j15 : ∀ (n : Nat), ∀ (x1 : Int32) (x2 : Int32) (X : XD), fX12_goesText_15 n x1 x2 X = some (r, X1) → WW p l e (rmX 7 0 0) s m args below meth c 3 (MQ below (XQ E w z Z X1 (some (.int r))) args s 0 0 (A0 E)) E w 0 0 z Z 15 [(0, .ref (w.1 0)), (1, .int x1), (2, .int x2)] [] X := by
    intro n
    induction n with
    | zero =>
      intro x1 x2 X h
      cases (show none = some (r, X1) from h)
    | succ n ih =>
      intro x1 x2 X h
      rw [fX12_goesText_15_s] at h
      refine ww_aload_n (pc := 15) hC dX12_goesText_15 0 rfl ?_
      refine ww_bipush (pc := 16) hC (v := (10 : Int32)) dX12_goesText_16 (by decide) ?_
      refine ww_iload_n (pc := 18) hC dX12_goesText_18 1 rfl ?_
      refine ww_imul (pc := 19) hC dX12_goesText_19 ?_
      refine ww_iload_n (pc := 20) hC dX12_goesText_20 2 rfl ?_
      refine ww_iadd (pc := 21) hC dX12_goesText_21 ?_
      obtain ⟨r4, X_5, h3, h⟩ := bnw_i h
      refine ww_callVi (pc := 22) hC [.int ((((10 : Int32)) * x1) + x2)] hL.1.1 hL.1.2 (by decide) (ceX12_takesClause hL h3) ql_X12_270 qi_X12_takesClause qs_X12_X12_takesClause qn_X12 qc_X12_takesClause rfl ⟨by decide, by decide, rfl⟩ rfl ⟨Nat.le_of_ble_eq_true rfl, Nat.le_of_ble_eq_true rfl⟩ (by decide) (rest := []) (Nat.le_of_ble_eq_true rfl) dX12_goesText_22 ⟨Nat.le_of_ble_eq_true rfl, Nat.le_of_ble_eq_true rfl⟩ rfl ?_
      refine ww_if_ne (pc := 25) hC h 30 dX12_goesText_25 (by decide) (fun h => ?_) (fun h => ?_)
      · obtain ⟨y6, ey6⟩ : ∃ q, q = x2 + (1 : Int32) := ⟨_, rfl⟩
        replace h := nm_i h ey6
        refine ww_iinc (pc := 30) hC y6 [(2, .int y6), (0, .ref (w.1 0)), (1, .int x1)] dX12_goesText_30 2 rfl (by rw [ey6]; rfl) (by decide) rfl ?_
        refine ww_aload_n (pc := 33) hC dX12_goesText_33 1 rfl ?_
        refine ww_getR (pc := 34) hC 12 15 8 hL.1 RX12 (by decide) (by decide) rfl (lay_12_15 hL).1 qf_X12_56 rfl dX12_goesText_34 ?_
        refine ww_iload_n (pc := 37) hC dX12_goesText_37 2 rfl ?_
        refine ww_iload_n (pc := 38) hC dX12_goesText_38 0 rfl ?_
        refine ww_iast (pc := 39) hC ((lay_12_15 hL).2) h dX12_goesText_39 (fun h => ?_)
        obtain ⟨X_7, eX_7⟩ : ∃ q, q = wI X_5 8 (x1).toNatClampNeg y6 := ⟨_, rfl⟩
        replace h := nm_i h eX_7
        refine ww_nmX eX_7 ?_
        refine ww_aload_n (pc := 40) hC dX12_goesText_40 1 rfl ?_
        refine ww_getI (pc := 41) hC 12 12 hL.1 RX12 (by decide) (by decide) rfl qf_X12_47 (Or.inl rfl) dX12_goesText_41 ?_
        refine ww_aload_n (pc := 44) hC dX12_goesText_44 1 rfl ?_
        refine ww_getI (pc := 45) hC 12 11 hL.1 RX12 (by decide) (by decide) rfl qf_X12_44 (Or.inl rfl) dX12_goesText_45 ?_
        refine ww_icmp_ne (pc := 48) hC h 53 dX12_goesText_48 (by decide) (fun h => ?_) (fun h => ?_)
        · refine ww_iload_n (pc := 53) hC dX12_goesText_53 0 rfl ?_
          refine ww_bipush (pc := 54) hC (v := (10 : Int32)) dX12_goesText_54 (by decide) ?_
          refine ww_icmp_eq (pc := 56) hC h 68 dX12_goesText_56 (by decide) (fun h => ?_) (fun h => ?_)
          · refine ww_iconst (pc := 68) hC (v := (0 : Int32)) dX12_goesText_68 (by decide) ?_
            exact ww_zret (pc := 69) hC hr rfl h dX12_goesText_69
          · refine ww_aload_n (pc := 59) hC dX12_goesText_59 1 rfl ?_
            refine ww_bipush (pc := 60) hC (v := (59 : Int32)) dX12_goesText_60 (by decide) ?_
            obtain ⟨r9, X_10, h8, h⟩ := bnw_i h
            refine ww_callVi (pc := 62) hC [.int ((59 : Int32))] hL.1.1 hL.1.2 (by decide) (ceX12_takes hL h8) ql_X12_230 qi_X12_takes qs_X12_X12_takes qn_X12 qc_X12_takes rfl ⟨by decide, by decide, rfl⟩ rfl ⟨Nat.le_of_ble_eq_true rfl, Nat.le_of_ble_eq_true rfl⟩ (by decide) (rest := []) (Nat.le_of_ble_eq_true rfl) dX12_goesText_62 ⟨Nat.le_of_ble_eq_true rfl, Nat.le_of_ble_eq_true rfl⟩ rfl ?_
            refine ww_if_ne (pc := 65) hC h 15 dX12_goesText_65 (by decide) (fun h => ?_) (fun h => ?_)
            · refine ww_sub [1, 2, 0] rfl ?_
              exact ih _ _ _ h
            · refine ww_iconst (pc := 68) hC (v := (0 : Int32)) dX12_goesText_68 (by decide) ?_
              exact ww_zret (pc := 69) hC hr rfl h dX12_goesText_69
        · refine ww_iconst (pc := 51) hC (v := (1 : Int32)) dX12_goesText_51 (by decide) ?_
          exact ww_zret (pc := 52) hC hr rfl h dX12_goesText_52
      · refine ww_iconst (pc := 28) hC (v := (0 : Int32)) dX12_goesText_28 (by decide) ?_
        exact ww_zret (pc := 29) hC hr rfl h dX12_goesText_29
  unfold fX12_goesText at h
  refine ww_lv (lv' := [(0, .ref (w.1 0)), (1, .int x1)]) rfl ?_
  refine ww_aload_n (pc := 0) hC dX12_goesText_0 0 rfl ?_
  refine ww_iconst (pc := 1) hC (v := (0 : Int32)) dX12_goesText_1 (by decide) ?_
  refine ww_putI (pc := 2) hC 12 12 hL.1 RX12 (by decide) (by decide) rfl qf_X12_47 rfl rfl rfl rfl dX12_goesText_2 ?_
  obtain ⟨X_1, eX_1⟩ : ∃ q, q = wI X 0 12 ((0 : Int32)) := ⟨_, rfl⟩
  replace h := nm_i h eX_1
  refine ww_nmX eX_1 ?_
  refine ww_aload_n (pc := 5) hC dX12_goesText_5 0 rfl ?_
  refine ww_bipush (pc := 6) hC (v := (100 : Int32)) dX12_goesText_6 (by decide) ?_
  refine ww_iload_n (pc := 8) hC dX12_goesText_8 1 rfl ?_
  refine ww_imul (pc := 9) hC dX12_goesText_9 ?_
  refine ww_putI (pc := 10) hC 12 22 hL.1 RX12 (by decide) (by decide) rfl qf_X12_77 rfl rfl rfl rfl dX12_goesText_10 ?_
  obtain ⟨X_2, eX_2⟩ : ∃ q, q = wI X_1 0 22 (((100 : Int32)) * x1) := ⟨_, rfl⟩
  replace h := nm_i h eX_2
  refine ww_nmX eX_2 ?_
  refine ww_iconst (pc := 13) hC (v := (0 : Int32)) dX12_goesText_13 (by decide) ?_
  refine ww_istore_n (pc := 14) hC [(2, .int ((0 : Int32))), (0, .ref (w.1 0)), (1, .int x1)] dX12_goesText_14 rfl (by decide) rfl ?_
  refine ww_sub [1, 2, 0] rfl ?_
  exact j15 _ _ _ _ h
noncomputable def fX12_ground (X : XD) : Option (Int32 × XD) := if (X.1 0 9) = ((6 : Int32)) then some ((-4 : Int32), X) else bnw (fX12_goesText (X.1 0 9) X) (fun r2 X_3 => nm (wI X_3 0 11 ((0 : Int32))) (fun X_4 => if r2 = 0 then some (((-10 : Int32)) - (X_4.1 0 12), X_4) else nm (wI X_4 0 10 (X_4.1 0 9)) (fun X_5 => nm (wI X_5 0 9 ((X_5.1 0 9) + ((1 : Int32)))) (fun X_6 => some (X_6.1 0 10, X_6)))))
set_option maxHeartbeats 40000000 in
set_option maxRecDepth 100000 in
theorem ceX12_ground {l : Launch} {E : XE} {w : XW} {z : Nat} {Z : XS} (hL : LayM Z) {X X1 : XD} {r : Int32} (h : fX12_ground X = some (r, X1)) : Ct l E w yX12_ground (wsM yX12_ground cX12_ground 2 (some .int)) (rmX 8 0 0) 0 0 [.ref (w.1 0)] z z Z Z X X1 (some (.int r)) := by
  refine ct_of (by decide) (Nat.le_of_ble_eq_true rfl) ?_
  intro p e s m args below meth c hC hr hin hav
  unfold fX12_ground at h
  refine ww_lv (lv' := [(0, .ref (w.1 0))]) rfl ?_
  refine ww_aload_n (pc := 0) hC dX12_ground_0 0 rfl ?_
  refine ww_getI (pc := 1) hC 12 9 hL.1 RX12 (by decide) (by decide) rfl qf_X12_38 (Or.inl rfl) dX12_ground_1 ?_
  refine ww_bipush (pc := 4) hC (v := (6 : Int32)) dX12_ground_4 (by decide) ?_
  refine ww_icmp_ne (pc := 6) hC h 12 dX12_ground_6 (by decide) (fun h => ?_) (fun h => ?_)
  · refine ww_aload_n (pc := 12) hC dX12_ground_12 0 rfl ?_
    refine ww_aload_n (pc := 13) hC dX12_ground_13 0 rfl ?_
    refine ww_getI (pc := 14) hC 12 9 hL.1 RX12 (by decide) (by decide) rfl qf_X12_38 (Or.inl rfl) dX12_ground_14 ?_
    obtain ⟨r2, X_3, h1, h⟩ := bnw_i h
    refine ww_callVi (pc := 17) hC [.int (X.1 0 9)] hL.1.1 hL.1.2 (by decide) (ceX12_goesText hL h1) ql_X12_273 qi_X12_goesText qs_X12_X12_goesText qn_X12 qc_X12_goesText rfl ⟨by decide, by decide, rfl⟩ rfl ⟨Nat.le_of_ble_eq_true rfl, Nat.le_of_ble_eq_true rfl⟩ (by decide) (rest := []) (Nat.le_of_ble_eq_true rfl) dX12_ground_17 ⟨Nat.le_of_ble_eq_true rfl, Nat.le_of_ble_eq_true rfl⟩ rfl ?_
    refine ww_istore_n (pc := 20) hC [(1, .int r2), (0, .ref (w.1 0))] dX12_ground_20 rfl (by decide) rfl ?_
    refine ww_aload_n (pc := 21) hC dX12_ground_21 1 rfl ?_
    refine ww_iconst (pc := 22) hC (v := (0 : Int32)) dX12_ground_22 (by decide) ?_
    refine ww_putI (pc := 23) hC 12 11 hL.1 RX12 (by decide) (by decide) rfl qf_X12_44 rfl rfl rfl rfl dX12_ground_23 ?_
    obtain ⟨X_4, eX_4⟩ : ∃ q, q = wI X_3 0 11 ((0 : Int32)) := ⟨_, rfl⟩
    replace h := nm_i h eX_4
    refine ww_nmX eX_4 ?_
    refine ww_iload_n (pc := 26) hC dX12_ground_26 0 rfl ?_
    refine ww_if_ne (pc := 27) hC h 38 dX12_ground_27 (by decide) (fun h => ?_) (fun h => ?_)
    · refine ww_aload_n (pc := 38) hC dX12_ground_38 1 rfl ?_
      refine ww_aload_n (pc := 39) hC dX12_ground_39 1 rfl ?_
      refine ww_getI (pc := 40) hC 12 9 hL.1 RX12 (by decide) (by decide) rfl qf_X12_38 (Or.inl rfl) dX12_ground_40 ?_
      refine ww_putI (pc := 43) hC 12 10 hL.1 RX12 (by decide) (by decide) rfl qf_X12_41 rfl rfl rfl rfl dX12_ground_43 ?_
      obtain ⟨X_5, eX_5⟩ : ∃ q, q = wI X_4 0 10 (X_4.1 0 9) := ⟨_, rfl⟩
      replace h := nm_i h eX_5
      refine ww_nmX eX_5 ?_
      refine ww_aload_n (pc := 46) hC dX12_ground_46 1 rfl ?_
      refine ww_dup (pc := 47) hC dX12_ground_47 rfl ?_
      refine ww_getI (pc := 48) hC 12 9 hL.1 RX12 (by decide) (by decide) rfl qf_X12_38 (Or.inl rfl) dX12_ground_48 ?_
      refine ww_iconst (pc := 51) hC (v := (1 : Int32)) dX12_ground_51 (by decide) ?_
      refine ww_iadd (pc := 52) hC dX12_ground_52 ?_
      refine ww_putI (pc := 53) hC 12 9 hL.1 RX12 (by decide) (by decide) rfl qf_X12_38 rfl rfl rfl rfl dX12_ground_53 ?_
      obtain ⟨X_6, eX_6⟩ : ∃ q, q = wI X_5 0 9 ((X_5.1 0 9) + ((1 : Int32))) := ⟨_, rfl⟩
      replace h := nm_i h eX_6
      refine ww_nmX eX_6 ?_
      refine ww_aload_n (pc := 56) hC dX12_ground_56 1 rfl ?_
      refine ww_getI (pc := 57) hC 12 10 hL.1 RX12 (by decide) (by decide) rfl qf_X12_41 (Or.inl rfl) dX12_ground_57 ?_
      exact ww_iret (pc := 60) hC hr h dX12_ground_60
    · refine ww_bipush (pc := 30) hC (v := (-10 : Int32)) dX12_ground_30 (by decide) ?_
      refine ww_aload_n (pc := 32) hC dX12_ground_32 1 rfl ?_
      refine ww_getI (pc := 33) hC 12 12 hL.1 RX12 (by decide) (by decide) rfl qf_X12_47 (Or.inl rfl) dX12_ground_33 ?_
      refine ww_isub (pc := 36) hC dX12_ground_36 ?_
      exact ww_iret (pc := 37) hC hr h dX12_ground_37
  · refine ww_bipush (pc := 9) hC (v := (-4 : Int32)) dX12_ground_9 (by decide) ?_
    exact ww_iret (pc := 11) hC hr h dX12_ground_11
noncomputable def fX12_begin (X : XD) : Option Int32 := if 0 ≤ (X.1 0 10) then some (((10 : Int32)) * (X.1 0 10)) else some ((0 : Int32))
set_option maxHeartbeats 40000000 in
set_option maxRecDepth 100000 in
theorem ceX12_begin {l : Launch} {E : XE} {w : XW} {z : Nat} {Z : XS} (hL : LayM Z) {X : XD} {r : Int32} (h : fX12_begin X = some r) : Ct l E w yX12_begin (wsM yX12_begin cX12_begin 1 (some .int)) (rmX 1 0 0) 0 0 [.ref (w.1 0)] z z Z Z X X (some (.int r)) := by
  refine ct_of (by decide) (Nat.le_of_ble_eq_true rfl) ?_
  intro p e s m args below meth c hC hr hin hav
  unfold fX12_begin at h
  refine ww_lv (lv' := [(0, .ref (w.1 0))]) rfl ?_
  refine ww_aload_n (pc := 0) hC dX12_begin_0 0 rfl ?_
  refine ww_getI (pc := 1) hC 12 10 hL.1 RX12 (by decide) (by decide) rfl qf_X12_41 (Or.inl rfl) dX12_begin_1 ?_
  refine ww_if_ge (pc := 4) hC h 11 dX12_begin_4 (by decide) (fun h => ?_) (fun h => ?_)
  · refine ww_bipush (pc := 11) hC (v := (10 : Int32)) dX12_begin_11 (by decide) ?_
    refine ww_aload_n (pc := 13) hC dX12_begin_13 0 rfl ?_
    refine ww_getI (pc := 14) hC 12 10 hL.1 RX12 (by decide) (by decide) rfl qf_X12_41 (Or.inl rfl) dX12_begin_14 ?_
    refine ww_imul (pc := 17) hC dX12_begin_17 ?_
    exact ww_iret (pc := 18) hC hr (ret_r h) dX12_begin_18
  · refine ww_iconst (pc := 7) hC (v := (0 : Int32)) dX12_begin_7 (by decide) ?_
    refine ww_goto (pc := 8) hC 18 dX12_begin_8 (by decide) ?_
    exact ww_iret (pc := 18) hC hr (ret_r h) dX12_begin_18
noncomputable def fX12_behind (X : XD) : Option Int32 := if 0 ≤ (X.1 0 10) then gin (X.1 0 10) 6 (some ((((10 : Int32)) * (X.1 0 10)) + (X.1 8 (X.1 0 10).toNatClampNeg))) else some ((0 : Int32))
set_option maxHeartbeats 40000000 in
set_option maxRecDepth 100000 in
theorem ceX12_behind {l : Launch} {E : XE} {w : XW} {z : Nat} {Z : XS} (hL : LayM Z) {X : XD} {r : Int32} (h : fX12_behind X = some r) : Ct l E w yX12_behind (wsM yX12_behind cX12_behind 1 (some .int)) (rmX 1 0 0) 0 0 [.ref (w.1 0)] z z Z Z X X (some (.int r)) := by
  refine ct_of (by decide) (Nat.le_of_ble_eq_true rfl) ?_
  intro p e s m args below meth c hC hr hin hav
  unfold fX12_behind at h
  refine ww_lv (lv' := [(0, .ref (w.1 0))]) rfl ?_
  refine ww_aload_n (pc := 0) hC dX12_behind_0 0 rfl ?_
  refine ww_getI (pc := 1) hC 12 10 hL.1 RX12 (by decide) (by decide) rfl qf_X12_41 (Or.inl rfl) dX12_behind_1 ?_
  refine ww_if_ge (pc := 4) hC h 11 dX12_behind_4 (by decide) (fun h => ?_) (fun h => ?_)
  · refine ww_bipush (pc := 11) hC (v := (10 : Int32)) dX12_behind_11 (by decide) ?_
    refine ww_aload_n (pc := 13) hC dX12_behind_13 0 rfl ?_
    refine ww_getI (pc := 14) hC 12 10 hL.1 RX12 (by decide) (by decide) rfl qf_X12_41 (Or.inl rfl) dX12_behind_14 ?_
    refine ww_imul (pc := 17) hC dX12_behind_17 ?_
    refine ww_aload_n (pc := 18) hC dX12_behind_18 0 rfl ?_
    refine ww_getR (pc := 19) hC 12 15 8 hL.1 RX12 (by decide) (by decide) rfl (lay_12_15 hL).1 qf_X12_56 rfl dX12_behind_19 ?_
    refine ww_aload_n (pc := 22) hC dX12_behind_22 0 rfl ?_
    refine ww_getI (pc := 23) hC 12 10 hL.1 RX12 (by decide) (by decide) rfl qf_X12_41 (Or.inl rfl) dX12_behind_23 ?_
    refine ww_iald (pc := 26) hC ((lay_12_15 hL).2) h dX12_behind_26 (fun h => ?_)
    refine ww_iadd (pc := 27) hC dX12_behind_27 ?_
    exact ww_iret (pc := 28) hC hr (ret_r h) dX12_behind_28
  · refine ww_iconst (pc := 7) hC (v := (0 : Int32)) dX12_behind_7 (by decide) ?_
    refine ww_goto (pc := 8) hC 28 dX12_behind_8 (by decide) ?_
    exact ww_iret (pc := 28) hC hr (ret_r h) dX12_behind_28
noncomputable def fX12_factOf (x1 : Int32) (x2 : Int32) (x3 : Int32) (X : XD) : Option Int32 := if x1 = (0 : Int32) then some x2 else (if x1 = (1 : Int32) then gin x2 6 (some (X.1 1 (x2).toNatClampNeg)) else (if x1 = (2 : Int32) then some x3 else (if x1 = (3 : Int32) then gin x2 6 (some ((X.1 4 (x2).toNatClampNeg) - (X.1 4 (x2).toNatClampNeg) / ((10 : Int32)) * ((10 : Int32)))) else (if x1 = (4 : Int32) then some ((X.1 0 2) - (X.1 0 2) / ((10 : Int32)) * ((10 : Int32))) else (some ((X.1 0 1) - (X.1 0 1) / ((10 : Int32)) * ((10 : Int32))))))))
set_option maxHeartbeats 40000000 in
set_option maxRecDepth 100000 in
theorem ceX12_factOf {l : Launch} {E : XE} {w : XW} {z : Nat} {Z : XS} (hL : LayM Z) {x1 : Int32} {x2 : Int32} {x3 : Int32} {X : XD} {r : Int32} (h : fX12_factOf x1 x2 x3 X = some r) : Ct l E w yX12_factOf (wsM yX12_factOf cX12_factOf 4 (some .int)) (rmX 1 0 0) 0 0 [.ref (w.1 0), .int x1, .int x2, .int x3] z z Z Z X X (some (.int r)) := by
  refine ct_of (by decide) (Nat.le_of_ble_eq_true rfl) ?_
  intro p e s m args below meth c hC hr hin hav
  unfold fX12_factOf at h
  refine ww_lv (lv' := [(0, .ref (w.1 0)), (1, .int x1), (2, .int x2), (3, .int x3)]) rfl ?_
  refine ww_iload_n (pc := 0) hC dX12_factOf_0 1 rfl ?_
  rcases Classical.em (x1 = (0 : Int32)) with q1 | q1
  · replace h := ite_t h q1
    refine ww_tableIn (pc := 1) hC 36 dX12_factOf_1 (0 : Int32) q1 (by decide) (by decide) rfl (by decide) ?_
    refine ww_iload_n (pc := 36) hC dX12_factOf_36 2 rfl ?_
    exact ww_iret (pc := 37) hC hr (ret_r h) dX12_factOf_37
  replace h := ite_f h q1
  rcases Classical.em (x1 = (1 : Int32)) with q2 | q2
  · replace h := ite_t h q2
    refine ww_tableIn (pc := 1) hC 38 dX12_factOf_1 (1 : Int32) q2 (by decide) (by decide) rfl (by decide) ?_
    refine ww_aload_n (pc := 38) hC dX12_factOf_38 0 rfl ?_
    refine ww_getR (pc := 39) hC 12 3 1 hL.1 RX12 (by decide) (by decide) rfl (lay_12_3 hL).1 qf_X12_19 rfl dX12_factOf_39 ?_
    refine ww_iload_n (pc := 42) hC dX12_factOf_42 2 rfl ?_
    refine ww_iald (pc := 43) hC ((lay_12_3 hL).2) h dX12_factOf_43 (fun h => ?_)
    exact ww_iret (pc := 44) hC hr (ret_r h) dX12_factOf_44
  replace h := ite_f h q2
  rcases Classical.em (x1 = (2 : Int32)) with q3 | q3
  · replace h := ite_t h q3
    refine ww_tableIn (pc := 1) hC 45 dX12_factOf_1 (2 : Int32) q3 (by decide) (by decide) rfl (by decide) ?_
    refine ww_iload_n (pc := 45) hC dX12_factOf_45 3 rfl ?_
    exact ww_iret (pc := 46) hC hr (ret_r h) dX12_factOf_46
  replace h := ite_f h q3
  rcases Classical.em (x1 = (3 : Int32)) with q4 | q4
  · replace h := ite_t h q4
    refine ww_tableIn (pc := 1) hC 47 dX12_factOf_1 (3 : Int32) q4 (by decide) (by decide) rfl (by decide) ?_
    refine ww_aload_n (pc := 47) hC dX12_factOf_47 0 rfl ?_
    refine ww_getR (pc := 48) hC 12 6 4 hL.1 RX12 (by decide) (by decide) rfl (lay_12_6 hL).1 qf_X12_29 rfl dX12_factOf_48 ?_
    refine ww_iload_n (pc := 51) hC dX12_factOf_51 2 rfl ?_
    refine ww_iald (pc := 52) hC ((lay_12_6 hL).2) h dX12_factOf_52 (fun h => ?_)
    refine ww_bipush (pc := 53) hC (v := (10 : Int32)) dX12_factOf_53 (by decide) ?_
    refine ww_irem (pc := 55) hC dX12_factOf_55 (by decide) ?_
    exact ww_iret (pc := 56) hC hr (ret_r h) dX12_factOf_56
  replace h := ite_f h q4
  rcases Classical.em (x1 = (4 : Int32)) with q5 | q5
  · replace h := ite_t h q5
    refine ww_tableIn (pc := 1) hC 57 dX12_factOf_1 (4 : Int32) q5 (by decide) (by decide) rfl (by decide) ?_
    refine ww_aload_n (pc := 57) hC dX12_factOf_57 0 rfl ?_
    refine ww_getI (pc := 58) hC 12 2 hL.1 RX12 (by decide) (by decide) rfl qf_X12_16 (Or.inl rfl) dX12_factOf_58 ?_
    refine ww_bipush (pc := 61) hC (v := (10 : Int32)) dX12_factOf_61 (by decide) ?_
    refine ww_irem (pc := 63) hC dX12_factOf_63 (by decide) ?_
    exact ww_iret (pc := 64) hC hr (ret_r h) dX12_factOf_64
  replace h := ite_f h q5
  refine ww_tableOut (pc := 1) hC 65 dX12_factOf_1 (sw_out (fun k h1 h2 => by rcases (show k = 0 ∨ k = 1 ∨ k = 2 ∨ k = 3 ∨ k = 4 by omega) with rfl | rfl | rfl | rfl | rfl; exact q1; exact q2; exact q3; exact q4; exact q5)) (by decide) ?_
  refine ww_aload_n (pc := 65) hC dX12_factOf_65 0 rfl ?_
  refine ww_getI (pc := 66) hC 12 1 hL.1 RX12 (by decide) (by decide) rfl qf_X12_13 (Or.inl rfl) dX12_factOf_66 ?_
  refine ww_bipush (pc := 69) hC (v := (10 : Int32)) dX12_factOf_69 (by decide) ?_
  refine ww_irem (pc := 71) hC dX12_factOf_71 (by decide) ?_
  exact ww_iret (pc := 72) hC hr (ret_r h) dX12_factOf_72
noncomputable def fX12_holds_247 (k11 : Int32 → Int32 → Int32 → Int32 → Int32 → XD → Option (Int32 × XD)) (x1 : Int32) (x2 : Int32) (x3 : Int32) (x4 : Int32) (x5 : Int32) (X : XD) : Option (Int32 × XD) := nm (x5 + (1 : Int32)) (fun y15 => k11 x1 x2 x3 x4 y15 X)
noncomputable def fX12_holds_63 (k11 : Int32 → Int32 → Int32 → Int32 → Int32 → XD → Option (Int32 × XD)) (x1 : Int32) (x2 : Int32) (x3 : Int32) (x4 : Int32) (x5 : Int32) (s0 : Int32) (s1 : Int32) (X : XD) : Option (Int32 × XD) := gb s0 (gin s1 100 (nm (wI X 16 (s1).toNatClampNeg s0) (fun X_14 => fX12_holds_247 k11 x1 x2 x3 x4 x5 X_14)))
noncomputable def fX12_holds_147 (k11 : Int32 → Int32 → Int32 → Int32 → Int32 → XD → Option (Int32 × XD)) (x1 : Int32) (x2 : Int32) (x3 : Int32) (x4 : Int32) (x5 : Int32) (s0 : Int32) (s1 : Int32) (X : XD) : Option (Int32 × XD) := gb s0 (gin s1 100 (nm (wI X 16 (s1).toNatClampNeg s0) (fun X_12 => fX12_holds_247 k11 x1 x2 x3 x4 x5 X_12)))
noncomputable def fX12_holds_116 (k11 : Int32 → Int32 → Int32 → Int32 → Int32 → XD → Option (Int32 × XD)) (x1 : Int32) (x2 : Int32) (x3 : Int32) (x4 : Int32) (x5 : Int32) (s0 : Int32) (X : XD) : Option (Int32 × XD) := fX12_holds_147 k11 x1 x2 x3 x4 x5 ((0 : Int32)) s0 X
noncomputable def fX12_holds_142 (k11 : Int32 → Int32 → Int32 → Int32 → Int32 → XD → Option (Int32 × XD)) (x1 : Int32) (x2 : Int32) (x3 : Int32) (x4 : Int32) (x5 : Int32) (s0 : Int32) (X : XD) : Option (Int32 × XD) := fX12_holds_147 k11 x1 x2 x3 x4 x5 ((1 : Int32)) s0 X
noncomputable def fX12_holds_243 (k11 : Int32 → Int32 → Int32 → Int32 → Int32 → XD → Option (Int32 × XD)) (x1 : Int32) (x2 : Int32) (x3 : Int32) (x4 : Int32) (x5 : Int32) (s0 : Int32) (s1 : Int32) (X : XD) : Option (Int32 × XD) := gb s0 (gin s1 100 (nm (wI X 16 (s1).toNatClampNeg s0) (fun X_9 => nm (x4 + (1 : Int32)) (fun y10 => fX12_holds_247 k11 x1 x2 x3 y10 x5 X_9))))
noncomputable def fX12_holds_11 (n : Nat) : Int32 → Int32 → Int32 → Int32 → Int32 → XD → Option (Int32 × XD) := Nat.rec (motive := fun _ => Int32 → Int32 → Int32 → Int32 → Int32 → XD → Option (Int32 × XD)) (fun _ _ _ _ _ _ => none) (fun _ f => fun x1 x2 x3 x4 x5 X => gin x1 60 (if (X.1 12 (x1).toNatClampNeg) ≤ x5 then gin ((0 : Int32)) 100 (gb (X.1 16 ((0 : Int32)).toNatClampNeg) (some (X.1 16 ((0 : Int32)).toNatClampNeg, X))) else gin x5 600 (nm (X.1 13 (x5).toNatClampNeg) (fun y3 => if y3 = ((-33 : Int32)) then gin (x4 - ((1 : Int32))) 100 (if (X.1 16 (x4 - ((1 : Int32))).toNatClampNeg) = 0 then fX12_holds_63 (f) x1 x2 x3 x4 x5 ((1 : Int32)) (x4 - ((1 : Int32))) X else fX12_holds_63 (f) x1 x2 x3 x4 x5 ((0 : Int32)) (x4 - ((1 : Int32))) X) else if 0 ≤ y3 then bnd (fX12_factOf (y3 / ((1000 : Int32))) x2 x3 X) (fun r5 => nm ((y3 / ((100 : Int32))) - (y3 / ((100 : Int32))) / ((10 : Int32)) * ((10 : Int32))) (fun y6 => if y6 = 0 then if (y3 - y3 / ((100 : Int32)) * ((100 : Int32))) ≤ r5 then fX12_holds_243 (f) x1 x2 x3 x4 x5 ((0 : Int32)) x4 X else fX12_holds_243 (f) x1 x2 x3 x4 x5 ((1 : Int32)) x4 X else if y6 = ((1 : Int32)) then if r5 = (y3 - y3 / ((100 : Int32)) * ((100 : Int32))) then fX12_holds_243 (f) x1 x2 x3 x4 x5 ((1 : Int32)) x4 X else fX12_holds_243 (f) x1 x2 x3 x4 x5 ((0 : Int32)) x4 X else if r5 ≤ (y3 - y3 / ((100 : Int32)) * ((100 : Int32))) then fX12_holds_243 (f) x1 x2 x3 x4 x5 ((0 : Int32)) x4 X else fX12_holds_243 (f) x1 x2 x3 x4 x5 ((1 : Int32)) x4 X)) else nm (x4 + (-1 : Int32)) (fun y7 => if y3 = ((-38 : Int32)) then gin (y7 - ((1 : Int32))) 100 (if (X.1 16 (y7 - ((1 : Int32))).toNatClampNeg) = 0 then fX12_holds_116 (f) x1 x2 x3 y7 x5 (y7 - ((1 : Int32))) X else gin y7 100 (if (X.1 16 (y7).toNatClampNeg) = 0 then fX12_holds_116 (f) x1 x2 x3 y7 x5 (y7 - ((1 : Int32))) X else fX12_holds_147 (f) x1 x2 x3 y7 x5 ((1 : Int32)) (y7 - ((1 : Int32))) X)) else gin (y7 - ((1 : Int32))) 100 (if (X.1 16 (y7 - ((1 : Int32))).toNatClampNeg) = 0 then gin y7 100 (if (X.1 16 (y7).toNatClampNeg) = 0 then fX12_holds_147 (f) x1 x2 x3 y7 x5 ((0 : Int32)) (y7 - ((1 : Int32))) X else fX12_holds_142 (f) x1 x2 x3 y7 x5 (y7 - ((1 : Int32))) X) else fX12_holds_142 (f) x1 x2 x3 y7 x5 (y7 - ((1 : Int32))) X)))))) n
theorem fX12_holds_11_s (n : Nat) (x1 : Int32) (x2 : Int32) (x3 : Int32) (x4 : Int32) (x5 : Int32) (X : XD) : fX12_holds_11 (n + 1) x1 x2 x3 x4 x5 X = gin x1 60 (if (X.1 12 (x1).toNatClampNeg) ≤ x5 then gin ((0 : Int32)) 100 (gb (X.1 16 ((0 : Int32)).toNatClampNeg) (some (X.1 16 ((0 : Int32)).toNatClampNeg, X))) else gin x5 600 (nm (X.1 13 (x5).toNatClampNeg) (fun y3 => if y3 = ((-33 : Int32)) then gin (x4 - ((1 : Int32))) 100 (if (X.1 16 (x4 - ((1 : Int32))).toNatClampNeg) = 0 then fX12_holds_63 ((fX12_holds_11 n)) x1 x2 x3 x4 x5 ((1 : Int32)) (x4 - ((1 : Int32))) X else fX12_holds_63 ((fX12_holds_11 n)) x1 x2 x3 x4 x5 ((0 : Int32)) (x4 - ((1 : Int32))) X) else if 0 ≤ y3 then bnd (fX12_factOf (y3 / ((1000 : Int32))) x2 x3 X) (fun r5 => nm ((y3 / ((100 : Int32))) - (y3 / ((100 : Int32))) / ((10 : Int32)) * ((10 : Int32))) (fun y6 => if y6 = 0 then if (y3 - y3 / ((100 : Int32)) * ((100 : Int32))) ≤ r5 then fX12_holds_243 ((fX12_holds_11 n)) x1 x2 x3 x4 x5 ((0 : Int32)) x4 X else fX12_holds_243 ((fX12_holds_11 n)) x1 x2 x3 x4 x5 ((1 : Int32)) x4 X else if y6 = ((1 : Int32)) then if r5 = (y3 - y3 / ((100 : Int32)) * ((100 : Int32))) then fX12_holds_243 ((fX12_holds_11 n)) x1 x2 x3 x4 x5 ((1 : Int32)) x4 X else fX12_holds_243 ((fX12_holds_11 n)) x1 x2 x3 x4 x5 ((0 : Int32)) x4 X else if r5 ≤ (y3 - y3 / ((100 : Int32)) * ((100 : Int32))) then fX12_holds_243 ((fX12_holds_11 n)) x1 x2 x3 x4 x5 ((0 : Int32)) x4 X else fX12_holds_243 ((fX12_holds_11 n)) x1 x2 x3 x4 x5 ((1 : Int32)) x4 X)) else nm (x4 + (-1 : Int32)) (fun y7 => if y3 = ((-38 : Int32)) then gin (y7 - ((1 : Int32))) 100 (if (X.1 16 (y7 - ((1 : Int32))).toNatClampNeg) = 0 then fX12_holds_116 ((fX12_holds_11 n)) x1 x2 x3 y7 x5 (y7 - ((1 : Int32))) X else gin y7 100 (if (X.1 16 (y7).toNatClampNeg) = 0 then fX12_holds_116 ((fX12_holds_11 n)) x1 x2 x3 y7 x5 (y7 - ((1 : Int32))) X else fX12_holds_147 ((fX12_holds_11 n)) x1 x2 x3 y7 x5 ((1 : Int32)) (y7 - ((1 : Int32))) X)) else gin (y7 - ((1 : Int32))) 100 (if (X.1 16 (y7 - ((1 : Int32))).toNatClampNeg) = 0 then gin y7 100 (if (X.1 16 (y7).toNatClampNeg) = 0 then fX12_holds_147 ((fX12_holds_11 n)) x1 x2 x3 y7 x5 ((0 : Int32)) (y7 - ((1 : Int32))) X else fX12_holds_142 ((fX12_holds_11 n)) x1 x2 x3 y7 x5 (y7 - ((1 : Int32))) X) else fX12_holds_142 ((fX12_holds_11 n)) x1 x2 x3 y7 x5 (y7 - ((1 : Int32))) X))))) := rfl
noncomputable def fX12_holds (x1 : Int32) (x2 : Int32) (x3 : Int32) (X : XD) : Option (Int32 × XD) := gin x1 60 (nm (X.1 11 (x1).toNatClampNeg) (fun y1 => fX12_holds_11 FU x1 x2 x3 ((0 : Int32)) y1 X))
set_option maxHeartbeats 40000000 in
set_option maxRecDepth 100000 in
theorem ceX12_holds {l : Launch} {E : XE} {w : XW} {z : Nat} {Z : XS} (hL : LayM Z) {x1 : Int32} {x2 : Int32} {x3 : Int32} {X X1 : XD} {r : Int32} (h : fX12_holds x1 x2 x3 X = some (r, X1)) : Ct l E w yX12_holds (wsM yX12_holds cX12_holds 9 (some .boolean)) (rmX 2 0 0) 0 0 [.ref (w.1 0), .int x1, .int x2, .int x3] z z Z Z X X1 (some (.int r)) := by
  refine ct_of (by decide) (Nat.le_of_ble_eq_true rfl) ?_
  intro p e s m args below meth c hC hr hin hav
  have j247 : ∀ (k11 : Int32 → Int32 → Int32 → Int32 → Int32 → XD → Option (Int32 × XD)) (hk11 : ∀ (x1 : Int32) (x2 : Int32) (x3 : Int32) (x4 : Int32) (x5 : Int32) (X : XD), k11 x1 x2 x3 x4 x5 X = some (r, X1) → WW p l e (rmX 2 0 0) s m args below meth c 9 (MQ below (XQ E w z Z X1 (some (.int r))) args s 0 0 (A0 E)) E w 0 0 z Z 11 [(0, .ref (w.1 0)), (1, .int x1), (2, .int x2), (3, .int x3), (4, .int x4), (5, .int x5)] [] X), ∀ (x1 : Int32) (x2 : Int32) (x3 : Int32) (x4 : Int32) (x5 : Int32) (X : XD), fX12_holds_247 k11 x1 x2 x3 x4 x5 X = some (r, X1) → WW p l e (rmX 2 0 0) s m args below meth c 9 (MQ below (XQ E w z Z X1 (some (.int r))) args s 0 0 (A0 E)) E w 0 0 z Z 247 [(0, .ref (w.1 0)), (1, .int x1), (2, .int x2), (3, .int x3), (4, .int x4), (5, .int x5)] [] X := by
    intro k11 hk11 x1 x2 x3 x4 x5 X h
    unfold fX12_holds_247 at h
    obtain ⟨y15, ey15⟩ : ∃ q, q = x5 + (1 : Int32) := ⟨_, rfl⟩
    replace h := nm_i h ey15
    refine ww_iinc (pc := 247) hC y15 [(5, .int y15), (0, .ref (w.1 0)), (1, .int x1), (2, .int x2), (3, .int x3), (4, .int x4)] dX12_holds_247 5 rfl (by rw [ey15]; rfl) (by decide) rfl ?_
    refine ww_goto (pc := 250) hC 11 dX12_holds_250 (by decide) ?_
    refine ww_sub [1, 2, 3, 4, 5, 0] rfl ?_
    exact hk11 _ _ _ _ _ _ h
  have j63 : ∀ (k11 : Int32 → Int32 → Int32 → Int32 → Int32 → XD → Option (Int32 × XD)) (hk11 : ∀ (x1 : Int32) (x2 : Int32) (x3 : Int32) (x4 : Int32) (x5 : Int32) (X : XD), k11 x1 x2 x3 x4 x5 X = some (r, X1) → WW p l e (rmX 2 0 0) s m args below meth c 9 (MQ below (XQ E w z Z X1 (some (.int r))) args s 0 0 (A0 E)) E w 0 0 z Z 11 [(0, .ref (w.1 0)), (1, .int x1), (2, .int x2), (3, .int x3), (4, .int x4), (5, .int x5)] [] X), ∀ (x1 : Int32) (x2 : Int32) (x3 : Int32) (x4 : Int32) (x5 : Int32) (s0 : Int32) (s1 : Int32) (X : XD), fX12_holds_63 k11 x1 x2 x3 x4 x5 s0 s1 X = some (r, X1) → WW p l e (rmX 2 0 0) s m args below meth c 9 (MQ below (XQ E w z Z X1 (some (.int r))) args s 0 0 (A0 E)) E w 0 0 z Z 63 [(0, .ref (w.1 0)), (1, .int x1), (2, .int x2), (3, .int x3), (4, .int x4), (5, .int x5)] [.int s0, .int s1, .ref (w.1 16)] X := by
    intro k11 hk11 x1 x2 x3 x4 x5 s0 s1 X h
    unfold fX12_holds_63 at h
    obtain ⟨hb13, h⟩ := gb_i h
    refine ww_zast (pc := 63) hC ((lay_12_26 hL).2) hb13 h dX12_holds_63 (fun h => ?_)
    obtain ⟨X_14, eX_14⟩ : ∃ q, q = wI X 16 (s1).toNatClampNeg s0 := ⟨_, rfl⟩
    replace h := nm_i h eX_14
    refine ww_nmX eX_14 ?_
    refine ww_goto (pc := 64) hC 247 dX12_holds_64 (by decide) ?_
    refine ww_sub [0, 1, 2, 3, 4, 5] rfl ?_
    exact j247 _ hk11 _ _ _ _ _ _ h
  have j147 : ∀ (k11 : Int32 → Int32 → Int32 → Int32 → Int32 → XD → Option (Int32 × XD)) (hk11 : ∀ (x1 : Int32) (x2 : Int32) (x3 : Int32) (x4 : Int32) (x5 : Int32) (X : XD), k11 x1 x2 x3 x4 x5 X = some (r, X1) → WW p l e (rmX 2 0 0) s m args below meth c 9 (MQ below (XQ E w z Z X1 (some (.int r))) args s 0 0 (A0 E)) E w 0 0 z Z 11 [(0, .ref (w.1 0)), (1, .int x1), (2, .int x2), (3, .int x3), (4, .int x4), (5, .int x5)] [] X), ∀ (x1 : Int32) (x2 : Int32) (x3 : Int32) (x4 : Int32) (x5 : Int32) (s0 : Int32) (s1 : Int32) (X : XD), fX12_holds_147 k11 x1 x2 x3 x4 x5 s0 s1 X = some (r, X1) → WW p l e (rmX 2 0 0) s m args below meth c 9 (MQ below (XQ E w z Z X1 (some (.int r))) args s 0 0 (A0 E)) E w 0 0 z Z 147 [(0, .ref (w.1 0)), (1, .int x1), (2, .int x2), (3, .int x3), (4, .int x4), (5, .int x5)] [.int s0, .int s1, .ref (w.1 16)] X := by
    intro k11 hk11 x1 x2 x3 x4 x5 s0 s1 X h
    unfold fX12_holds_147 at h
    obtain ⟨hb11, h⟩ := gb_i h
    refine ww_zast (pc := 147) hC ((lay_12_26 hL).2) hb11 h dX12_holds_147 (fun h => ?_)
    obtain ⟨X_12, eX_12⟩ : ∃ q, q = wI X 16 (s1).toNatClampNeg s0 := ⟨_, rfl⟩
    replace h := nm_i h eX_12
    refine ww_nmX eX_12 ?_
    refine ww_goto (pc := 148) hC 247 dX12_holds_148 (by decide) ?_
    refine ww_sub [0, 1, 2, 3, 4, 5] rfl ?_
    exact j247 _ hk11 _ _ _ _ _ _ h
  have j116 : ∀ (k11 : Int32 → Int32 → Int32 → Int32 → Int32 → XD → Option (Int32 × XD)) (hk11 : ∀ (x1 : Int32) (x2 : Int32) (x3 : Int32) (x4 : Int32) (x5 : Int32) (X : XD), k11 x1 x2 x3 x4 x5 X = some (r, X1) → WW p l e (rmX 2 0 0) s m args below meth c 9 (MQ below (XQ E w z Z X1 (some (.int r))) args s 0 0 (A0 E)) E w 0 0 z Z 11 [(0, .ref (w.1 0)), (1, .int x1), (2, .int x2), (3, .int x3), (4, .int x4), (5, .int x5)] [] X), ∀ (x1 : Int32) (x2 : Int32) (x3 : Int32) (x4 : Int32) (x5 : Int32) (s0 : Int32) (X : XD), fX12_holds_116 k11 x1 x2 x3 x4 x5 s0 X = some (r, X1) → WW p l e (rmX 2 0 0) s m args below meth c 9 (MQ below (XQ E w z Z X1 (some (.int r))) args s 0 0 (A0 E)) E w 0 0 z Z 116 [(0, .ref (w.1 0)), (1, .int x1), (2, .int x2), (3, .int x3), (4, .int x4), (5, .int x5)] [.int s0, .ref (w.1 16)] X := by
    intro k11 hk11 x1 x2 x3 x4 x5 s0 X h
    unfold fX12_holds_116 at h
    refine ww_iconst (pc := 116) hC (v := (0 : Int32)) dX12_holds_116 (by decide) ?_
    refine ww_goto (pc := 117) hC 147 dX12_holds_117 (by decide) ?_
    refine ww_sub [0, 1, 2, 3, 4, 5] rfl ?_
    exact j147 _ hk11 _ _ _ _ _ _ _ _ h
  have j142 : ∀ (k11 : Int32 → Int32 → Int32 → Int32 → Int32 → XD → Option (Int32 × XD)) (hk11 : ∀ (x1 : Int32) (x2 : Int32) (x3 : Int32) (x4 : Int32) (x5 : Int32) (X : XD), k11 x1 x2 x3 x4 x5 X = some (r, X1) → WW p l e (rmX 2 0 0) s m args below meth c 9 (MQ below (XQ E w z Z X1 (some (.int r))) args s 0 0 (A0 E)) E w 0 0 z Z 11 [(0, .ref (w.1 0)), (1, .int x1), (2, .int x2), (3, .int x3), (4, .int x4), (5, .int x5)] [] X), ∀ (x1 : Int32) (x2 : Int32) (x3 : Int32) (x4 : Int32) (x5 : Int32) (s0 : Int32) (X : XD), fX12_holds_142 k11 x1 x2 x3 x4 x5 s0 X = some (r, X1) → WW p l e (rmX 2 0 0) s m args below meth c 9 (MQ below (XQ E w z Z X1 (some (.int r))) args s 0 0 (A0 E)) E w 0 0 z Z 142 [(0, .ref (w.1 0)), (1, .int x1), (2, .int x2), (3, .int x3), (4, .int x4), (5, .int x5)] [.int s0, .ref (w.1 16)] X := by
    intro k11 hk11 x1 x2 x3 x4 x5 s0 X h
    unfold fX12_holds_142 at h
    refine ww_iconst (pc := 142) hC (v := (1 : Int32)) dX12_holds_142 (by decide) ?_
    refine ww_goto (pc := 143) hC 147 dX12_holds_143 (by decide) ?_
    refine ww_sub [0, 1, 2, 3, 4, 5] rfl ?_
    exact j147 _ hk11 _ _ _ _ _ _ _ _ h
  have j243 : ∀ (k11 : Int32 → Int32 → Int32 → Int32 → Int32 → XD → Option (Int32 × XD)) (hk11 : ∀ (x1 : Int32) (x2 : Int32) (x3 : Int32) (x4 : Int32) (x5 : Int32) (X : XD), k11 x1 x2 x3 x4 x5 X = some (r, X1) → WW p l e (rmX 2 0 0) s m args below meth c 9 (MQ below (XQ E w z Z X1 (some (.int r))) args s 0 0 (A0 E)) E w 0 0 z Z 11 [(0, .ref (w.1 0)), (1, .int x1), (2, .int x2), (3, .int x3), (4, .int x4), (5, .int x5)] [] X), ∀ (x1 : Int32) (x2 : Int32) (x3 : Int32) (x4 : Int32) (x5 : Int32) (s0 : Int32) (s1 : Int32) (X : XD), fX12_holds_243 k11 x1 x2 x3 x4 x5 s0 s1 X = some (r, X1) → WW p l e (rmX 2 0 0) s m args below meth c 9 (MQ below (XQ E w z Z X1 (some (.int r))) args s 0 0 (A0 E)) E w 0 0 z Z 243 [(0, .ref (w.1 0)), (1, .int x1), (2, .int x2), (3, .int x3), (4, .int x4), (5, .int x5)] [.int s0, .int s1, .ref (w.1 16)] X := by
    intro k11 hk11 x1 x2 x3 x4 x5 s0 s1 X h
    unfold fX12_holds_243 at h
    obtain ⟨hb8, h⟩ := gb_i h
    refine ww_zast (pc := 243) hC ((lay_12_26 hL).2) hb8 h dX12_holds_243 (fun h => ?_)
    obtain ⟨X_9, eX_9⟩ : ∃ q, q = wI X 16 (s1).toNatClampNeg s0 := ⟨_, rfl⟩
    replace h := nm_i h eX_9
    refine ww_nmX eX_9 ?_
    obtain ⟨y10, ey10⟩ : ∃ q, q = x4 + (1 : Int32) := ⟨_, rfl⟩
    replace h := nm_i h ey10
    refine ww_iinc (pc := 244) hC y10 [(4, .int y10), (0, .ref (w.1 0)), (1, .int x1), (2, .int x2), (3, .int x3), (5, .int x5)] dX12_holds_244 4 rfl (by rw [ey10]; rfl) (by decide) rfl ?_
    refine ww_sub [1, 2, 3, 4, 0, 5] rfl ?_
    exact j247 _ hk11 _ _ _ _ _ _ h
  have j11 : ∀ (n : Nat), ∀ (x1 : Int32) (x2 : Int32) (x3 : Int32) (x4 : Int32) (x5 : Int32) (X : XD), fX12_holds_11 n x1 x2 x3 x4 x5 X = some (r, X1) → WW p l e (rmX 2 0 0) s m args below meth c 9 (MQ below (XQ E w z Z X1 (some (.int r))) args s 0 0 (A0 E)) E w 0 0 z Z 11 [(0, .ref (w.1 0)), (1, .int x1), (2, .int x2), (3, .int x3), (4, .int x4), (5, .int x5)] [] X := by
    intro n
    induction n with
    | zero =>
      intro x1 x2 x3 x4 x5 X h
      cases (show none = some (r, X1) from h)
    | succ n ih =>
      intro x1 x2 x3 x4 x5 X h
      rw [fX12_holds_11_s] at h
      refine ww_iload (pc := 11) hC dX12_holds_11 5 rfl ?_
      refine ww_aload_n (pc := 13) hC dX12_holds_13 0 rfl ?_
      refine ww_getR (pc := 14) hC 12 19 12 hL.1 RX12 (by decide) (by decide) rfl (lay_12_19 hL).1 qf_X12_68 rfl dX12_holds_14 ?_
      refine ww_iload_n (pc := 17) hC dX12_holds_17 1 rfl ?_
      refine ww_iald (pc := 18) hC ((lay_12_19 hL).2) h dX12_holds_18 (fun h => ?_)
      refine ww_icmp_ge (pc := 19) hC h 253 dX12_holds_19 (by decide) (fun h => ?_) (fun h => ?_)
      · refine ww_aload_n (pc := 253) hC dX12_holds_253 0 rfl ?_
        refine ww_getR (pc := 254) hC 12 26 16 hL.1 RX12 (by decide) (by decide) rfl (lay_12_26 hL).1 qf_X12_89 rfl dX12_holds_254 ?_
        refine ww_iconst (pc := 257) hC (v := (0 : Int32)) dX12_holds_257 (by decide) ?_
        refine ww_zald (pc := 258) hC ((lay_12_26 hL).2) h dX12_holds_258 (fun h => ?_)
        obtain ⟨hb2, h⟩ := gb_i h
        exact ww_zret (pc := 259) hC hr (gb_n hb2) h dX12_holds_259
      · refine ww_aload_n (pc := 22) hC dX12_holds_22 0 rfl ?_
        refine ww_getR (pc := 23) hC 12 20 13 hL.1 RX12 (by decide) (by decide) rfl (lay_12_20 hL).1 qf_X12_71 rfl dX12_holds_23 ?_
        refine ww_iload (pc := 26) hC dX12_holds_26 5 rfl ?_
        refine ww_iald (pc := 28) hC ((lay_12_20 hL).2) h dX12_holds_28 (fun h => ?_)
        obtain ⟨y3, ey3⟩ : ∃ q, q = X.1 13 (x5).toNatClampNeg := ⟨_, rfl⟩
        replace h := nm_i h ey3
        refine ww_nmi ey3 ?_
        refine ww_istore (pc := 29) hC [(6, .int y3), (0, .ref (w.1 0)), (1, .int x1), (2, .int x2), (3, .int x3), (4, .int x4), (5, .int x5)] dX12_holds_29  (by decide) rfl ?_
        refine ww_iload (pc := 31) hC dX12_holds_31 0 rfl ?_
        refine ww_bipush (pc := 33) hC (v := (-33 : Int32)) dX12_holds_33 (by decide) ?_
        refine ww_icmp_ne (pc := 35) hC h 67 dX12_holds_35 (by decide) (fun h => ?_) (fun h => ?_)
        · refine ww_iload (pc := 67) hC dX12_holds_67 0 rfl ?_
          refine ww_if_ge (pc := 69) hC h 151 dX12_holds_69 (by decide) (fun h => ?_) (fun h => ?_)
          · refine ww_aload_n (pc := 151) hC dX12_holds_151 1 rfl ?_
            refine ww_iload (pc := 152) hC dX12_holds_152 0 rfl ?_
            refine ww_sipush (pc := 154) hC (v := (1000 : Int32)) dX12_holds_154 (by decide) ?_
            refine ww_idiv (pc := 157) hC dX12_holds_157 (by decide) ?_
            refine ww_iload_n (pc := 158) hC dX12_holds_158 3 rfl ?_
            refine ww_iload_n (pc := 159) hC dX12_holds_159 4 rfl ?_
            obtain ⟨r5, h4, h⟩ := bnd_i h
            refine ww_callVi (pc := 160) hC [.int (y3 / ((1000 : Int32))), .int x2, .int x3] hL.1.1 hL.1.2 (by decide) (ceX12_factOf hL h4) ql_X12_276 qi_X12_factOf qs_X12_X12_factOf qn_X12 qc_X12_factOf rfl ⟨by decide, by decide, rfl⟩ rfl ⟨Nat.le_of_ble_eq_true rfl, Nat.le_of_ble_eq_true rfl⟩ (by decide) (rest := []) (Nat.le_of_ble_eq_true rfl) dX12_holds_160 ⟨Nat.le_of_ble_eq_true rfl, Nat.le_of_ble_eq_true rfl⟩ rfl ?_
            refine ww_istore (pc := 163) hC [(7, .int r5), (6, .int y3), (0, .ref (w.1 0)), (1, .int x1), (2, .int x2), (3, .int x3), (4, .int x4), (5, .int x5)] dX12_holds_163  (by decide) rfl ?_
            refine ww_iload (pc := 165) hC dX12_holds_165 1 rfl ?_
            refine ww_bipush (pc := 167) hC (v := (100 : Int32)) dX12_holds_167 (by decide) ?_
            refine ww_idiv (pc := 169) hC dX12_holds_169 (by decide) ?_
            refine ww_bipush (pc := 170) hC (v := (10 : Int32)) dX12_holds_170 (by decide) ?_
            refine ww_irem (pc := 172) hC dX12_holds_172 (by decide) ?_
            obtain ⟨y6, ey6⟩ : ∃ q, q = (y3 / ((100 : Int32))) - (y3 / ((100 : Int32))) / ((10 : Int32)) * ((10 : Int32)) := ⟨_, rfl⟩
            replace h := nm_i h ey6
            refine ww_nmi ey6 ?_
            refine ww_istore (pc := 173) hC [(8, .int y6), (7, .int r5), (6, .int y3), (0, .ref (w.1 0)), (1, .int x1), (2, .int x2), (3, .int x3), (4, .int x4), (5, .int x5)] dX12_holds_173  (by decide) rfl ?_
            refine ww_aload_n (pc := 175) hC dX12_holds_175 3 rfl ?_
            refine ww_getR (pc := 176) hC 12 26 16 hL.1 RX12 (by decide) (by decide) rfl (lay_12_26 hL).1 qf_X12_89 rfl dX12_holds_176 ?_
            refine ww_iload (pc := 179) hC dX12_holds_179 7 rfl ?_
            refine ww_iload (pc := 181) hC dX12_holds_181 0 rfl ?_
            refine ww_if_ne (pc := 183) hC h 204 dX12_holds_183 (by decide) (fun h => ?_) (fun h => ?_)
            · refine ww_iload (pc := 204) hC dX12_holds_204 0 rfl ?_
              refine ww_iconst (pc := 206) hC (v := (1 : Int32)) dX12_holds_206 (by decide) ?_
              refine ww_icmp_ne (pc := 207) hC h 228 dX12_holds_207 (by decide) (fun h => ?_) (fun h => ?_)
              · refine ww_iload (pc := 228) hC dX12_holds_228 1 rfl ?_
                refine ww_iload (pc := 230) hC dX12_holds_230 2 rfl ?_
                refine ww_bipush (pc := 232) hC (v := (100 : Int32)) dX12_holds_232 (by decide) ?_
                refine ww_irem (pc := 234) hC dX12_holds_234 (by decide) ?_
                refine ww_icmp_le (pc := 235) hC h 242 dX12_holds_235 (by decide) (fun h => ?_) (fun h => ?_)
                · refine ww_iconst (pc := 242) hC (v := (0 : Int32)) dX12_holds_242 (by decide) ?_
                  refine ww_sub [3, 4, 5, 6, 7, 8] rfl ?_
                  exact j243 _ ih _ _ _ _ _ _ _ _ h
                · refine ww_iconst (pc := 238) hC (v := (1 : Int32)) dX12_holds_238 (by decide) ?_
                  refine ww_goto (pc := 239) hC 243 dX12_holds_239 (by decide) ?_
                  refine ww_sub [3, 4, 5, 6, 7, 8] rfl ?_
                  exact j243 _ ih _ _ _ _ _ _ _ _ h
              · refine ww_iload (pc := 210) hC dX12_holds_210 1 rfl ?_
                refine ww_iload (pc := 212) hC dX12_holds_212 2 rfl ?_
                refine ww_bipush (pc := 214) hC (v := (100 : Int32)) dX12_holds_214 (by decide) ?_
                refine ww_irem (pc := 216) hC dX12_holds_216 (by decide) ?_
                refine ww_icmp_ne (pc := 217) hC h 224 dX12_holds_217 (by decide) (fun h => ?_) (fun h => ?_)
                · refine ww_iconst (pc := 224) hC (v := (0 : Int32)) dX12_holds_224 (by decide) ?_
                  refine ww_goto (pc := 225) hC 243 dX12_holds_225 (by decide) ?_
                  refine ww_sub [3, 4, 5, 6, 7, 8] rfl ?_
                  exact j243 _ ih _ _ _ _ _ _ _ _ h
                · refine ww_iconst (pc := 220) hC (v := (1 : Int32)) dX12_holds_220 (by decide) ?_
                  refine ww_goto (pc := 221) hC 243 dX12_holds_221 (by decide) ?_
                  refine ww_sub [3, 4, 5, 6, 7, 8] rfl ?_
                  exact j243 _ ih _ _ _ _ _ _ _ _ h
            · refine ww_iload (pc := 186) hC dX12_holds_186 1 rfl ?_
              refine ww_iload (pc := 188) hC dX12_holds_188 2 rfl ?_
              refine ww_bipush (pc := 190) hC (v := (100 : Int32)) dX12_holds_190 (by decide) ?_
              refine ww_irem (pc := 192) hC dX12_holds_192 (by decide) ?_
              refine ww_icmp_ge (pc := 193) hC h 200 dX12_holds_193 (by decide) (fun h => ?_) (fun h => ?_)
              · refine ww_iconst (pc := 200) hC (v := (0 : Int32)) dX12_holds_200 (by decide) ?_
                refine ww_goto (pc := 201) hC 243 dX12_holds_201 (by decide) ?_
                refine ww_sub [3, 4, 5, 6, 7, 8] rfl ?_
                exact j243 _ ih _ _ _ _ _ _ _ _ h
              · refine ww_iconst (pc := 196) hC (v := (1 : Int32)) dX12_holds_196 (by decide) ?_
                refine ww_goto (pc := 197) hC 243 dX12_holds_197 (by decide) ?_
                refine ww_sub [3, 4, 5, 6, 7, 8] rfl ?_
                exact j243 _ ih _ _ _ _ _ _ _ _ h
          · obtain ⟨y7, ey7⟩ : ∃ q, q = x4 + (-1 : Int32) := ⟨_, rfl⟩
            replace h := nm_i h ey7
            refine ww_iinc (pc := 72) hC y7 [(4, .int y7), (6, .int y3), (0, .ref (w.1 0)), (1, .int x1), (2, .int x2), (3, .int x3), (5, .int x5)] dX12_holds_72 5 rfl (by rw [ey7]; rfl) (by decide) rfl ?_
            refine ww_aload_n (pc := 75) hC dX12_holds_75 2 rfl ?_
            refine ww_getR (pc := 76) hC 12 26 16 hL.1 RX12 (by decide) (by decide) rfl (lay_12_26 hL).1 qf_X12_89 rfl dX12_holds_76 ?_
            refine ww_iload (pc := 79) hC dX12_holds_79 0 rfl ?_
            refine ww_iconst (pc := 81) hC (v := (1 : Int32)) dX12_holds_81 (by decide) ?_
            refine ww_isub (pc := 82) hC dX12_holds_82 ?_
            refine ww_iload (pc := 83) hC dX12_holds_83 1 rfl ?_
            refine ww_bipush (pc := 85) hC (v := (-38 : Int32)) dX12_holds_85 (by decide) ?_
            refine ww_icmp_ne (pc := 87) hC h 120 dX12_holds_87 (by decide) (fun h => ?_) (fun h => ?_)
            · refine ww_aload_n (pc := 120) hC dX12_holds_120 2 rfl ?_
              refine ww_getR (pc := 121) hC 12 26 16 hL.1 RX12 (by decide) (by decide) rfl (lay_12_26 hL).1 qf_X12_89 rfl dX12_holds_121 ?_
              refine ww_iload (pc := 124) hC dX12_holds_124 0 rfl ?_
              refine ww_iconst (pc := 126) hC (v := (1 : Int32)) dX12_holds_126 (by decide) ?_
              refine ww_isub (pc := 127) hC dX12_holds_127 ?_
              refine ww_zald (pc := 128) hC ((lay_12_26 hL).2) h dX12_holds_128 (fun h => ?_)
              refine ww_if_ne (pc := 129) hC h 142 dX12_holds_129 (by decide) (fun h => ?_) (fun h => ?_)
              · refine ww_sub [2, 3, 4, 5, 0, 6] rfl ?_
                exact j142 _ ih _ _ _ _ _ _ _ h
              · refine ww_aload_n (pc := 132) hC dX12_holds_132 2 rfl ?_
                refine ww_getR (pc := 133) hC 12 26 16 hL.1 RX12 (by decide) (by decide) rfl (lay_12_26 hL).1 qf_X12_89 rfl dX12_holds_133 ?_
                refine ww_iload (pc := 136) hC dX12_holds_136 0 rfl ?_
                refine ww_zald (pc := 138) hC ((lay_12_26 hL).2) h dX12_holds_138 (fun h => ?_)
                refine ww_if_eq (pc := 139) hC h 146 dX12_holds_139 (by decide) (fun h => ?_) (fun h => ?_)
                · refine ww_iconst (pc := 146) hC (v := (0 : Int32)) dX12_holds_146 (by decide) ?_
                  refine ww_sub [2, 3, 4, 5, 0, 6] rfl ?_
                  exact j147 _ ih _ _ _ _ _ _ _ _ h
                · refine ww_sub [2, 3, 4, 5, 0, 6] rfl ?_
                  exact j142 _ ih _ _ _ _ _ _ _ h
            · refine ww_aload_n (pc := 90) hC dX12_holds_90 2 rfl ?_
              refine ww_getR (pc := 91) hC 12 26 16 hL.1 RX12 (by decide) (by decide) rfl (lay_12_26 hL).1 qf_X12_89 rfl dX12_holds_91 ?_
              refine ww_iload (pc := 94) hC dX12_holds_94 0 rfl ?_
              refine ww_iconst (pc := 96) hC (v := (1 : Int32)) dX12_holds_96 (by decide) ?_
              refine ww_isub (pc := 97) hC dX12_holds_97 ?_
              refine ww_zald (pc := 98) hC ((lay_12_26 hL).2) h dX12_holds_98 (fun h => ?_)
              refine ww_if_eq (pc := 99) hC h 116 dX12_holds_99 (by decide) (fun h => ?_) (fun h => ?_)
              · refine ww_sub [2, 3, 4, 5, 0, 6] rfl ?_
                exact j116 _ ih _ _ _ _ _ _ _ h
              · refine ww_aload_n (pc := 102) hC dX12_holds_102 2 rfl ?_
                refine ww_getR (pc := 103) hC 12 26 16 hL.1 RX12 (by decide) (by decide) rfl (lay_12_26 hL).1 qf_X12_89 rfl dX12_holds_103 ?_
                refine ww_iload (pc := 106) hC dX12_holds_106 0 rfl ?_
                refine ww_zald (pc := 108) hC ((lay_12_26 hL).2) h dX12_holds_108 (fun h => ?_)
                refine ww_if_eq (pc := 109) hC h 116 dX12_holds_109 (by decide) (fun h => ?_) (fun h => ?_)
                · refine ww_sub [2, 3, 4, 5, 0, 6] rfl ?_
                  exact j116 _ ih _ _ _ _ _ _ _ h
                · refine ww_iconst (pc := 112) hC (v := (1 : Int32)) dX12_holds_112 (by decide) ?_
                  refine ww_goto (pc := 113) hC 147 dX12_holds_113 (by decide) ?_
                  refine ww_sub [2, 3, 4, 5, 0, 6] rfl ?_
                  exact j147 _ ih _ _ _ _ _ _ _ _ h
        · refine ww_aload_n (pc := 38) hC dX12_holds_38 1 rfl ?_
          refine ww_getR (pc := 39) hC 12 26 16 hL.1 RX12 (by decide) (by decide) rfl (lay_12_26 hL).1 qf_X12_89 rfl dX12_holds_39 ?_
          refine ww_iload (pc := 42) hC dX12_holds_42 5 rfl ?_
          refine ww_iconst (pc := 44) hC (v := (1 : Int32)) dX12_holds_44 (by decide) ?_
          refine ww_isub (pc := 45) hC dX12_holds_45 ?_
          refine ww_aload_n (pc := 46) hC dX12_holds_46 1 rfl ?_
          refine ww_getR (pc := 47) hC 12 26 16 hL.1 RX12 (by decide) (by decide) rfl (lay_12_26 hL).1 qf_X12_89 rfl dX12_holds_47 ?_
          refine ww_iload (pc := 50) hC dX12_holds_50 5 rfl ?_
          refine ww_iconst (pc := 52) hC (v := (1 : Int32)) dX12_holds_52 (by decide) ?_
          refine ww_isub (pc := 53) hC dX12_holds_53 ?_
          refine ww_zald (pc := 54) hC ((lay_12_26 hL).2) h dX12_holds_54 (fun h => ?_)
          refine ww_if_ne (pc := 55) hC h 62 dX12_holds_55 (by decide) (fun h => ?_) (fun h => ?_)
          · refine ww_iconst (pc := 62) hC (v := (0 : Int32)) dX12_holds_62 (by decide) ?_
            refine ww_sub [1, 2, 3, 4, 5, 6] rfl ?_
            exact j63 _ ih _ _ _ _ _ _ _ _ h
          · refine ww_iconst (pc := 58) hC (v := (1 : Int32)) dX12_holds_58 (by decide) ?_
            refine ww_goto (pc := 59) hC 63 dX12_holds_59 (by decide) ?_
            refine ww_sub [1, 2, 3, 4, 5, 6] rfl ?_
            exact j63 _ ih _ _ _ _ _ _ _ _ h
  unfold fX12_holds at h
  refine ww_lv (lv' := [(0, .ref (w.1 0)), (1, .int x1), (2, .int x2), (3, .int x3)]) rfl ?_
  refine ww_iconst (pc := 0) hC (v := (0 : Int32)) dX12_holds_0 (by decide) ?_
  refine ww_istore (pc := 1) hC [(4, .int ((0 : Int32))), (0, .ref (w.1 0)), (1, .int x1), (2, .int x2), (3, .int x3)] dX12_holds_1  (by decide) rfl ?_
  refine ww_aload_n (pc := 3) hC dX12_holds_3 1 rfl ?_
  refine ww_getR (pc := 4) hC 12 18 11 hL.1 RX12 (by decide) (by decide) rfl (lay_12_18 hL).1 qf_X12_65 rfl dX12_holds_4 ?_
  refine ww_iload_n (pc := 7) hC dX12_holds_7 2 rfl ?_
  refine ww_iald (pc := 8) hC ((lay_12_18 hL).2) h dX12_holds_8 (fun h => ?_)
  obtain ⟨y1, ey1⟩ : ∃ q, q = X.1 11 (x1).toNatClampNeg := ⟨_, rfl⟩
  replace h := nm_i h ey1
  refine ww_nmi ey1 ?_
  refine ww_istore (pc := 9) hC [(5, .int y1), (4, .int ((0 : Int32))), (0, .ref (w.1 0)), (1, .int x1), (2, .int x2), (3, .int x3)] dX12_holds_9  (by decide) rfl ?_
  refine ww_sub [2, 3, 4, 5, 1, 0] rfl ?_
  exact j11 _ _ _ _ _ _ _ h
noncomputable def fX12_percent_65 (k12 : Int32 → Int32 → Int32 → Int32 → Int32 → Int32 → Int32 → XD → Option (Int32 × XD)) (x1 : Int32) (x2 : Int32) (x3 : Int32) (x4 : Int32) (x5 : Int32) (x6 : Int32) (x7 : Int32) (X : XD) : Option (Int32 × XD) := nm (x7 + (1 : Int32)) (fun y9 => k12 x1 x2 x3 x4 x5 x6 y9 X)
noncomputable def fX12_percent_62 (k12 : Int32 → Int32 → Int32 → Int32 → Int32 → Int32 → Int32 → XD → Option (Int32 × XD)) (x1 : Int32) (x2 : Int32) (x3 : Int32) (x4 : Int32) (x6 : Int32) (x7 : Int32) (s0 : Int32) (s1 : Int32) (X : XD) : Option (Int32 × XD) := nm (s1 + s0) (fun y8 => fX12_percent_65 k12 x1 x2 x3 x4 y8 x6 x7 X)
noncomputable def fX12_percent_12 (n : Nat) : Int32 → Int32 → Int32 → Int32 → Int32 → Int32 → Int32 → XD → Option (Int32 × XD) := Nat.rec (motive := fun _ => Int32 → Int32 → Int32 → Int32 → Int32 → Int32 → Int32 → XD → Option (Int32 × XD)) (fun _ _ _ _ _ _ _ _ => none) (fun _ f => fun x1 x2 x3 x4 x5 x6 x7 X => bnd (fX12_behind X) (fun r4 => if r4 ≤ x7 then if x6 = 0 then some (x4, X) else if x5 ≤ ((100 : Int32)) then some (x5, X) else some ((100 : Int32), X) else gin x7 60 (if (X.1 9 (x7).toNatClampNeg) = x1 then bnw (fX12_holds x7 x2 x3 X) (fun r6 X_7 => if r6 = 0 then fX12_percent_62 (f) x1 x2 x3 x4 ((1 : Int32)) x7 ((0 : Int32)) x5 X_7 else gin x7 60 (fX12_percent_62 (f) x1 x2 x3 x4 ((1 : Int32)) x7 (X_7.1 10 (x7).toNatClampNeg) x5 X_7)) else fX12_percent_65 (f) x1 x2 x3 x4 x5 x6 x7 X))) n
theorem fX12_percent_12_s (n : Nat) (x1 : Int32) (x2 : Int32) (x3 : Int32) (x4 : Int32) (x5 : Int32) (x6 : Int32) (x7 : Int32) (X : XD) : fX12_percent_12 (n + 1) x1 x2 x3 x4 x5 x6 x7 X = bnd (fX12_behind X) (fun r4 => if r4 ≤ x7 then if x6 = 0 then some (x4, X) else if x5 ≤ ((100 : Int32)) then some (x5, X) else some ((100 : Int32), X) else gin x7 60 (if (X.1 9 (x7).toNatClampNeg) = x1 then bnw (fX12_holds x7 x2 x3 X) (fun r6 X_7 => if r6 = 0 then fX12_percent_62 ((fX12_percent_12 n)) x1 x2 x3 x4 ((1 : Int32)) x7 ((0 : Int32)) x5 X_7 else gin x7 60 (fX12_percent_62 ((fX12_percent_12 n)) x1 x2 x3 x4 ((1 : Int32)) x7 (X_7.1 10 (x7).toNatClampNeg) x5 X_7)) else fX12_percent_65 ((fX12_percent_12 n)) x1 x2 x3 x4 x5 x6 x7 X)) := rfl
noncomputable def fX12_percent (x1 : Int32) (x2 : Int32) (x3 : Int32) (x4 : Int32) (X : XD) : Option (Int32 × XD) := bnd (fX12_begin X) (fun r2 => fX12_percent_12 FU x1 x2 x3 x4 ((0 : Int32)) ((0 : Int32)) r2 X)
set_option maxHeartbeats 40000000 in
set_option maxRecDepth 100000 in
theorem ceX12_percent {l : Launch} {E : XE} {w : XW} {z : Nat} {Z : XS} (hL : LayM Z) {x1 : Int32} {x2 : Int32} {x3 : Int32} {x4 : Int32} {X X1 : XD} {r : Int32} (h : fX12_percent x1 x2 x3 x4 X = some (r, X1)) : Ct l E w yX12_percent (wsM yX12_percent cX12_percent 8 (some .int)) (rmX 3 0 0) 0 0 [.ref (w.1 0), .int x1, .int x2, .int x3, .int x4] z z Z Z X X1 (some (.int r)) := by
  refine ct_of (by decide) (Nat.le_of_ble_eq_true rfl) ?_
  intro p e s m args below meth c hC hr hin hav
  have j65 : ∀ (k12 : Int32 → Int32 → Int32 → Int32 → Int32 → Int32 → Int32 → XD → Option (Int32 × XD)) (hk12 : ∀ (x1 : Int32) (x2 : Int32) (x3 : Int32) (x4 : Int32) (x5 : Int32) (x6 : Int32) (x7 : Int32) (X : XD), k12 x1 x2 x3 x4 x5 x6 x7 X = some (r, X1) → WW p l e (rmX 3 0 0) s m args below meth c 8 (MQ below (XQ E w z Z X1 (some (.int r))) args s 0 0 (A0 E)) E w 0 0 z Z 12 [(0, .ref (w.1 0)), (1, .int x1), (2, .int x2), (3, .int x3), (4, .int x4), (5, .int x5), (6, .int x6), (7, .int x7)] [] X), ∀ (x1 : Int32) (x2 : Int32) (x3 : Int32) (x4 : Int32) (x5 : Int32) (x6 : Int32) (x7 : Int32) (X : XD), fX12_percent_65 k12 x1 x2 x3 x4 x5 x6 x7 X = some (r, X1) → WW p l e (rmX 3 0 0) s m args below meth c 8 (MQ below (XQ E w z Z X1 (some (.int r))) args s 0 0 (A0 E)) E w 0 0 z Z 65 [(0, .ref (w.1 0)), (1, .int x1), (2, .int x2), (3, .int x3), (4, .int x4), (5, .int x5), (6, .int x6), (7, .int x7)] [] X := by
    intro k12 hk12 x1 x2 x3 x4 x5 x6 x7 X h
    unfold fX12_percent_65 at h
    obtain ⟨y9, ey9⟩ : ∃ q, q = x7 + (1 : Int32) := ⟨_, rfl⟩
    replace h := nm_i h ey9
    refine ww_iinc (pc := 65) hC y9 [(7, .int y9), (0, .ref (w.1 0)), (1, .int x1), (2, .int x2), (3, .int x3), (4, .int x4), (5, .int x5), (6, .int x6)] dX12_percent_65 7 rfl (by rw [ey9]; rfl) (by decide) rfl ?_
    refine ww_goto (pc := 68) hC 12 dX12_percent_68 (by decide) ?_
    refine ww_sub [1, 2, 3, 4, 5, 6, 7, 0] rfl ?_
    exact hk12 _ _ _ _ _ _ _ _ h
  have j62 : ∀ (k12 : Int32 → Int32 → Int32 → Int32 → Int32 → Int32 → Int32 → XD → Option (Int32 × XD)) (hk12 : ∀ (x1 : Int32) (x2 : Int32) (x3 : Int32) (x4 : Int32) (x5 : Int32) (x6 : Int32) (x7 : Int32) (X : XD), k12 x1 x2 x3 x4 x5 x6 x7 X = some (r, X1) → WW p l e (rmX 3 0 0) s m args below meth c 8 (MQ below (XQ E w z Z X1 (some (.int r))) args s 0 0 (A0 E)) E w 0 0 z Z 12 [(0, .ref (w.1 0)), (1, .int x1), (2, .int x2), (3, .int x3), (4, .int x4), (5, .int x5), (6, .int x6), (7, .int x7)] [] X), ∀ (x1 : Int32) (x2 : Int32) (x3 : Int32) (x4 : Int32) (x6 : Int32) (x7 : Int32) (s0 : Int32) (s1 : Int32) (X : XD), fX12_percent_62 k12 x1 x2 x3 x4 x6 x7 s0 s1 X = some (r, X1) → WW p l e (rmX 3 0 0) s m args below meth c 8 (MQ below (XQ E w z Z X1 (some (.int r))) args s 0 0 (A0 E)) E w 0 0 z Z 62 [(0, .ref (w.1 0)), (1, .int x1), (2, .int x2), (3, .int x3), (4, .int x4), (6, .int x6), (7, .int x7)] [.int s0, .int s1] X := by
    intro k12 hk12 x1 x2 x3 x4 x6 x7 s0 s1 X h
    unfold fX12_percent_62 at h
    refine ww_iadd (pc := 62) hC dX12_percent_62 ?_
    obtain ⟨y8, ey8⟩ : ∃ q, q = s1 + s0 := ⟨_, rfl⟩
    replace h := nm_i h ey8
    refine ww_nmi ey8 ?_
    refine ww_istore (pc := 63) hC [(5, .int y8), (0, .ref (w.1 0)), (1, .int x1), (2, .int x2), (3, .int x3), (4, .int x4), (6, .int x6), (7, .int x7)] dX12_percent_63  (by decide) rfl ?_
    refine ww_sub [1, 2, 3, 4, 5, 0, 6, 7] rfl ?_
    exact j65 _ hk12 _ _ _ _ _ _ _ _ h
  have j12 : ∀ (n : Nat), ∀ (x1 : Int32) (x2 : Int32) (x3 : Int32) (x4 : Int32) (x5 : Int32) (x6 : Int32) (x7 : Int32) (X : XD), fX12_percent_12 n x1 x2 x3 x4 x5 x6 x7 X = some (r, X1) → WW p l e (rmX 3 0 0) s m args below meth c 8 (MQ below (XQ E w z Z X1 (some (.int r))) args s 0 0 (A0 E)) E w 0 0 z Z 12 [(0, .ref (w.1 0)), (1, .int x1), (2, .int x2), (3, .int x3), (4, .int x4), (5, .int x5), (6, .int x6), (7, .int x7)] [] X := by
    intro n
    induction n with
    | zero =>
      intro x1 x2 x3 x4 x5 x6 x7 X h
      cases (show none = some (r, X1) from h)
    | succ n ih =>
      intro x1 x2 x3 x4 x5 x6 x7 X h
      rw [fX12_percent_12_s] at h
      refine ww_iload (pc := 12) hC dX12_percent_12 7 rfl ?_
      refine ww_aload_n (pc := 14) hC dX12_percent_14 0 rfl ?_
      obtain ⟨r4, h3, h⟩ := bnd_i h
      refine ww_callVi (pc := 15) hC [] hL.1.1 hL.1.2 (by decide) (ceX12_behind hL h3) ql_X12_283 qi_X12_behind qs_X12_X12_behind qn_X12 qc_X12_behind rfl ⟨by decide, by decide, rfl⟩ rfl ⟨Nat.le_of_ble_eq_true rfl, Nat.le_of_ble_eq_true rfl⟩ (by decide) (rest := [.int x7]) (Nat.le_of_ble_eq_true rfl) dX12_percent_15 ⟨Nat.le_of_ble_eq_true rfl, Nat.le_of_ble_eq_true rfl⟩ rfl ?_
      refine ww_icmp_ge (pc := 18) hC h 71 dX12_percent_18 (by decide) (fun h => ?_) (fun h => ?_)
      · refine ww_iload (pc := 71) hC dX12_percent_71 6 rfl ?_
        refine ww_if_ne (pc := 73) hC h 81 dX12_percent_73 (by decide) (fun h => ?_) (fun h => ?_)
        · refine ww_iload (pc := 81) hC dX12_percent_81 5 rfl ?_
          refine ww_bipush (pc := 83) hC (v := (100 : Int32)) dX12_percent_83 (by decide) ?_
          refine ww_icmp_le (pc := 85) hC h 93 dX12_percent_85 (by decide) (fun h => ?_) (fun h => ?_)
          · refine ww_iload (pc := 93) hC dX12_percent_93 5 rfl ?_
            exact ww_iret (pc := 95) hC hr h dX12_percent_95
          · refine ww_bipush (pc := 88) hC (v := (100 : Int32)) dX12_percent_88 (by decide) ?_
            refine ww_goto (pc := 90) hC 95 dX12_percent_90 (by decide) ?_
            exact ww_iret (pc := 95) hC hr h dX12_percent_95
        · refine ww_iload (pc := 76) hC dX12_percent_76 4 rfl ?_
          refine ww_goto (pc := 78) hC 95 dX12_percent_78 (by decide) ?_
          exact ww_iret (pc := 95) hC hr h dX12_percent_95
      · refine ww_aload_n (pc := 21) hC dX12_percent_21 0 rfl ?_
        refine ww_getR (pc := 22) hC 12 16 9 hL.1 RX12 (by decide) (by decide) rfl (lay_12_16 hL).1 qf_X12_59 rfl dX12_percent_22 ?_
        refine ww_iload (pc := 25) hC dX12_percent_25 7 rfl ?_
        refine ww_iald (pc := 27) hC ((lay_12_16 hL).2) h dX12_percent_27 (fun h => ?_)
        refine ww_iload_n (pc := 28) hC dX12_percent_28 1 rfl ?_
        refine ww_icmp_eq (pc := 29) hC h 35 dX12_percent_29 (by decide) (fun h => ?_) (fun h => ?_)
        · refine ww_iconst (pc := 35) hC (v := (1 : Int32)) dX12_percent_35 (by decide) ?_
          refine ww_istore (pc := 36) hC [(6, .int ((1 : Int32))), (0, .ref (w.1 0)), (1, .int x1), (2, .int x2), (3, .int x3), (4, .int x4), (5, .int x5), (7, .int x7)] dX12_percent_36  (by decide) rfl ?_
          refine ww_iload (pc := 38) hC dX12_percent_38 6 rfl ?_
          refine ww_aload_n (pc := 40) hC dX12_percent_40 1 rfl ?_
          refine ww_iload (pc := 41) hC dX12_percent_41 7 rfl ?_
          refine ww_iload_n (pc := 43) hC dX12_percent_43 3 rfl ?_
          refine ww_iload_n (pc := 44) hC dX12_percent_44 4 rfl ?_
          obtain ⟨r6, X_7, h5, h⟩ := bnw_i h
          refine ww_callVi (pc := 45) hC [.int x7, .int x2, .int x3] hL.1.1 hL.1.2 (by decide) (ceX12_holds hL h5) ql_X12_286 qi_X12_holds qs_X12_X12_holds qn_X12 qc_X12_holds rfl ⟨by decide, by decide, rfl⟩ rfl ⟨Nat.le_of_ble_eq_true rfl, Nat.le_of_ble_eq_true rfl⟩ (by decide) (rest := [.int x5]) (Nat.le_of_ble_eq_true rfl) dX12_percent_45 ⟨Nat.le_of_ble_eq_true rfl, Nat.le_of_ble_eq_true rfl⟩ rfl ?_
          refine ww_if_eq (pc := 48) hC h 61 dX12_percent_48 (by decide) (fun h => ?_) (fun h => ?_)
          · refine ww_iconst (pc := 61) hC (v := (0 : Int32)) dX12_percent_61 (by decide) ?_
            refine ww_sub [1, 2, 3, 4, 5, 0, 7] rfl ?_
            exact j62 _ ih _ _ _ _ _ _ _ _ _ h
          · refine ww_aload_n (pc := 51) hC dX12_percent_51 1 rfl ?_
            refine ww_getR (pc := 52) hC 12 17 10 hL.1 RX12 (by decide) (by decide) rfl (lay_12_17 hL).1 qf_X12_62 rfl dX12_percent_52 ?_
            refine ww_iload (pc := 55) hC dX12_percent_55 7 rfl ?_
            refine ww_iald (pc := 57) hC ((lay_12_17 hL).2) h dX12_percent_57 (fun h => ?_)
            refine ww_goto (pc := 58) hC 62 dX12_percent_58 (by decide) ?_
            refine ww_sub [1, 2, 3, 4, 5, 0, 7] rfl ?_
            exact j62 _ ih _ _ _ _ _ _ _ _ _ h
        · refine ww_goto (pc := 32) hC 65 dX12_percent_32 (by decide) ?_
          refine ww_sub [0, 1, 2, 3, 4, 5, 6, 7] rfl ?_
          exact j65 _ ih _ _ _ _ _ _ _ _ h
  unfold fX12_percent at h
  refine ww_lv (lv' := [(0, .ref (w.1 0)), (1, .int x1), (2, .int x2), (3, .int x3), (4, .int x4)]) rfl ?_
  refine ww_iconst (pc := 0) hC (v := (0 : Int32)) dX12_percent_0 (by decide) ?_
  refine ww_istore (pc := 1) hC [(5, .int ((0 : Int32))), (0, .ref (w.1 0)), (1, .int x1), (2, .int x2), (3, .int x3), (4, .int x4)] dX12_percent_1  (by decide) rfl ?_
  refine ww_iconst (pc := 3) hC (v := (0 : Int32)) dX12_percent_3 (by decide) ?_
  refine ww_istore (pc := 4) hC [(6, .int ((0 : Int32))), (5, .int ((0 : Int32))), (0, .ref (w.1 0)), (1, .int x1), (2, .int x2), (3, .int x3), (4, .int x4)] dX12_percent_4  (by decide) rfl ?_
  refine ww_aload_n (pc := 6) hC dX12_percent_6 2 rfl ?_
  obtain ⟨r2, h1, h⟩ := bnd_i h
  refine ww_callVi (pc := 7) hC [] hL.1.1 hL.1.2 (by decide) (ceX12_begin hL h1) ql_X12_280 qi_X12_begin qs_X12_X12_begin qn_X12 qc_X12_begin rfl ⟨by decide, by decide, rfl⟩ rfl ⟨Nat.le_of_ble_eq_true rfl, Nat.le_of_ble_eq_true rfl⟩ (by decide) (rest := []) (Nat.le_of_ble_eq_true rfl) dX12_percent_7 ⟨Nat.le_of_ble_eq_true rfl, Nat.le_of_ble_eq_true rfl⟩ rfl ?_
  refine ww_istore (pc := 10) hC [(7, .int r2), (6, .int ((0 : Int32))), (5, .int ((0 : Int32))), (0, .ref (w.1 0)), (1, .int x1), (2, .int x2), (3, .int x3), (4, .int x4)] dX12_percent_10  (by decide) rfl ?_
  refine ww_sub [3, 4, 5, 6, 7, 2, 1, 0] rfl ?_
  exact j12 _ _ _ _ _ _ _ _ _ h
noncomputable def fX12_sure (x1 : Int32) (x2 : Int32) (X : XD) : Option (Int32 × XD) := bnw (fX12_percent ((0 : Int32)) x1 x2 ((80 : Int32)) X) (fun r2 X_3 => some (r2, X_3))
set_option maxHeartbeats 40000000 in
set_option maxRecDepth 100000 in
theorem ceX12_sure {l : Launch} {E : XE} {w : XW} {z : Nat} {Z : XS} (hL : LayM Z) {x1 : Int32} {x2 : Int32} {X X1 : XD} {r : Int32} (h : fX12_sure x1 x2 X = some (r, X1)) : Ct l E w yX12_sure (wsM yX12_sure cX12_sure 3 (some .int)) (rmX 4 0 0) 0 0 [.ref (w.1 0), .int x1, .int x2] z z Z Z X X1 (some (.int r)) := by
  refine ct_of (by decide) (Nat.le_of_ble_eq_true rfl) ?_
  intro p e s m args below meth c hC hr hin hav
  unfold fX12_sure at h
  refine ww_lv (lv' := [(0, .ref (w.1 0)), (1, .int x1), (2, .int x2)]) rfl ?_
  refine ww_aload_n (pc := 0) hC dX12_sure_0 0 rfl ?_
  refine ww_iconst (pc := 1) hC (v := (0 : Int32)) dX12_sure_1 (by decide) ?_
  refine ww_iload_n (pc := 2) hC dX12_sure_2 1 rfl ?_
  refine ww_iload_n (pc := 3) hC dX12_sure_3 2 rfl ?_
  refine ww_bipush (pc := 4) hC (v := (80 : Int32)) dX12_sure_4 (by decide) ?_
  obtain ⟨r2, X_3, h1, h⟩ := bnw_i h
  refine ww_callVi (pc := 6) hC [.int ((0 : Int32)), .int x1, .int x2, .int ((80 : Int32))] hL.1.1 hL.1.2 (by decide) (ceX12_percent hL h1) ql_X12_289 qi_X12_percent qs_X12_X12_percent qn_X12 qc_X12_percent rfl ⟨by decide, by decide, rfl⟩ rfl ⟨Nat.le_of_ble_eq_true rfl, Nat.le_of_ble_eq_true rfl⟩ (by decide) (rest := []) (Nat.le_of_ble_eq_true rfl) dX12_sure_6 ⟨Nat.le_of_ble_eq_true rfl, Nat.le_of_ble_eq_true rfl⟩ rfl ?_
  exact ww_iret (pc := 9) hC hr h dX12_sure_9
noncomputable def fX12_saves (x1 : Int32) (x2 : Int32) (X : XD) : Option (Int32 × XD) := bnw (fX12_percent ((1 : Int32)) x1 x2 ((40 : Int32)) X) (fun r2 X_3 => some (r2, X_3))
set_option maxHeartbeats 40000000 in
set_option maxRecDepth 100000 in
theorem ceX12_saves {l : Launch} {E : XE} {w : XW} {z : Nat} {Z : XS} (hL : LayM Z) {x1 : Int32} {x2 : Int32} {X X1 : XD} {r : Int32} (h : fX12_saves x1 x2 X = some (r, X1)) : Ct l E w yX12_saves (wsM yX12_saves cX12_saves 3 (some .int)) (rmX 4 0 0) 0 0 [.ref (w.1 0), .int x1, .int x2] z z Z Z X X1 (some (.int r)) := by
  refine ct_of (by decide) (Nat.le_of_ble_eq_true rfl) ?_
  intro p e s m args below meth c hC hr hin hav
  unfold fX12_saves at h
  refine ww_lv (lv' := [(0, .ref (w.1 0)), (1, .int x1), (2, .int x2)]) rfl ?_
  refine ww_aload_n (pc := 0) hC dX12_saves_0 0 rfl ?_
  refine ww_iconst (pc := 1) hC (v := (1 : Int32)) dX12_saves_1 (by decide) ?_
  refine ww_iload_n (pc := 2) hC dX12_saves_2 1 rfl ?_
  refine ww_iload_n (pc := 3) hC dX12_saves_3 2 rfl ?_
  refine ww_bipush (pc := 4) hC (v := (40 : Int32)) dX12_saves_4 (by decide) ?_
  obtain ⟨r2, X_3, h1, h⟩ := bnw_i h
  refine ww_callVi (pc := 6) hC [.int ((1 : Int32)), .int x1, .int x2, .int ((40 : Int32))] hL.1.1 hL.1.2 (by decide) (ceX12_percent hL h1) ql_X12_289 qi_X12_percent qs_X12_X12_percent qn_X12 qc_X12_percent rfl ⟨by decide, by decide, rfl⟩ rfl ⟨Nat.le_of_ble_eq_true rfl, Nat.le_of_ble_eq_true rfl⟩ (by decide) (rest := []) (Nat.le_of_ble_eq_true rfl) dX12_saves_6 ⟨Nat.le_of_ble_eq_true rfl, Nat.le_of_ble_eq_true rfl⟩ rfl ?_
  exact ww_iret (pc := 9) hC hr h dX12_saves_9
noncomputable def fX12_note_71 (k5 : Int32 → Int32 → XD → Option (Int32 × XD)) (x1 : Int32) (x2 : Int32) (X : XD) : Option (Int32 × XD) := nm (x2 + (1 : Int32)) (fun y8 => k5 x1 y8 X)
noncomputable def fX12_note_5 (n : Nat) : Int32 → Int32 → XD → Option (Int32 × XD) := Nat.rec (motive := fun _ => Int32 → Int32 → XD → Option (Int32 × XD)) (fun _ _ _ => none) (fun _ f => fun x1 x2 X => bnd (fX12_behind X) (fun r4 => if r4 ≤ x2 then gin x1 6 (if (X.1 3 (x1).toNatClampNeg) = ((3 : Int32)) then some ((1 : Int32), X) else gin x1 6 (some (X.1 3 (x1).toNatClampNeg, X))) else gin x2 60 (if (X.1 9 (x2).toNatClampNeg) < ((2 : Int32)) then fX12_note_71 (f) x1 x2 X else gin x1 6 (bnw (fX12_holds x2 x1 (X.1 3 (x1).toNatClampNeg) X) (fun r6 X_7 => if r6 = 0 then fX12_note_71 (f) x1 x2 X_7 else gin x2 60 (if (X_7.1 9 (x2).toNatClampNeg) = ((2 : Int32)) then some ((0 : Int32), X_7) else gin x2 60 (if (X_7.1 9 (x2).toNatClampNeg) = ((3 : Int32)) then some ((2 : Int32), X_7) else some ((1 : Int32), X_7)))))))) n
theorem fX12_note_5_s (n : Nat) (x1 : Int32) (x2 : Int32) (X : XD) : fX12_note_5 (n + 1) x1 x2 X = bnd (fX12_behind X) (fun r4 => if r4 ≤ x2 then gin x1 6 (if (X.1 3 (x1).toNatClampNeg) = ((3 : Int32)) then some ((1 : Int32), X) else gin x1 6 (some (X.1 3 (x1).toNatClampNeg, X))) else gin x2 60 (if (X.1 9 (x2).toNatClampNeg) < ((2 : Int32)) then fX12_note_71 ((fX12_note_5 n)) x1 x2 X else gin x1 6 (bnw (fX12_holds x2 x1 (X.1 3 (x1).toNatClampNeg) X) (fun r6 X_7 => if r6 = 0 then fX12_note_71 ((fX12_note_5 n)) x1 x2 X_7 else gin x2 60 (if (X_7.1 9 (x2).toNatClampNeg) = ((2 : Int32)) then some ((0 : Int32), X_7) else gin x2 60 (if (X_7.1 9 (x2).toNatClampNeg) = ((3 : Int32)) then some ((2 : Int32), X_7) else some ((1 : Int32), X_7))))))) := rfl
noncomputable def fX12_note (x1 : Int32) (X : XD) : Option (Int32 × XD) := bnd (fX12_begin X) (fun r2 => fX12_note_5 FU x1 r2 X)
set_option maxHeartbeats 40000000 in
set_option maxRecDepth 100000 in
theorem ceX12_note {l : Launch} {E : XE} {w : XW} {z : Nat} {Z : XS} (hL : LayM Z) {x1 : Int32} {X X1 : XD} {r : Int32} (h : fX12_note x1 X = some (r, X1)) : Ct l E w yX12_note (wsM yX12_note cX12_note 3 (some .int)) (rmX 3 0 0) 0 0 [.ref (w.1 0), .int x1] z z Z Z X X1 (some (.int r)) := by
  refine ct_of (by decide) (Nat.le_of_ble_eq_true rfl) ?_
  intro p e s m args below meth c hC hr hin hav
  have j71 : ∀ (k5 : Int32 → Int32 → XD → Option (Int32 × XD)) (hk5 : ∀ (x1 : Int32) (x2 : Int32) (X : XD), k5 x1 x2 X = some (r, X1) → WW p l e (rmX 3 0 0) s m args below meth c 3 (MQ below (XQ E w z Z X1 (some (.int r))) args s 0 0 (A0 E)) E w 0 0 z Z 5 [(0, .ref (w.1 0)), (1, .int x1), (2, .int x2)] [] X), ∀ (x1 : Int32) (x2 : Int32) (X : XD), fX12_note_71 k5 x1 x2 X = some (r, X1) → WW p l e (rmX 3 0 0) s m args below meth c 3 (MQ below (XQ E w z Z X1 (some (.int r))) args s 0 0 (A0 E)) E w 0 0 z Z 71 [(0, .ref (w.1 0)), (1, .int x1), (2, .int x2)] [] X := by
    intro k5 hk5 x1 x2 X h
    unfold fX12_note_71 at h
    obtain ⟨y8, ey8⟩ : ∃ q, q = x2 + (1 : Int32) := ⟨_, rfl⟩
    replace h := nm_i h ey8
    refine ww_iinc (pc := 71) hC y8 [(2, .int y8), (0, .ref (w.1 0)), (1, .int x1)] dX12_note_71 2 rfl (by rw [ey8]; rfl) (by decide) rfl ?_
    refine ww_goto (pc := 74) hC 5 dX12_note_74 (by decide) ?_
    refine ww_sub [1, 2, 0] rfl ?_
    exact hk5 _ _ _ h
  have j5 : ∀ (n : Nat), ∀ (x1 : Int32) (x2 : Int32) (X : XD), fX12_note_5 n x1 x2 X = some (r, X1) → WW p l e (rmX 3 0 0) s m args below meth c 3 (MQ below (XQ E w z Z X1 (some (.int r))) args s 0 0 (A0 E)) E w 0 0 z Z 5 [(0, .ref (w.1 0)), (1, .int x1), (2, .int x2)] [] X := by
    intro n
    induction n with
    | zero =>
      intro x1 x2 X h
      cases (show none = some (r, X1) from h)
    | succ n ih =>
      intro x1 x2 X h
      rw [fX12_note_5_s] at h
      refine ww_iload_n (pc := 5) hC dX12_note_5 2 rfl ?_
      refine ww_aload_n (pc := 6) hC dX12_note_6 0 rfl ?_
      obtain ⟨r4, h3, h⟩ := bnd_i h
      refine ww_callVi (pc := 7) hC [] hL.1.1 hL.1.2 (by decide) (ceX12_behind hL h3) ql_X12_283 qi_X12_behind qs_X12_X12_behind qn_X12 qc_X12_behind rfl ⟨by decide, by decide, rfl⟩ rfl ⟨Nat.le_of_ble_eq_true rfl, Nat.le_of_ble_eq_true rfl⟩ (by decide) (rest := [.int x2]) (Nat.le_of_ble_eq_true rfl) dX12_note_7 ⟨Nat.le_of_ble_eq_true rfl, Nat.le_of_ble_eq_true rfl⟩ rfl ?_
      refine ww_icmp_ge (pc := 10) hC h 77 dX12_note_10 (by decide) (fun h => ?_) (fun h => ?_)
      · refine ww_aload_n (pc := 77) hC dX12_note_77 0 rfl ?_
        refine ww_getR (pc := 78) hC 12 5 3 hL.1 RX12 (by decide) (by decide) rfl (lay_12_5 hL).1 qf_X12_26 rfl dX12_note_78 ?_
        refine ww_iload_n (pc := 81) hC dX12_note_81 1 rfl ?_
        refine ww_iald (pc := 82) hC ((lay_12_5 hL).2) h dX12_note_82 (fun h => ?_)
        refine ww_iconst (pc := 83) hC (v := (3 : Int32)) dX12_note_83 (by decide) ?_
        refine ww_icmp_ne (pc := 84) hC h 91 dX12_note_84 (by decide) (fun h => ?_) (fun h => ?_)
        · refine ww_aload_n (pc := 91) hC dX12_note_91 0 rfl ?_
          refine ww_getR (pc := 92) hC 12 5 3 hL.1 RX12 (by decide) (by decide) rfl (lay_12_5 hL).1 qf_X12_26 rfl dX12_note_92 ?_
          refine ww_iload_n (pc := 95) hC dX12_note_95 1 rfl ?_
          refine ww_iald (pc := 96) hC ((lay_12_5 hL).2) h dX12_note_96 (fun h => ?_)
          exact ww_iret (pc := 97) hC hr h dX12_note_97
        · refine ww_iconst (pc := 87) hC (v := (1 : Int32)) dX12_note_87 (by decide) ?_
          refine ww_goto (pc := 88) hC 97 dX12_note_88 (by decide) ?_
          exact ww_iret (pc := 97) hC hr h dX12_note_97
      · refine ww_aload_n (pc := 13) hC dX12_note_13 0 rfl ?_
        refine ww_getR (pc := 14) hC 12 16 9 hL.1 RX12 (by decide) (by decide) rfl (lay_12_16 hL).1 qf_X12_59 rfl dX12_note_14 ?_
        refine ww_iload_n (pc := 17) hC dX12_note_17 2 rfl ?_
        refine ww_iald (pc := 18) hC ((lay_12_16 hL).2) h dX12_note_18 (fun h => ?_)
        refine ww_iconst (pc := 19) hC (v := (2 : Int32)) dX12_note_19 (by decide) ?_
        refine ww_icmp_lt (pc := 20) hC h 71 dX12_note_20 (by decide) (fun h => ?_) (fun h => ?_)
        · refine ww_sub [0, 1, 2] rfl ?_
          exact j71 _ ih _ _ _ h
        · refine ww_aload_n (pc := 23) hC dX12_note_23 0 rfl ?_
          refine ww_iload_n (pc := 24) hC dX12_note_24 2 rfl ?_
          refine ww_iload_n (pc := 25) hC dX12_note_25 1 rfl ?_
          refine ww_aload_n (pc := 26) hC dX12_note_26 0 rfl ?_
          refine ww_getR (pc := 27) hC 12 5 3 hL.1 RX12 (by decide) (by decide) rfl (lay_12_5 hL).1 qf_X12_26 rfl dX12_note_27 ?_
          refine ww_iload_n (pc := 30) hC dX12_note_30 1 rfl ?_
          refine ww_iald (pc := 31) hC ((lay_12_5 hL).2) h dX12_note_31 (fun h => ?_)
          obtain ⟨r6, X_7, h5, h⟩ := bnw_i h
          refine ww_callVi (pc := 32) hC [.int x2, .int x1, .int (X.1 3 (x1).toNatClampNeg)] hL.1.1 hL.1.2 (by decide) (ceX12_holds hL h5) ql_X12_286 qi_X12_holds qs_X12_X12_holds qn_X12 qc_X12_holds rfl ⟨by decide, by decide, rfl⟩ rfl ⟨Nat.le_of_ble_eq_true rfl, Nat.le_of_ble_eq_true rfl⟩ (by decide) (rest := []) (Nat.le_of_ble_eq_true rfl) dX12_note_32 ⟨Nat.le_of_ble_eq_true rfl, Nat.le_of_ble_eq_true rfl⟩ rfl ?_
          refine ww_if_ne (pc := 35) hC h 41 dX12_note_35 (by decide) (fun h => ?_) (fun h => ?_)
          · refine ww_aload_n (pc := 41) hC dX12_note_41 0 rfl ?_
            refine ww_getR (pc := 42) hC 12 16 9 hL.1 RX12 (by decide) (by decide) rfl (lay_12_16 hL).1 qf_X12_59 rfl dX12_note_42 ?_
            refine ww_iload_n (pc := 45) hC dX12_note_45 2 rfl ?_
            refine ww_iald (pc := 46) hC ((lay_12_16 hL).2) h dX12_note_46 (fun h => ?_)
            refine ww_iconst (pc := 47) hC (v := (2 : Int32)) dX12_note_47 (by decide) ?_
            refine ww_icmp_ne (pc := 48) hC h 55 dX12_note_48 (by decide) (fun h => ?_) (fun h => ?_)
            · refine ww_aload_n (pc := 55) hC dX12_note_55 0 rfl ?_
              refine ww_getR (pc := 56) hC 12 16 9 hL.1 RX12 (by decide) (by decide) rfl (lay_12_16 hL).1 qf_X12_59 rfl dX12_note_56 ?_
              refine ww_iload_n (pc := 59) hC dX12_note_59 2 rfl ?_
              refine ww_iald (pc := 60) hC ((lay_12_16 hL).2) h dX12_note_60 (fun h => ?_)
              refine ww_iconst (pc := 61) hC (v := (3 : Int32)) dX12_note_61 (by decide) ?_
              refine ww_icmp_ne (pc := 62) hC h 69 dX12_note_62 (by decide) (fun h => ?_) (fun h => ?_)
              · refine ww_iconst (pc := 69) hC (v := (1 : Int32)) dX12_note_69 (by decide) ?_
                exact ww_iret (pc := 70) hC hr h dX12_note_70
              · refine ww_iconst (pc := 65) hC (v := (2 : Int32)) dX12_note_65 (by decide) ?_
                refine ww_goto (pc := 66) hC 70 dX12_note_66 (by decide) ?_
                exact ww_iret (pc := 70) hC hr h dX12_note_70
            · refine ww_iconst (pc := 51) hC (v := (0 : Int32)) dX12_note_51 (by decide) ?_
              refine ww_goto (pc := 52) hC 70 dX12_note_52 (by decide) ?_
              exact ww_iret (pc := 70) hC hr h dX12_note_70
          · refine ww_goto (pc := 38) hC 71 dX12_note_38 (by decide) ?_
            refine ww_sub [0, 1, 2] rfl ?_
            exact j71 _ ih _ _ _ h
  unfold fX12_note at h
  refine ww_lv (lv' := [(0, .ref (w.1 0)), (1, .int x1)]) rfl ?_
  refine ww_aload_n (pc := 0) hC dX12_note_0 0 rfl ?_
  obtain ⟨r2, h1, h⟩ := bnd_i h
  refine ww_callVi (pc := 1) hC [] hL.1.1 hL.1.2 (by decide) (ceX12_begin hL h1) ql_X12_280 qi_X12_begin qs_X12_X12_begin qn_X12 qc_X12_begin rfl ⟨by decide, by decide, rfl⟩ rfl ⟨Nat.le_of_ble_eq_true rfl, Nat.le_of_ble_eq_true rfl⟩ (by decide) (rest := []) (Nat.le_of_ble_eq_true rfl) dX12_note_1 ⟨Nat.le_of_ble_eq_true rfl, Nat.le_of_ble_eq_true rfl⟩ rfl ?_
  refine ww_istore_n (pc := 4) hC [(2, .int r2), (0, .ref (w.1 0)), (1, .int x1)] dX12_note_4 rfl (by decide) rfl ?_
  refine ww_sub [1, 2, 0] rfl ?_
  exact j5 _ _ _ _ h
noncomputable def fX12_plainly (x1 : Int32) (X : XD) : Option Int32 := gin x1 6 (some ((X.1 2 (x1).toNatClampNeg) - (X.1 2 (x1).toNatClampNeg) / ((3 : Int32)) * ((3 : Int32))))
set_option maxHeartbeats 40000000 in
set_option maxRecDepth 100000 in
theorem ceX12_plainly {l : Launch} {E : XE} {w : XW} {z : Nat} {Z : XS} (hL : LayM Z) {x1 : Int32} {X : XD} {r : Int32} (h : fX12_plainly x1 X = some r) : Ct l E w yX12_plainly (wsM yX12_plainly cX12_plainly 2 (some .int)) (rmX 1 0 0) 0 0 [.ref (w.1 0), .int x1] z z Z Z X X (some (.int r)) := by
  refine ct_of (by decide) (Nat.le_of_ble_eq_true rfl) ?_
  intro p e s m args below meth c hC hr hin hav
  unfold fX12_plainly at h
  refine ww_lv (lv' := [(0, .ref (w.1 0)), (1, .int x1)]) rfl ?_
  refine ww_aload_n (pc := 0) hC dX12_plainly_0 0 rfl ?_
  refine ww_getR (pc := 1) hC 12 4 2 hL.1 RX12 (by decide) (by decide) rfl (lay_12_4 hL).1 qf_X12_23 rfl dX12_plainly_1 ?_
  refine ww_iload_n (pc := 4) hC dX12_plainly_4 1 rfl ?_
  refine ww_iald (pc := 5) hC ((lay_12_4 hL).2) h dX12_plainly_5 (fun h => ?_)
  refine ww_iconst (pc := 6) hC (v := (3 : Int32)) dX12_plainly_6 (by decide) ?_
  refine ww_irem (pc := 7) hC dX12_plainly_7 (by decide) ?_
  exact ww_iret (pc := 8) hC hr (ret_r h) dX12_plainly_8
noncomputable def fX12_turned_20 (x1 : Int32) (X : XD) : Option Int32 := bnd (fX12_plainly x1 X) (fun r2 => some r2)
noncomputable def fX12_turned (x1 : Int32) (X : XD) : Option Int32 := gin x1 6 (if (X.1 3 (x1).toNatClampNeg) = ((1 : Int32)) then fX12_turned_20 x1 X else gin x1 6 (if (X.1 3 (x1).toNatClampNeg) = ((3 : Int32)) then fX12_turned_20 x1 X else gin x1 6 (some (((2 : Int32)) - (X.1 3 (x1).toNatClampNeg)))))
set_option maxHeartbeats 40000000 in
set_option maxRecDepth 100000 in
theorem ceX12_turned {l : Launch} {E : XE} {w : XW} {z : Nat} {Z : XS} (hL : LayM Z) {x1 : Int32} {X : XD} {r : Int32} (h : fX12_turned x1 X = some r) : Ct l E w yX12_turned (wsM yX12_turned cX12_turned 2 (some .int)) (rmX 2 0 0) 0 0 [.ref (w.1 0), .int x1] z z Z Z X X (some (.int r)) := by
  refine ct_of (by decide) (Nat.le_of_ble_eq_true rfl) ?_
  intro p e s m args below meth c hC hr hin hav
  have j20 : ∀ (x1 : Int32), fX12_turned_20 x1 X = some r → WW p l e (rmX 2 0 0) s m args below meth c 2 (MQ below (XQ E w z Z X (some (.int r))) args s 0 0 (A0 E)) E w 0 0 z Z 20 [(0, .ref (w.1 0)), (1, .int x1)] [] X := by
    intro x1 h
    unfold fX12_turned_20 at h
    refine ww_aload_n (pc := 20) hC dX12_turned_20 0 rfl ?_
    refine ww_iload_n (pc := 21) hC dX12_turned_21 1 rfl ?_
    obtain ⟨r2, h1, h⟩ := bnd_i h
    refine ww_callVi (pc := 22) hC [.int x1] hL.1.1 hL.1.2 (by decide) (ceX12_plainly hL h1) ql_X12_293 qi_X12_plainly qs_X12_X12_plainly qn_X12 qc_X12_plainly rfl ⟨by decide, by decide, rfl⟩ rfl ⟨Nat.le_of_ble_eq_true rfl, Nat.le_of_ble_eq_true rfl⟩ (by decide) (rest := []) (Nat.le_of_ble_eq_true rfl) dX12_turned_22 ⟨Nat.le_of_ble_eq_true rfl, Nat.le_of_ble_eq_true rfl⟩ rfl ?_
    refine ww_goto (pc := 25) hC 36 dX12_turned_25 (by decide) ?_
    exact ww_iret (pc := 36) hC hr (ret_r h) dX12_turned_36
  unfold fX12_turned at h
  refine ww_lv (lv' := [(0, .ref (w.1 0)), (1, .int x1)]) rfl ?_
  refine ww_aload_n (pc := 0) hC dX12_turned_0 0 rfl ?_
  refine ww_getR (pc := 1) hC 12 5 3 hL.1 RX12 (by decide) (by decide) rfl (lay_12_5 hL).1 qf_X12_26 rfl dX12_turned_1 ?_
  refine ww_iload_n (pc := 4) hC dX12_turned_4 1 rfl ?_
  refine ww_iald (pc := 5) hC ((lay_12_5 hL).2) h dX12_turned_5 (fun h => ?_)
  refine ww_iconst (pc := 6) hC (v := (1 : Int32)) dX12_turned_6 (by decide) ?_
  refine ww_icmp_eq (pc := 7) hC h 20 dX12_turned_7 (by decide) (fun h => ?_) (fun h => ?_)
  · refine ww_sub [0, 1] rfl ?_
    exact j20 _ h
  · refine ww_aload_n (pc := 10) hC dX12_turned_10 0 rfl ?_
    refine ww_getR (pc := 11) hC 12 5 3 hL.1 RX12 (by decide) (by decide) rfl (lay_12_5 hL).1 qf_X12_26 rfl dX12_turned_11 ?_
    refine ww_iload_n (pc := 14) hC dX12_turned_14 1 rfl ?_
    refine ww_iald (pc := 15) hC ((lay_12_5 hL).2) h dX12_turned_15 (fun h => ?_)
    refine ww_iconst (pc := 16) hC (v := (3 : Int32)) dX12_turned_16 (by decide) ?_
    refine ww_icmp_ne (pc := 17) hC h 28 dX12_turned_17 (by decide) (fun h => ?_) (fun h => ?_)
    · refine ww_iconst (pc := 28) hC (v := (2 : Int32)) dX12_turned_28 (by decide) ?_
      refine ww_aload_n (pc := 29) hC dX12_turned_29 0 rfl ?_
      refine ww_getR (pc := 30) hC 12 5 3 hL.1 RX12 (by decide) (by decide) rfl (lay_12_5 hL).1 qf_X12_26 rfl dX12_turned_30 ?_
      refine ww_iload_n (pc := 33) hC dX12_turned_33 1 rfl ?_
      refine ww_iald (pc := 34) hC ((lay_12_5 hL).2) h dX12_turned_34 (fun h => ?_)
      refine ww_isub (pc := 35) hC dX12_turned_35 ?_
      exact ww_iret (pc := 36) hC hr (ret_r h) dX12_turned_36
    · refine ww_sub [0, 1] rfl ?_
      exact j20 _ h
noncomputable def fX12_steady (x1 : Int32) (X : XD) : Option Int32 := gin x1 6 (if (X.1 3 (x1).toNatClampNeg) = ((3 : Int32)) then bnd (fX12_plainly x1 X) (fun r2 => some r2) else gin x1 6 (some (X.1 3 (x1).toNatClampNeg)))
set_option maxHeartbeats 40000000 in
set_option maxRecDepth 100000 in
theorem ceX12_steady {l : Launch} {E : XE} {w : XW} {z : Nat} {Z : XS} (hL : LayM Z) {x1 : Int32} {X : XD} {r : Int32} (h : fX12_steady x1 X = some r) : Ct l E w yX12_steady (wsM yX12_steady cX12_steady 2 (some .int)) (rmX 2 0 0) 0 0 [.ref (w.1 0), .int x1] z z Z Z X X (some (.int r)) := by
  refine ct_of (by decide) (Nat.le_of_ble_eq_true rfl) ?_
  intro p e s m args below meth c hC hr hin hav
  unfold fX12_steady at h
  refine ww_lv (lv' := [(0, .ref (w.1 0)), (1, .int x1)]) rfl ?_
  refine ww_aload_n (pc := 0) hC dX12_steady_0 0 rfl ?_
  refine ww_getR (pc := 1) hC 12 5 3 hL.1 RX12 (by decide) (by decide) rfl (lay_12_5 hL).1 qf_X12_26 rfl dX12_steady_1 ?_
  refine ww_iload_n (pc := 4) hC dX12_steady_4 1 rfl ?_
  refine ww_iald (pc := 5) hC ((lay_12_5 hL).2) h dX12_steady_5 (fun h => ?_)
  refine ww_iconst (pc := 6) hC (v := (3 : Int32)) dX12_steady_6 (by decide) ?_
  refine ww_icmp_ne (pc := 7) hC h 18 dX12_steady_7 (by decide) (fun h => ?_) (fun h => ?_)
  · refine ww_aload_n (pc := 18) hC dX12_steady_18 0 rfl ?_
    refine ww_getR (pc := 19) hC 12 5 3 hL.1 RX12 (by decide) (by decide) rfl (lay_12_5 hL).1 qf_X12_26 rfl dX12_steady_19 ?_
    refine ww_iload_n (pc := 22) hC dX12_steady_22 1 rfl ?_
    refine ww_iald (pc := 23) hC ((lay_12_5 hL).2) h dX12_steady_23 (fun h => ?_)
    exact ww_iret (pc := 24) hC hr (ret_r h) dX12_steady_24
  · refine ww_aload_n (pc := 10) hC dX12_steady_10 0 rfl ?_
    refine ww_iload_n (pc := 11) hC dX12_steady_11 1 rfl ?_
    obtain ⟨r2, h1, h⟩ := bnd_i h
    refine ww_callVi (pc := 12) hC [.int x1] hL.1.1 hL.1.2 (by decide) (ceX12_plainly hL h1) ql_X12_293 qi_X12_plainly qs_X12_X12_plainly qn_X12 qc_X12_plainly rfl ⟨by decide, by decide, rfl⟩ rfl ⟨Nat.le_of_ble_eq_true rfl, Nat.le_of_ble_eq_true rfl⟩ (by decide) (rest := []) (Nat.le_of_ble_eq_true rfl) dX12_steady_12 ⟨Nat.le_of_ble_eq_true rfl, Nat.le_of_ble_eq_true rfl⟩ rfl ?_
    refine ww_goto (pc := 15) hC 24 dX12_steady_15 (by decide) ?_
    exact ww_iret (pc := 24) hC hr (ret_r h) dX12_steady_24
noncomputable def fX12_waits_46 (k11 : Int32 → Int32 → Int32 → Int32 → XD → Option (Int32 × XD)) (x1 : Int32) (x2 : Int32) (x3 : Int32) (x4 : Int32) (X : XD) : Option (Int32 × XD) := nm (x4 + (1 : Int32)) (fun y10 => k11 x1 x2 x3 y10 X)
noncomputable def fX12_waits_43 (k11 : Int32 → Int32 → Int32 → Int32 → XD → Option (Int32 × XD)) (x1 : Int32) (x2 : Int32) (x4 : Int32) (X : XD) : Option (Int32 × XD) := fX12_waits_46 k11 x1 x2 x4 x4 X
noncomputable def fX12_waits_11 (n : Nat) : Int32 → Int32 → Int32 → Int32 → XD → Option (Int32 × XD) := Nat.rec (motive := fun _ => Int32 → Int32 → Int32 → Int32 → XD → Option (Int32 × XD)) (fun _ _ _ _ _ => none) (fun _ f => fun x1 x2 x3 x4 X => if ((3 : Int32)) ≤ x4 then some (x3, X) else if x4 = x2 then fX12_waits_46 (f) x1 x2 x3 x4 X else if x3 < 0 then fX12_waits_43 (f) x1 x2 x4 X else bnw (fX12_sure x1 x4 X) (fun r5 X_6 => bnw (fX12_sure x1 x3 X_6) (fun r8 X_9 => if r5 ≤ r8 then fX12_waits_46 (f) x1 x2 x3 x4 X_9 else fX12_waits_43 (f) x1 x2 x4 X_9))) n
theorem fX12_waits_11_s (n : Nat) (x1 : Int32) (x2 : Int32) (x3 : Int32) (x4 : Int32) (X : XD) : fX12_waits_11 (n + 1) x1 x2 x3 x4 X = if ((3 : Int32)) ≤ x4 then some (x3, X) else if x4 = x2 then fX12_waits_46 ((fX12_waits_11 n)) x1 x2 x3 x4 X else if x3 < 0 then fX12_waits_43 ((fX12_waits_11 n)) x1 x2 x4 X else bnw (fX12_sure x1 x4 X) (fun r5 X_6 => bnw (fX12_sure x1 x3 X_6) (fun r8 X_9 => if r5 ≤ r8 then fX12_waits_46 ((fX12_waits_11 n)) x1 x2 x3 x4 X_9 else fX12_waits_43 ((fX12_waits_11 n)) x1 x2 x4 X_9)) := rfl
noncomputable def fX12_waits (x1 : Int32) (X : XD) : Option (Int32 × XD) := bnw (fX12_note x1 X) (fun r2 X_3 => fX12_waits_11 FU x1 r2 ((-1 : Int32)) ((0 : Int32)) X_3)
set_option maxHeartbeats 40000000 in
set_option maxRecDepth 100000 in
theorem ceX12_waits {l : Launch} {E : XE} {w : XW} {z : Nat} {Z : XS} (hL : LayM Z) {x1 : Int32} {X X1 : XD} {r : Int32} (h : fX12_waits x1 X = some (r, X1)) : Ct l E w yX12_waits (wsM yX12_waits cX12_waits 5 (some .int)) (rmX 5 0 0) 0 0 [.ref (w.1 0), .int x1] z z Z Z X X1 (some (.int r)) := by
  refine ct_of (by decide) (Nat.le_of_ble_eq_true rfl) ?_
  intro p e s m args below meth c hC hr hin hav
  have j46 : ∀ (k11 : Int32 → Int32 → Int32 → Int32 → XD → Option (Int32 × XD)) (hk11 : ∀ (x1 : Int32) (x2 : Int32) (x3 : Int32) (x4 : Int32) (X : XD), k11 x1 x2 x3 x4 X = some (r, X1) → WW p l e (rmX 5 0 0) s m args below meth c 5 (MQ below (XQ E w z Z X1 (some (.int r))) args s 0 0 (A0 E)) E w 0 0 z Z 11 [(0, .ref (w.1 0)), (1, .int x1), (2, .int x2), (3, .int x3), (4, .int x4)] [] X), ∀ (x1 : Int32) (x2 : Int32) (x3 : Int32) (x4 : Int32) (X : XD), fX12_waits_46 k11 x1 x2 x3 x4 X = some (r, X1) → WW p l e (rmX 5 0 0) s m args below meth c 5 (MQ below (XQ E w z Z X1 (some (.int r))) args s 0 0 (A0 E)) E w 0 0 z Z 46 [(0, .ref (w.1 0)), (1, .int x1), (2, .int x2), (3, .int x3), (4, .int x4)] [] X := by
    intro k11 hk11 x1 x2 x3 x4 X h
    unfold fX12_waits_46 at h
    obtain ⟨y10, ey10⟩ : ∃ q, q = x4 + (1 : Int32) := ⟨_, rfl⟩
    replace h := nm_i h ey10
    refine ww_iinc (pc := 46) hC y10 [(4, .int y10), (0, .ref (w.1 0)), (1, .int x1), (2, .int x2), (3, .int x3)] dX12_waits_46 4 rfl (by rw [ey10]; rfl) (by decide) rfl ?_
    refine ww_goto (pc := 49) hC 11 dX12_waits_49 (by decide) ?_
    refine ww_sub [1, 2, 3, 4, 0] rfl ?_
    exact hk11 _ _ _ _ _ h
  have j43 : ∀ (k11 : Int32 → Int32 → Int32 → Int32 → XD → Option (Int32 × XD)) (hk11 : ∀ (x1 : Int32) (x2 : Int32) (x3 : Int32) (x4 : Int32) (X : XD), k11 x1 x2 x3 x4 X = some (r, X1) → WW p l e (rmX 5 0 0) s m args below meth c 5 (MQ below (XQ E w z Z X1 (some (.int r))) args s 0 0 (A0 E)) E w 0 0 z Z 11 [(0, .ref (w.1 0)), (1, .int x1), (2, .int x2), (3, .int x3), (4, .int x4)] [] X), ∀ (x1 : Int32) (x2 : Int32) (x4 : Int32) (X : XD), fX12_waits_43 k11 x1 x2 x4 X = some (r, X1) → WW p l e (rmX 5 0 0) s m args below meth c 5 (MQ below (XQ E w z Z X1 (some (.int r))) args s 0 0 (A0 E)) E w 0 0 z Z 43 [(0, .ref (w.1 0)), (1, .int x1), (2, .int x2), (4, .int x4)] [] X := by
    intro k11 hk11 x1 x2 x4 X h
    unfold fX12_waits_43 at h
    refine ww_iload (pc := 43) hC dX12_waits_43 3 rfl ?_
    refine ww_istore_n (pc := 45) hC [(3, .int x4), (0, .ref (w.1 0)), (1, .int x1), (2, .int x2), (4, .int x4)] dX12_waits_45 rfl (by decide) rfl ?_
    refine ww_sub [1, 2, 3, 0, 4] rfl ?_
    exact j46 _ hk11 _ _ _ _ _ h
  have j11 : ∀ (n : Nat), ∀ (x1 : Int32) (x2 : Int32) (x3 : Int32) (x4 : Int32) (X : XD), fX12_waits_11 n x1 x2 x3 x4 X = some (r, X1) → WW p l e (rmX 5 0 0) s m args below meth c 5 (MQ below (XQ E w z Z X1 (some (.int r))) args s 0 0 (A0 E)) E w 0 0 z Z 11 [(0, .ref (w.1 0)), (1, .int x1), (2, .int x2), (3, .int x3), (4, .int x4)] [] X := by
    intro n
    induction n with
    | zero =>
      intro x1 x2 x3 x4 X h
      cases (show none = some (r, X1) from h)
    | succ n ih =>
      intro x1 x2 x3 x4 X h
      rw [fX12_waits_11_s] at h
      refine ww_iload (pc := 11) hC dX12_waits_11 4 rfl ?_
      refine ww_iconst (pc := 13) hC (v := (3 : Int32)) dX12_waits_13 (by decide) ?_
      refine ww_icmp_ge (pc := 14) hC h 52 dX12_waits_14 (by decide) (fun h => ?_) (fun h => ?_)
      · refine ww_iload_n (pc := 52) hC dX12_waits_52 3 rfl ?_
        exact ww_iret (pc := 53) hC hr h dX12_waits_53
      · refine ww_iload (pc := 17) hC dX12_waits_17 4 rfl ?_
        refine ww_iload_n (pc := 19) hC dX12_waits_19 2 rfl ?_
        refine ww_icmp_eq (pc := 20) hC h 46 dX12_waits_20 (by decide) (fun h => ?_) (fun h => ?_)
        · refine ww_sub [0, 1, 2, 3, 4] rfl ?_
          exact j46 _ ih _ _ _ _ _ h
        · refine ww_iload_n (pc := 23) hC dX12_waits_23 3 rfl ?_
          refine ww_if_lt (pc := 24) hC h 43 dX12_waits_24 (by decide) (fun h => ?_) (fun h => ?_)
          · refine ww_sub [0, 1, 2, 4] rfl ?_
            exact j43 _ ih _ _ _ _ h
          · refine ww_aload_n (pc := 27) hC dX12_waits_27 0 rfl ?_
            refine ww_iload_n (pc := 28) hC dX12_waits_28 1 rfl ?_
            refine ww_iload (pc := 29) hC dX12_waits_29 4 rfl ?_
            obtain ⟨r5, X_6, h4, h⟩ := bnw_i h
            refine ww_callVi (pc := 31) hC [.int x1, .int x4] hL.1.1 hL.1.2 (by decide) (ceX12_sure hL h4) ql_X12_299 qi_X12_sure qs_X12_X12_sure qn_X12 qc_X12_sure rfl ⟨by decide, by decide, rfl⟩ rfl ⟨Nat.le_of_ble_eq_true rfl, Nat.le_of_ble_eq_true rfl⟩ (by decide) (rest := []) (Nat.le_of_ble_eq_true rfl) dX12_waits_31 ⟨Nat.le_of_ble_eq_true rfl, Nat.le_of_ble_eq_true rfl⟩ rfl ?_
            refine ww_aload_n (pc := 34) hC dX12_waits_34 0 rfl ?_
            refine ww_iload_n (pc := 35) hC dX12_waits_35 1 rfl ?_
            refine ww_iload_n (pc := 36) hC dX12_waits_36 3 rfl ?_
            obtain ⟨r8, X_9, h7, h⟩ := bnw_i h
            refine ww_callVi (pc := 37) hC [.int x1, .int x3] hL.1.1 hL.1.2 (by decide) (ceX12_sure hL h7) ql_X12_299 qi_X12_sure qs_X12_X12_sure qn_X12 qc_X12_sure rfl ⟨by decide, by decide, rfl⟩ rfl ⟨Nat.le_of_ble_eq_true rfl, Nat.le_of_ble_eq_true rfl⟩ (by decide) (rest := [.int r5]) (Nat.le_of_ble_eq_true rfl) dX12_waits_37 ⟨Nat.le_of_ble_eq_true rfl, Nat.le_of_ble_eq_true rfl⟩ rfl ?_
            refine ww_icmp_le (pc := 40) hC h 46 dX12_waits_40 (by decide) (fun h => ?_) (fun h => ?_)
            · refine ww_sub [0, 1, 2, 3, 4] rfl ?_
              exact j46 _ ih _ _ _ _ _ h
            · refine ww_sub [0, 1, 2, 4] rfl ?_
              exact j43 _ ih _ _ _ _ h
  unfold fX12_waits at h
  refine ww_lv (lv' := [(0, .ref (w.1 0)), (1, .int x1)]) rfl ?_
  refine ww_aload_n (pc := 0) hC dX12_waits_0 0 rfl ?_
  refine ww_iload_n (pc := 1) hC dX12_waits_1 1 rfl ?_
  obtain ⟨r2, X_3, h1, h⟩ := bnw_i h
  refine ww_callVi (pc := 2) hC [.int x1] hL.1.1 hL.1.2 (by decide) (ceX12_note hL h1) ql_X12_296 qi_X12_note qs_X12_X12_note qn_X12 qc_X12_note rfl ⟨by decide, by decide, rfl⟩ rfl ⟨Nat.le_of_ble_eq_true rfl, Nat.le_of_ble_eq_true rfl⟩ (by decide) (rest := []) (Nat.le_of_ble_eq_true rfl) dX12_waits_2 ⟨Nat.le_of_ble_eq_true rfl, Nat.le_of_ble_eq_true rfl⟩ rfl ?_
  refine ww_istore_n (pc := 5) hC [(2, .int r2), (0, .ref (w.1 0)), (1, .int x1)] dX12_waits_5 rfl (by decide) rfl ?_
  refine ww_iconst (pc := 6) hC (v := (-1 : Int32)) dX12_waits_6 (by decide) ?_
  refine ww_istore_n (pc := 7) hC [(3, .int ((-1 : Int32))), (2, .int r2), (0, .ref (w.1 0)), (1, .int x1)] dX12_waits_7 rfl (by decide) rfl ?_
  refine ww_iconst (pc := 8) hC (v := (0 : Int32)) dX12_waits_8 (by decide) ?_
  refine ww_istore (pc := 9) hC [(4, .int ((0 : Int32))), (3, .int ((-1 : Int32))), (2, .int r2), (0, .ref (w.1 0)), (1, .int x1)] dX12_waits_9  (by decide) rfl ?_
  refine ww_sub [3, 4, 2, 1, 0] rfl ?_
  exact j11 _ _ _ _ _ _ h
