noncomputable def fX12_aim (x1 : Int32) (X : XD) : Option (Int32 × XD) := gin x1 6 (if (X.1 1 (x1).toNatClampNeg) = (1 : Int32) then bnd (fX12_turned x1 X) (fun r3 => some (r3, X)) else (if (X.1 1 (x1).toNatClampNeg) = (2 : Int32) then bnd (fX12_steady x1 X) (fun r6 => some (r6, X)) else (if (X.1 1 (x1).toNatClampNeg) = (3 : Int32) then bnw (fX12_waits x1 X) (fun r9 X_10 => some (r9, X_10)) else (if (X.1 1 (x1).toNatClampNeg) = (4 : Int32) then gin x1 6 (if ((X.1 4 (x1).toNatClampNeg) - (X.1 4 (x1).toNatClampNeg) / ((2 : Int32)) * ((2 : Int32))) = 0 then bnd (fX12_turned x1 X) (fun r13 => some (r13, X)) else some ((1 : Int32), X)) else (if (X.1 1 (x1).toNatClampNeg) = (5 : Int32) then gin x1 6 (if ((3 : Int32)) ≤ (X.1 4 (x1).toNatClampNeg) then bnd (fX12_steady x1 X) (fun r16 => some (((2 : Int32)) - r16, X)) else bnd (fX12_steady x1 X) (fun r18 => some (r18, X))) else (if (X.1 1 (x1).toNatClampNeg) = (6 : Int32) then bnw (fX12_note x1 X) (fun r21 X_22 => if r21 = ((1 : Int32)) then gin x1 6 (gin ((((4 : Int32)) * x1) + ((X_22.1 4 (x1).toNatClampNeg) - (X_22.1 4 (x1).toNatClampNeg) / ((4 : Int32)) * ((4 : Int32)))) 24 (some (X_22.1 6 ((((4 : Int32)) * x1) + ((X_22.1 4 (x1).toNatClampNeg) - (X_22.1 4 (x1).toNatClampNeg) / ((4 : Int32)) * ((4 : Int32)))).toNatClampNeg, X_22))) else bnw (fX12_waits x1 X_22) (fun r24 X_25 => some (r24, X_25))) else (bnd (fX12_plainly x1 X) (fun r27 => some (r27, X)))))))))
set_option maxHeartbeats 40000000 in
set_option maxRecDepth 100000 in
theorem ceX12_aim {l : Launch} {E : XE} {w : XW} {z : Nat} {Z : XS} (hL : LayM Z) {x1 : Int32} {X X1 : XD} {r : Int32} (h : fX12_aim x1 X = some (r, X1)) : Ct l E w yX12_aim (wsM yX12_aim cX12_aim 2 (some .int)) (rmX 6 0 0) 0 0 [.ref (w.1 0), .int x1] z z Z Z X X1 (some (.int r)) := by
  refine ct_of (by decide) (Nat.le_of_ble_eq_true rfl) ?_
  intro p e s m args below meth c hC hr hin hav
  unfold fX12_aim at h
  refine ww_lv (lv' := [(0, .ref (w.1 0)), (1, .int x1)]) rfl ?_
  refine ww_aload_n (pc := 0) hC dX12_aim_0 0 rfl ?_
  refine ww_getR (pc := 1) hC 12 3 1 hL.1 RX12 (by decide) (by decide) rfl (lay_12_3 hL).1 qf_X12_19 rfl dX12_aim_1 ?_
  refine ww_iload_n (pc := 4) hC dX12_aim_4 1 rfl ?_
  refine ww_iald (pc := 5) hC ((lay_12_3 hL).2) h dX12_aim_5 (fun h => ?_)
  rcases Classical.em (X.1 1 (x1).toNatClampNeg = (1 : Int32)) with q1 | q1
  · replace h := ite_t h q1
    refine ww_tableIn (pc := 6) hC 44 dX12_aim_6 (1 : Int32) q1 (by decide) (by decide) rfl (by decide) ?_
    refine ww_aload_n (pc := 44) hC dX12_aim_44 0 rfl ?_
    refine ww_iload_n (pc := 45) hC dX12_aim_45 1 rfl ?_
    obtain ⟨r3, h2, h⟩ := bnd_i h
    refine ww_callVi (pc := 46) hC [.int x1] hL.1.1 hL.1.2 (by decide) (ceX12_turned hL h2) ql_X12_303 qi_X12_turned qs_X12_X12_turned qn_X12 qc_X12_turned rfl ⟨by decide, by decide, rfl⟩ rfl ⟨Nat.le_of_ble_eq_true rfl, Nat.le_of_ble_eq_true rfl⟩ (by decide) (rest := []) (Nat.le_of_ble_eq_true rfl) dX12_aim_46 ⟨Nat.le_of_ble_eq_true rfl, Nat.le_of_ble_eq_true rfl⟩ rfl ?_
    exact ww_iret (pc := 49) hC hr h dX12_aim_49
  replace h := ite_f h q1
  rcases Classical.em (X.1 1 (x1).toNatClampNeg = (2 : Int32)) with q4 | q4
  · replace h := ite_t h q4
    refine ww_tableIn (pc := 6) hC 50 dX12_aim_6 (2 : Int32) q4 (by decide) (by decide) rfl (by decide) ?_
    refine ww_aload_n (pc := 50) hC dX12_aim_50 0 rfl ?_
    refine ww_iload_n (pc := 51) hC dX12_aim_51 1 rfl ?_
    obtain ⟨r6, h5, h⟩ := bnd_i h
    refine ww_callVi (pc := 52) hC [.int x1] hL.1.1 hL.1.2 (by decide) (ceX12_steady hL h5) ql_X12_306 qi_X12_steady qs_X12_X12_steady qn_X12 qc_X12_steady rfl ⟨by decide, by decide, rfl⟩ rfl ⟨Nat.le_of_ble_eq_true rfl, Nat.le_of_ble_eq_true rfl⟩ (by decide) (rest := []) (Nat.le_of_ble_eq_true rfl) dX12_aim_52 ⟨Nat.le_of_ble_eq_true rfl, Nat.le_of_ble_eq_true rfl⟩ rfl ?_
    exact ww_iret (pc := 55) hC hr h dX12_aim_55
  replace h := ite_f h q4
  rcases Classical.em (X.1 1 (x1).toNatClampNeg = (3 : Int32)) with q7 | q7
  · replace h := ite_t h q7
    refine ww_tableIn (pc := 6) hC 56 dX12_aim_6 (3 : Int32) q7 (by decide) (by decide) rfl (by decide) ?_
    refine ww_aload_n (pc := 56) hC dX12_aim_56 0 rfl ?_
    refine ww_iload_n (pc := 57) hC dX12_aim_57 1 rfl ?_
    obtain ⟨r9, X_10, h8, h⟩ := bnw_i h
    refine ww_callVi (pc := 58) hC [.int x1] hL.1.1 hL.1.2 (by decide) (ceX12_waits hL h8) ql_X12_309 qi_X12_waits qs_X12_X12_waits qn_X12 qc_X12_waits rfl ⟨by decide, by decide, rfl⟩ rfl ⟨Nat.le_of_ble_eq_true rfl, Nat.le_of_ble_eq_true rfl⟩ (by decide) (rest := []) (Nat.le_of_ble_eq_true rfl) dX12_aim_58 ⟨Nat.le_of_ble_eq_true rfl, Nat.le_of_ble_eq_true rfl⟩ rfl ?_
    exact ww_iret (pc := 61) hC hr h dX12_aim_61
  replace h := ite_f h q7
  rcases Classical.em (X.1 1 (x1).toNatClampNeg = (4 : Int32)) with q11 | q11
  · replace h := ite_t h q11
    refine ww_tableIn (pc := 6) hC 62 dX12_aim_6 (4 : Int32) q11 (by decide) (by decide) rfl (by decide) ?_
    refine ww_aload_n (pc := 62) hC dX12_aim_62 0 rfl ?_
    refine ww_getR (pc := 63) hC 12 6 4 hL.1 RX12 (by decide) (by decide) rfl (lay_12_6 hL).1 qf_X12_29 rfl dX12_aim_63 ?_
    refine ww_iload_n (pc := 66) hC dX12_aim_66 1 rfl ?_
    refine ww_iald (pc := 67) hC ((lay_12_6 hL).2) h dX12_aim_67 (fun h => ?_)
    refine ww_iconst (pc := 68) hC (v := (2 : Int32)) dX12_aim_68 (by decide) ?_
    refine ww_irem (pc := 69) hC dX12_aim_69 (by decide) ?_
    refine ww_if_ne (pc := 70) hC h 81 dX12_aim_70 (by decide) (fun h => ?_) (fun h => ?_)
    · refine ww_iconst (pc := 81) hC (v := (1 : Int32)) dX12_aim_81 (by decide) ?_
      exact ww_iret (pc := 82) hC hr h dX12_aim_82
    · refine ww_aload_n (pc := 73) hC dX12_aim_73 0 rfl ?_
      refine ww_iload_n (pc := 74) hC dX12_aim_74 1 rfl ?_
      obtain ⟨r13, h12, h⟩ := bnd_i h
      refine ww_callVi (pc := 75) hC [.int x1] hL.1.1 hL.1.2 (by decide) (ceX12_turned hL h12) ql_X12_303 qi_X12_turned qs_X12_X12_turned qn_X12 qc_X12_turned rfl ⟨by decide, by decide, rfl⟩ rfl ⟨Nat.le_of_ble_eq_true rfl, Nat.le_of_ble_eq_true rfl⟩ (by decide) (rest := []) (Nat.le_of_ble_eq_true rfl) dX12_aim_75 ⟨Nat.le_of_ble_eq_true rfl, Nat.le_of_ble_eq_true rfl⟩ rfl ?_
      refine ww_goto (pc := 78) hC 82 dX12_aim_78 (by decide) ?_
      exact ww_iret (pc := 82) hC hr h dX12_aim_82
  replace h := ite_f h q11
  rcases Classical.em (X.1 1 (x1).toNatClampNeg = (5 : Int32)) with q14 | q14
  · replace h := ite_t h q14
    refine ww_tableIn (pc := 6) hC 83 dX12_aim_6 (5 : Int32) q14 (by decide) (by decide) rfl (by decide) ?_
    refine ww_aload_n (pc := 83) hC dX12_aim_83 0 rfl ?_
    refine ww_getR (pc := 84) hC 12 6 4 hL.1 RX12 (by decide) (by decide) rfl (lay_12_6 hL).1 qf_X12_29 rfl dX12_aim_84 ?_
    refine ww_iload_n (pc := 87) hC dX12_aim_87 1 rfl ?_
    refine ww_iald (pc := 88) hC ((lay_12_6 hL).2) h dX12_aim_88 (fun h => ?_)
    refine ww_iconst (pc := 89) hC (v := (3 : Int32)) dX12_aim_89 (by decide) ?_
    refine ww_icmp_ge (pc := 90) hC h 101 dX12_aim_90 (by decide) (fun h => ?_) (fun h => ?_)
    · refine ww_iconst (pc := 101) hC (v := (2 : Int32)) dX12_aim_101 (by decide) ?_
      refine ww_aload_n (pc := 102) hC dX12_aim_102 0 rfl ?_
      refine ww_iload_n (pc := 103) hC dX12_aim_103 1 rfl ?_
      obtain ⟨r16, h15, h⟩ := bnd_i h
      refine ww_callVi (pc := 104) hC [.int x1] hL.1.1 hL.1.2 (by decide) (ceX12_steady hL h15) ql_X12_306 qi_X12_steady qs_X12_X12_steady qn_X12 qc_X12_steady rfl ⟨by decide, by decide, rfl⟩ rfl ⟨Nat.le_of_ble_eq_true rfl, Nat.le_of_ble_eq_true rfl⟩ (by decide) (rest := [.int ((2 : Int32))]) (Nat.le_of_ble_eq_true rfl) dX12_aim_104 ⟨Nat.le_of_ble_eq_true rfl, Nat.le_of_ble_eq_true rfl⟩ rfl ?_
      refine ww_isub (pc := 107) hC dX12_aim_107 ?_
      exact ww_iret (pc := 108) hC hr h dX12_aim_108
    · refine ww_aload_n (pc := 93) hC dX12_aim_93 0 rfl ?_
      refine ww_iload_n (pc := 94) hC dX12_aim_94 1 rfl ?_
      obtain ⟨r18, h17, h⟩ := bnd_i h
      refine ww_callVi (pc := 95) hC [.int x1] hL.1.1 hL.1.2 (by decide) (ceX12_steady hL h17) ql_X12_306 qi_X12_steady qs_X12_X12_steady qn_X12 qc_X12_steady rfl ⟨by decide, by decide, rfl⟩ rfl ⟨Nat.le_of_ble_eq_true rfl, Nat.le_of_ble_eq_true rfl⟩ (by decide) (rest := []) (Nat.le_of_ble_eq_true rfl) dX12_aim_95 ⟨Nat.le_of_ble_eq_true rfl, Nat.le_of_ble_eq_true rfl⟩ rfl ?_
      refine ww_goto (pc := 98) hC 108 dX12_aim_98 (by decide) ?_
      exact ww_iret (pc := 108) hC hr h dX12_aim_108
  replace h := ite_f h q14
  rcases Classical.em (X.1 1 (x1).toNatClampNeg = (6 : Int32)) with q19 | q19
  · replace h := ite_t h q19
    refine ww_tableIn (pc := 6) hC 109 dX12_aim_6 (6 : Int32) q19 (by decide) (by decide) rfl (by decide) ?_
    refine ww_aload_n (pc := 109) hC dX12_aim_109 0 rfl ?_
    refine ww_iload_n (pc := 110) hC dX12_aim_110 1 rfl ?_
    obtain ⟨r21, X_22, h20, h⟩ := bnw_i h
    refine ww_callVi (pc := 111) hC [.int x1] hL.1.1 hL.1.2 (by decide) (ceX12_note hL h20) ql_X12_296 qi_X12_note qs_X12_X12_note qn_X12 qc_X12_note rfl ⟨by decide, by decide, rfl⟩ rfl ⟨Nat.le_of_ble_eq_true rfl, Nat.le_of_ble_eq_true rfl⟩ (by decide) (rest := []) (Nat.le_of_ble_eq_true rfl) dX12_aim_111 ⟨Nat.le_of_ble_eq_true rfl, Nat.le_of_ble_eq_true rfl⟩ rfl ?_
    refine ww_iconst (pc := 114) hC (v := (1 : Int32)) dX12_aim_114 (by decide) ?_
    refine ww_icmp_ne (pc := 115) hC h 138 dX12_aim_115 (by decide) (fun h => ?_) (fun h => ?_)
    · refine ww_aload_n (pc := 138) hC dX12_aim_138 0 rfl ?_
      refine ww_iload_n (pc := 139) hC dX12_aim_139 1 rfl ?_
      obtain ⟨r24, X_25, h23, h⟩ := bnw_i h
      refine ww_callVi (pc := 140) hC [.int x1] hL.1.1 hL.1.2 (by decide) (ceX12_waits hL h23) ql_X12_309 qi_X12_waits qs_X12_X12_waits qn_X12 qc_X12_waits rfl ⟨by decide, by decide, rfl⟩ rfl ⟨Nat.le_of_ble_eq_true rfl, Nat.le_of_ble_eq_true rfl⟩ (by decide) (rest := []) (Nat.le_of_ble_eq_true rfl) dX12_aim_140 ⟨Nat.le_of_ble_eq_true rfl, Nat.le_of_ble_eq_true rfl⟩ rfl ?_
      exact ww_iret (pc := 143) hC hr h dX12_aim_143
    · refine ww_aload_n (pc := 118) hC dX12_aim_118 0 rfl ?_
      refine ww_getR (pc := 119) hC 12 8 6 hL.1 RX12 (by decide) (by decide) rfl (lay_12_8 hL).1 qf_X12_35 rfl dX12_aim_119 ?_
      refine ww_iconst (pc := 122) hC (v := (4 : Int32)) dX12_aim_122 (by decide) ?_
      refine ww_iload_n (pc := 123) hC dX12_aim_123 1 rfl ?_
      refine ww_imul (pc := 124) hC dX12_aim_124 ?_
      refine ww_aload_n (pc := 125) hC dX12_aim_125 0 rfl ?_
      refine ww_getR (pc := 126) hC 12 6 4 hL.1 RX12 (by decide) (by decide) rfl (lay_12_6 hL).1 qf_X12_29 rfl dX12_aim_126 ?_
      refine ww_iload_n (pc := 129) hC dX12_aim_129 1 rfl ?_
      refine ww_iald (pc := 130) hC ((lay_12_6 hL).2) h dX12_aim_130 (fun h => ?_)
      refine ww_iconst (pc := 131) hC (v := (4 : Int32)) dX12_aim_131 (by decide) ?_
      refine ww_irem (pc := 132) hC dX12_aim_132 (by decide) ?_
      refine ww_iadd (pc := 133) hC dX12_aim_133 ?_
      refine ww_iald (pc := 134) hC ((lay_12_8 hL).2) h dX12_aim_134 (fun h => ?_)
      refine ww_goto (pc := 135) hC 143 dX12_aim_135 (by decide) ?_
      exact ww_iret (pc := 143) hC hr h dX12_aim_143
  replace h := ite_f h q19
  refine ww_tableOut (pc := 6) hC 144 dX12_aim_6 (sw_out (fun k h1 h2 => by rcases (show k = 1 ∨ k = 2 ∨ k = 3 ∨ k = 4 ∨ k = 5 ∨ k = 6 by omega) with rfl | rfl | rfl | rfl | rfl | rfl; exact q1; exact q4; exact q7; exact q11; exact q14; exact q19)) (by decide) ?_
  refine ww_aload_n (pc := 144) hC dX12_aim_144 0 rfl ?_
  refine ww_iload_n (pc := 145) hC dX12_aim_145 1 rfl ?_
  obtain ⟨r27, h26, h⟩ := bnd_i h
  refine ww_callVi (pc := 146) hC [.int x1] hL.1.1 hL.1.2 (by decide) (ceX12_plainly hL h26) ql_X12_293 qi_X12_plainly qs_X12_X12_plainly qn_X12 qc_X12_plainly rfl ⟨by decide, by decide, rfl⟩ rfl ⟨Nat.le_of_ble_eq_true rfl, Nat.le_of_ble_eq_true rfl⟩ (by decide) (rest := []) (Nat.le_of_ble_eq_true rfl) dX12_aim_146 ⟨Nat.le_of_ble_eq_true rfl, Nat.le_of_ble_eq_true rfl⟩ rfl ?_
  exact ww_iret (pc := 149) hC hr h dX12_aim_149
noncomputable def fX12_of (x1 : Int32) (x2 : Int32) (X : XD) : Option (Int32 × XD) := bnd (fX12_isShooter x1 X) (fun r2 => if r2 = 0 then some ((-1 : Int32), X) else bnd (fX12_in x2 ((10 : Int32)) ((12 : Int32)) X) (fun r4 => if r4 = 0 then bnd (fX12_in x2 ((20 : Int32)) ((22 : Int32)) X) (fun r6 => if r6 = 0 then if x2 = (0 : Int32) then gin x1 6 (some (X.1 1 (x1).toNatClampNeg, X)) else (if x2 = (1 : Int32) then gin x1 6 (some (X.1 2 (x1).toNatClampNeg, X)) else (if x2 = (2 : Int32) then gin x1 6 (some (X.1 3 (x1).toNatClampNeg, X)) else (if x2 = (3 : Int32) then gin x1 6 (some (X.1 4 (x1).toNatClampNeg, X)) else (if x2 = (4 : Int32) then gin x1 6 (some (X.1 5 (x1).toNatClampNeg, X)) else (if x2 = (5 : Int32) then bnw (fX12_aim x1 X) (fun r14 X_15 => some (r14, X_15)) else (if x2 = (6 : Int32) then bnw (fX12_note x1 X) (fun r18 X_19 => some (r18, X_19)) else (some ((-1 : Int32), X)))))))) else bnw (fX12_saves x1 (x2 - ((20 : Int32))) X) (fun r21 X_22 => some (r21, X_22))) else bnw (fX12_sure x1 (x2 - ((10 : Int32))) X) (fun r24 X_25 => some (r24, X_25))))
set_option maxHeartbeats 40000000 in
set_option maxRecDepth 100000 in
theorem ceX12_of {l : Launch} {E : XE} {w : XW} {z : Nat} {Z : XS} (hL : LayM Z) {x1 : Int32} {x2 : Int32} {X X1 : XD} {r : Int32} (h : fX12_of x1 x2 X = some (r, X1)) : Ct l E w yX12_of (wsM yX12_of cX12_of 3 (some .int)) (rmX 7 0 0) 0 0 [.ref (w.1 0), .int x1, .int x2] z z Z Z X X1 (some (.int r)) := by
  refine ct_of (by decide) (Nat.le_of_ble_eq_true rfl) ?_
  intro p e s m args below meth c hC hr hin hav
  unfold fX12_of at h
  refine ww_lv (lv' := [(0, .ref (w.1 0)), (1, .int x1), (2, .int x2)]) rfl ?_
  refine ww_aload_n (pc := 0) hC dX12_of_0 0 rfl ?_
  refine ww_iload_n (pc := 1) hC dX12_of_1 1 rfl ?_
  obtain ⟨r2, h1, h⟩ := bnd_i h
  refine ww_callVi (pc := 2) hC [.int x1] hL.1.1 hL.1.2 (by decide) (ceX12_isShooter hL h1) ql_X12_219 qi_X12_isShooter qs_X12_X12_isShooter qn_X12 qc_X12_isShooter rfl ⟨by decide, by decide, rfl⟩ rfl ⟨Nat.le_of_ble_eq_true rfl, Nat.le_of_ble_eq_true rfl⟩ (by decide) (rest := []) (Nat.le_of_ble_eq_true rfl) dX12_of_2 ⟨Nat.le_of_ble_eq_true rfl, Nat.le_of_ble_eq_true rfl⟩ rfl ?_
  refine ww_if_ne (pc := 5) hC h 10 dX12_of_5 (by decide) (fun h => ?_) (fun h => ?_)
  · refine ww_aload_n (pc := 10) hC dX12_of_10 0 rfl ?_
    refine ww_iload_n (pc := 11) hC dX12_of_11 2 rfl ?_
    refine ww_bipush (pc := 12) hC (v := (10 : Int32)) dX12_of_12 (by decide) ?_
    refine ww_bipush (pc := 14) hC (v := (12 : Int32)) dX12_of_14 (by decide) ?_
    obtain ⟨r4, h3, h⟩ := bnd_i h
    refine ww_callVi (pc := 16) hC [.int x2, .int ((10 : Int32)), .int ((12 : Int32))] hL.1.1 hL.1.2 (by decide) (ceX12_in hL h3) ql_X12_215 qi_X12_in qs_X12_X12_in qn_X12 qc_X12_in rfl ⟨by decide, by decide, rfl⟩ rfl ⟨Nat.le_of_ble_eq_true rfl, Nat.le_of_ble_eq_true rfl⟩ (by decide) (rest := []) (Nat.le_of_ble_eq_true rfl) dX12_of_16 ⟨Nat.le_of_ble_eq_true rfl, Nat.le_of_ble_eq_true rfl⟩ rfl ?_
    refine ww_if_eq (pc := 19) hC h 32 dX12_of_19 (by decide) (fun h => ?_) (fun h => ?_)
    · refine ww_aload_n (pc := 32) hC dX12_of_32 0 rfl ?_
      refine ww_iload_n (pc := 33) hC dX12_of_33 2 rfl ?_
      refine ww_bipush (pc := 34) hC (v := (20 : Int32)) dX12_of_34 (by decide) ?_
      refine ww_bipush (pc := 36) hC (v := (22 : Int32)) dX12_of_36 (by decide) ?_
      obtain ⟨r6, h5, h⟩ := bnd_i h
      refine ww_callVi (pc := 38) hC [.int x2, .int ((20 : Int32)), .int ((22 : Int32))] hL.1.1 hL.1.2 (by decide) (ceX12_in hL h5) ql_X12_215 qi_X12_in qs_X12_X12_in qn_X12 qc_X12_in rfl ⟨by decide, by decide, rfl⟩ rfl ⟨Nat.le_of_ble_eq_true rfl, Nat.le_of_ble_eq_true rfl⟩ (by decide) (rest := []) (Nat.le_of_ble_eq_true rfl) dX12_of_38 ⟨Nat.le_of_ble_eq_true rfl, Nat.le_of_ble_eq_true rfl⟩ rfl ?_
      refine ww_if_eq (pc := 41) hC h 54 dX12_of_41 (by decide) (fun h => ?_) (fun h => ?_)
      · refine ww_iload_n (pc := 54) hC dX12_of_54 2 rfl ?_
        rcases Classical.em (x2 = (0 : Int32)) with q7 | q7
        · replace h := ite_t h q7
          refine ww_tableIn (pc := 55) hC 96 dX12_of_55 (0 : Int32) q7 (by decide) (by decide) rfl (by decide) ?_
          refine ww_aload_n (pc := 96) hC dX12_of_96 0 rfl ?_
          refine ww_getR (pc := 97) hC 12 3 1 hL.1 RX12 (by decide) (by decide) rfl (lay_12_3 hL).1 qf_X12_19 rfl dX12_of_97 ?_
          refine ww_iload_n (pc := 100) hC dX12_of_100 1 rfl ?_
          refine ww_iald (pc := 101) hC ((lay_12_3 hL).2) h dX12_of_101 (fun h => ?_)
          exact ww_iret (pc := 102) hC hr h dX12_of_102
        replace h := ite_f h q7
        rcases Classical.em (x2 = (1 : Int32)) with q8 | q8
        · replace h := ite_t h q8
          refine ww_tableIn (pc := 55) hC 103 dX12_of_55 (1 : Int32) q8 (by decide) (by decide) rfl (by decide) ?_
          refine ww_aload_n (pc := 103) hC dX12_of_103 0 rfl ?_
          refine ww_getR (pc := 104) hC 12 4 2 hL.1 RX12 (by decide) (by decide) rfl (lay_12_4 hL).1 qf_X12_23 rfl dX12_of_104 ?_
          refine ww_iload_n (pc := 107) hC dX12_of_107 1 rfl ?_
          refine ww_iald (pc := 108) hC ((lay_12_4 hL).2) h dX12_of_108 (fun h => ?_)
          exact ww_iret (pc := 109) hC hr h dX12_of_109
        replace h := ite_f h q8
        rcases Classical.em (x2 = (2 : Int32)) with q9 | q9
        · replace h := ite_t h q9
          refine ww_tableIn (pc := 55) hC 110 dX12_of_55 (2 : Int32) q9 (by decide) (by decide) rfl (by decide) ?_
          refine ww_aload_n (pc := 110) hC dX12_of_110 0 rfl ?_
          refine ww_getR (pc := 111) hC 12 5 3 hL.1 RX12 (by decide) (by decide) rfl (lay_12_5 hL).1 qf_X12_26 rfl dX12_of_111 ?_
          refine ww_iload_n (pc := 114) hC dX12_of_114 1 rfl ?_
          refine ww_iald (pc := 115) hC ((lay_12_5 hL).2) h dX12_of_115 (fun h => ?_)
          exact ww_iret (pc := 116) hC hr h dX12_of_116
        replace h := ite_f h q9
        rcases Classical.em (x2 = (3 : Int32)) with q10 | q10
        · replace h := ite_t h q10
          refine ww_tableIn (pc := 55) hC 117 dX12_of_55 (3 : Int32) q10 (by decide) (by decide) rfl (by decide) ?_
          refine ww_aload_n (pc := 117) hC dX12_of_117 0 rfl ?_
          refine ww_getR (pc := 118) hC 12 6 4 hL.1 RX12 (by decide) (by decide) rfl (lay_12_6 hL).1 qf_X12_29 rfl dX12_of_118 ?_
          refine ww_iload_n (pc := 121) hC dX12_of_121 1 rfl ?_
          refine ww_iald (pc := 122) hC ((lay_12_6 hL).2) h dX12_of_122 (fun h => ?_)
          exact ww_iret (pc := 123) hC hr h dX12_of_123
        replace h := ite_f h q10
        rcases Classical.em (x2 = (4 : Int32)) with q11 | q11
        · replace h := ite_t h q11
          refine ww_tableIn (pc := 55) hC 124 dX12_of_55 (4 : Int32) q11 (by decide) (by decide) rfl (by decide) ?_
          refine ww_aload_n (pc := 124) hC dX12_of_124 0 rfl ?_
          refine ww_getR (pc := 125) hC 12 7 5 hL.1 RX12 (by decide) (by decide) rfl (lay_12_7 hL).1 qf_X12_32 rfl dX12_of_125 ?_
          refine ww_iload_n (pc := 128) hC dX12_of_128 1 rfl ?_
          refine ww_iald (pc := 129) hC ((lay_12_7 hL).2) h dX12_of_129 (fun h => ?_)
          exact ww_iret (pc := 130) hC hr h dX12_of_130
        replace h := ite_f h q11
        rcases Classical.em (x2 = (5 : Int32)) with q12 | q12
        · replace h := ite_t h q12
          refine ww_tableIn (pc := 55) hC 131 dX12_of_55 (5 : Int32) q12 (by decide) (by decide) rfl (by decide) ?_
          refine ww_aload_n (pc := 131) hC dX12_of_131 0 rfl ?_
          refine ww_iload_n (pc := 132) hC dX12_of_132 1 rfl ?_
          obtain ⟨r14, X_15, h13, h⟩ := bnw_i h
          refine ww_callVi (pc := 133) hC [.int x1] hL.1.1 hL.1.2 (by decide) (ceX12_aim hL h13) ql_X12_314 qi_X12_aim qs_X12_X12_aim qn_X12 qc_X12_aim rfl ⟨by decide, by decide, rfl⟩ rfl ⟨Nat.le_of_ble_eq_true rfl, Nat.le_of_ble_eq_true rfl⟩ (by decide) (rest := []) (Nat.le_of_ble_eq_true rfl) dX12_of_133 ⟨Nat.le_of_ble_eq_true rfl, Nat.le_of_ble_eq_true rfl⟩ rfl ?_
          exact ww_iret (pc := 136) hC hr h dX12_of_136
        replace h := ite_f h q12
        rcases Classical.em (x2 = (6 : Int32)) with q16 | q16
        · replace h := ite_t h q16
          refine ww_tableIn (pc := 55) hC 137 dX12_of_55 (6 : Int32) q16 (by decide) (by decide) rfl (by decide) ?_
          refine ww_aload_n (pc := 137) hC dX12_of_137 0 rfl ?_
          refine ww_iload_n (pc := 138) hC dX12_of_138 1 rfl ?_
          obtain ⟨r18, X_19, h17, h⟩ := bnw_i h
          refine ww_callVi (pc := 139) hC [.int x1] hL.1.1 hL.1.2 (by decide) (ceX12_note hL h17) ql_X12_296 qi_X12_note qs_X12_X12_note qn_X12 qc_X12_note rfl ⟨by decide, by decide, rfl⟩ rfl ⟨Nat.le_of_ble_eq_true rfl, Nat.le_of_ble_eq_true rfl⟩ (by decide) (rest := []) (Nat.le_of_ble_eq_true rfl) dX12_of_139 ⟨Nat.le_of_ble_eq_true rfl, Nat.le_of_ble_eq_true rfl⟩ rfl ?_
          exact ww_iret (pc := 142) hC hr h dX12_of_142
        replace h := ite_f h q16
        refine ww_tableOut (pc := 55) hC 143 dX12_of_55 (sw_out (fun k h1 h2 => by rcases (show k = 0 ∨ k = 1 ∨ k = 2 ∨ k = 3 ∨ k = 4 ∨ k = 5 ∨ k = 6 by omega) with rfl | rfl | rfl | rfl | rfl | rfl | rfl; exact q7; exact q8; exact q9; exact q10; exact q11; exact q12; exact q16)) (by decide) ?_
        refine ww_iconst (pc := 143) hC (v := (-1 : Int32)) dX12_of_143 (by decide) ?_
        exact ww_iret (pc := 144) hC hr h dX12_of_144
      · refine ww_aload_n (pc := 44) hC dX12_of_44 0 rfl ?_
        refine ww_iload_n (pc := 45) hC dX12_of_45 1 rfl ?_
        refine ww_iload_n (pc := 46) hC dX12_of_46 2 rfl ?_
        refine ww_bipush (pc := 47) hC (v := (20 : Int32)) dX12_of_47 (by decide) ?_
        refine ww_isub (pc := 49) hC dX12_of_49 ?_
        obtain ⟨r21, X_22, h20, h⟩ := bnw_i h
        refine ww_callVi (pc := 50) hC [.int x1, .int (x2 - ((20 : Int32)))] hL.1.1 hL.1.2 (by decide) (ceX12_saves hL h20) ql_X12_311 qi_X12_saves qs_X12_X12_saves qn_X12 qc_X12_saves rfl ⟨by decide, by decide, rfl⟩ rfl ⟨Nat.le_of_ble_eq_true rfl, Nat.le_of_ble_eq_true rfl⟩ (by decide) (rest := []) (Nat.le_of_ble_eq_true rfl) dX12_of_50 ⟨Nat.le_of_ble_eq_true rfl, Nat.le_of_ble_eq_true rfl⟩ rfl ?_
        exact ww_iret (pc := 53) hC hr h dX12_of_53
    · refine ww_aload_n (pc := 22) hC dX12_of_22 0 rfl ?_
      refine ww_iload_n (pc := 23) hC dX12_of_23 1 rfl ?_
      refine ww_iload_n (pc := 24) hC dX12_of_24 2 rfl ?_
      refine ww_bipush (pc := 25) hC (v := (10 : Int32)) dX12_of_25 (by decide) ?_
      refine ww_isub (pc := 27) hC dX12_of_27 ?_
      obtain ⟨r24, X_25, h23, h⟩ := bnw_i h
      refine ww_callVi (pc := 28) hC [.int x1, .int (x2 - ((10 : Int32)))] hL.1.1 hL.1.2 (by decide) (ceX12_sure hL h23) ql_X12_299 qi_X12_sure qs_X12_X12_sure qn_X12 qc_X12_sure rfl ⟨by decide, by decide, rfl⟩ rfl ⟨Nat.le_of_ble_eq_true rfl, Nat.le_of_ble_eq_true rfl⟩ (by decide) (rest := []) (Nat.le_of_ble_eq_true rfl) dX12_of_28 ⟨Nat.le_of_ble_eq_true rfl, Nat.le_of_ble_eq_true rfl⟩ rfl ?_
      exact ww_iret (pc := 31) hC hr h dX12_of_31
  · refine ww_iconst (pc := 8) hC (v := (-1 : Int32)) dX12_of_8 (by decide) ?_
    exact ww_iret (pc := 9) hC hr h dX12_of_9
noncomputable def fX12_told (x1 : Int32) (X : XD) : Option Int32 := if x1 = 0 then some (X.1 0 1) else if x1 = ((1 : Int32)) then some (X.1 0 2) else some ((-1 : Int32))
set_option maxHeartbeats 40000000 in
set_option maxRecDepth 100000 in
theorem ceX12_told {l : Launch} {E : XE} {w : XW} {z : Nat} {Z : XS} (hL : LayM Z) {x1 : Int32} {X : XD} {r : Int32} (h : fX12_told x1 X = some r) : Ct l E w yX12_told (wsM yX12_told cX12_told 2 (some .int)) (rmX 1 0 0) 0 0 [.ref (w.1 0), .int x1] z z Z Z X X (some (.int r)) := by
  refine ct_of (by decide) (Nat.le_of_ble_eq_true rfl) ?_
  intro p e s m args below meth c hC hr hin hav
  unfold fX12_told at h
  refine ww_lv (lv' := [(0, .ref (w.1 0)), (1, .int x1)]) rfl ?_
  refine ww_iload_n (pc := 0) hC dX12_told_0 1 rfl ?_
  refine ww_if_ne (pc := 1) hC h 11 dX12_told_1 (by decide) (fun h => ?_) (fun h => ?_)
  · refine ww_iload_n (pc := 11) hC dX12_told_11 1 rfl ?_
    refine ww_iconst (pc := 12) hC (v := (1 : Int32)) dX12_told_12 (by decide) ?_
    refine ww_icmp_ne (pc := 13) hC h 23 dX12_told_13 (by decide) (fun h => ?_) (fun h => ?_)
    · refine ww_iconst (pc := 23) hC (v := (-1 : Int32)) dX12_told_23 (by decide) ?_
      exact ww_iret (pc := 24) hC hr (ret_r h) dX12_told_24
    · refine ww_aload_n (pc := 16) hC dX12_told_16 0 rfl ?_
      refine ww_getI (pc := 17) hC 12 2 hL.1 RX12 (by decide) (by decide) rfl qf_X12_16 (Or.inl rfl) dX12_told_17 ?_
      refine ww_goto (pc := 20) hC 24 dX12_told_20 (by decide) ?_
      exact ww_iret (pc := 24) hC hr (ret_r h) dX12_told_24
  · refine ww_aload_n (pc := 4) hC dX12_told_4 0 rfl ?_
    refine ww_getI (pc := 5) hC 12 1 hL.1 RX12 (by decide) (by decide) rfl qf_X12_13 (Or.inl rfl) dX12_told_5 ?_
    refine ww_goto (pc := 8) hC 24 dX12_told_8 (by decide) ?_
    exact ww_iret (pc := 24) hC hr (ret_r h) dX12_told_24
noncomputable def fX12_chanceOf_21 (s0 : Int32) (s1 : Int32) (X : XD) : Option (Int32 × XD) := nm (s1 - s0) (fun y7 => if 0 ≤ y7 then some (y7, X) else some ((0 : Int32), X))
noncomputable def fX12_chanceOf (x1 : Int32) (x2 : Int32) (x3 : Int32) (X : XD) : Option (Int32 × XD) := bnw (fX12_sure x1 x2 X) (fun r2 X_3 => if x2 = x3 then bnw (fX12_saves x1 x2 X_3) (fun r5 X_6 => fX12_chanceOf_21 r5 r2 X_6) else fX12_chanceOf_21 ((0 : Int32)) r2 X_3)
set_option maxHeartbeats 40000000 in
set_option maxRecDepth 100000 in
theorem ceX12_chanceOf {l : Launch} {E : XE} {w : XW} {z : Nat} {Z : XS} (hL : LayM Z) {x1 : Int32} {x2 : Int32} {x3 : Int32} {X X1 : XD} {r : Int32} (h : fX12_chanceOf x1 x2 x3 X = some (r, X1)) : Ct l E w yX12_chanceOf (wsM yX12_chanceOf cX12_chanceOf 5 (some .int)) (rmX 5 0 0) 0 0 [.ref (w.1 0), .int x1, .int x2, .int x3] z z Z Z X X1 (some (.int r)) := by
  refine ct_of (by decide) (Nat.le_of_ble_eq_true rfl) ?_
  intro p e s m args below meth c hC hr hin hav
  have j21 : ∀ (s0 : Int32) (s1 : Int32) (X : XD), fX12_chanceOf_21 s0 s1 X = some (r, X1) → WW p l e (rmX 5 0 0) s m args below meth c 5 (MQ below (XQ E w z Z X1 (some (.int r))) args s 0 0 (A0 E)) E w 0 0 z Z 21 [] [.int s0, .int s1] X := by
    intro s0 s1 X h
    unfold fX12_chanceOf_21 at h
    refine ww_isub (pc := 21) hC dX12_chanceOf_21 ?_
    obtain ⟨y7, ey7⟩ : ∃ q, q = s1 - s0 := ⟨_, rfl⟩
    replace h := nm_i h ey7
    refine ww_nmi ey7 ?_
    refine ww_istore (pc := 22) hC [(4, .int y7)] dX12_chanceOf_22  (by decide) rfl ?_
    refine ww_iload (pc := 24) hC dX12_chanceOf_24 0 rfl ?_
    refine ww_if_ge (pc := 26) hC h 33 dX12_chanceOf_26 (by decide) (fun h => ?_) (fun h => ?_)
    · refine ww_iload (pc := 33) hC dX12_chanceOf_33 0 rfl ?_
      exact ww_iret (pc := 35) hC hr h dX12_chanceOf_35
    · refine ww_iconst (pc := 29) hC (v := (0 : Int32)) dX12_chanceOf_29 (by decide) ?_
      refine ww_goto (pc := 30) hC 35 dX12_chanceOf_30 (by decide) ?_
      exact ww_iret (pc := 35) hC hr h dX12_chanceOf_35
  unfold fX12_chanceOf at h
  refine ww_lv (lv' := [(0, .ref (w.1 0)), (1, .int x1), (2, .int x2), (3, .int x3)]) rfl ?_
  refine ww_aload_n (pc := 0) hC dX12_chanceOf_0 0 rfl ?_
  refine ww_iload_n (pc := 1) hC dX12_chanceOf_1 1 rfl ?_
  refine ww_iload_n (pc := 2) hC dX12_chanceOf_2 2 rfl ?_
  obtain ⟨r2, X_3, h1, h⟩ := bnw_i h
  refine ww_callVi (pc := 3) hC [.int x1, .int x2] hL.1.1 hL.1.2 (by decide) (ceX12_sure hL h1) ql_X12_299 qi_X12_sure qs_X12_X12_sure qn_X12 qc_X12_sure rfl ⟨by decide, by decide, rfl⟩ rfl ⟨Nat.le_of_ble_eq_true rfl, Nat.le_of_ble_eq_true rfl⟩ (by decide) (rest := []) (Nat.le_of_ble_eq_true rfl) dX12_chanceOf_3 ⟨Nat.le_of_ble_eq_true rfl, Nat.le_of_ble_eq_true rfl⟩ rfl ?_
  refine ww_iload_n (pc := 6) hC dX12_chanceOf_6 2 rfl ?_
  refine ww_iload_n (pc := 7) hC dX12_chanceOf_7 3 rfl ?_
  refine ww_icmp_ne (pc := 8) hC h 20 dX12_chanceOf_8 (by decide) (fun h => ?_) (fun h => ?_)
  · refine ww_iconst (pc := 20) hC (v := (0 : Int32)) dX12_chanceOf_20 (by decide) ?_
    refine ww_sub [] rfl ?_
    exact j21 _ _ _ h
  · refine ww_aload_n (pc := 11) hC dX12_chanceOf_11 0 rfl ?_
    refine ww_iload_n (pc := 12) hC dX12_chanceOf_12 1 rfl ?_
    refine ww_iload_n (pc := 13) hC dX12_chanceOf_13 2 rfl ?_
    obtain ⟨r5, X_6, h4, h⟩ := bnw_i h
    refine ww_callVi (pc := 14) hC [.int x1, .int x2] hL.1.1 hL.1.2 (by decide) (ceX12_saves hL h4) ql_X12_311 qi_X12_saves qs_X12_X12_saves qn_X12 qc_X12_saves rfl ⟨by decide, by decide, rfl⟩ rfl ⟨Nat.le_of_ble_eq_true rfl, Nat.le_of_ble_eq_true rfl⟩ (by decide) (rest := [.int r2]) (Nat.le_of_ble_eq_true rfl) dX12_chanceOf_14 ⟨Nat.le_of_ble_eq_true rfl, Nat.le_of_ble_eq_true rfl⟩ rfl ?_
    refine ww_goto (pc := 17) hC 21 dX12_chanceOf_17 (by decide) ?_
    refine ww_sub [] rfl ?_
    exact j21 _ _ _ h
noncomputable def fX12_chance (x1 : Int32) (x2 : Int32) (x3 : Int32) (X : XD) : Option (Int32 × XD) := bnd (fX12_isShooter x1 X) (fun r2 => if r2 = 0 then some ((-1 : Int32), X) else bnd (fX12_isSide x2 X) (fun r4 => if r4 = 0 then some ((-1 : Int32), X) else bnd (fX12_isSide x3 X) (fun r6 => if r6 = 0 then some ((-1 : Int32), X) else bnw (fX12_chanceOf x1 x2 x3 X) (fun r8 X_9 => some (r8, X_9)))))
set_option maxHeartbeats 40000000 in
set_option maxRecDepth 100000 in
theorem ceX12_chance {l : Launch} {E : XE} {w : XW} {z : Nat} {Z : XS} (hL : LayM Z) {x1 : Int32} {x2 : Int32} {x3 : Int32} {X X1 : XD} {r : Int32} (h : fX12_chance x1 x2 x3 X = some (r, X1)) : Ct l E w yX12_chance (wsM yX12_chance cX12_chance 4 (some .int)) (rmX 6 0 0) 0 0 [.ref (w.1 0), .int x1, .int x2, .int x3] z z Z Z X X1 (some (.int r)) := by
  refine ct_of (by decide) (Nat.le_of_ble_eq_true rfl) ?_
  intro p e s m args below meth c hC hr hin hav
  unfold fX12_chance at h
  refine ww_lv (lv' := [(0, .ref (w.1 0)), (1, .int x1), (2, .int x2), (3, .int x3)]) rfl ?_
  refine ww_aload_n (pc := 0) hC dX12_chance_0 0 rfl ?_
  refine ww_iload_n (pc := 1) hC dX12_chance_1 1 rfl ?_
  obtain ⟨r2, h1, h⟩ := bnd_i h
  refine ww_callVi (pc := 2) hC [.int x1] hL.1.1 hL.1.2 (by decide) (ceX12_isShooter hL h1) ql_X12_219 qi_X12_isShooter qs_X12_X12_isShooter qn_X12 qc_X12_isShooter rfl ⟨by decide, by decide, rfl⟩ rfl ⟨Nat.le_of_ble_eq_true rfl, Nat.le_of_ble_eq_true rfl⟩ (by decide) (rest := []) (Nat.le_of_ble_eq_true rfl) dX12_chance_2 ⟨Nat.le_of_ble_eq_true rfl, Nat.le_of_ble_eq_true rfl⟩ rfl ?_
  refine ww_if_eq (pc := 5) hC h 34 dX12_chance_5 (by decide) (fun h => ?_) (fun h => ?_)
  · refine ww_iconst (pc := 34) hC (v := (-1 : Int32)) dX12_chance_34 (by decide) ?_
    exact ww_iret (pc := 35) hC hr h dX12_chance_35
  · refine ww_aload_n (pc := 8) hC dX12_chance_8 0 rfl ?_
    refine ww_iload_n (pc := 9) hC dX12_chance_9 2 rfl ?_
    obtain ⟨r4, h3, h⟩ := bnd_i h
    refine ww_callVi (pc := 10) hC [.int x2] hL.1.1 hL.1.2 (by decide) (ceX12_isSide hL h3) ql_X12_223 qi_X12_isSide qs_X12_X12_isSide qn_X12 qc_X12_isSide rfl ⟨by decide, by decide, rfl⟩ rfl ⟨Nat.le_of_ble_eq_true rfl, Nat.le_of_ble_eq_true rfl⟩ (by decide) (rest := []) (Nat.le_of_ble_eq_true rfl) dX12_chance_10 ⟨Nat.le_of_ble_eq_true rfl, Nat.le_of_ble_eq_true rfl⟩ rfl ?_
    refine ww_if_eq (pc := 13) hC h 34 dX12_chance_13 (by decide) (fun h => ?_) (fun h => ?_)
    · refine ww_iconst (pc := 34) hC (v := (-1 : Int32)) dX12_chance_34 (by decide) ?_
      exact ww_iret (pc := 35) hC hr h dX12_chance_35
    · refine ww_aload_n (pc := 16) hC dX12_chance_16 0 rfl ?_
      refine ww_iload_n (pc := 17) hC dX12_chance_17 3 rfl ?_
      obtain ⟨r6, h5, h⟩ := bnd_i h
      refine ww_callVi (pc := 18) hC [.int x3] hL.1.1 hL.1.2 (by decide) (ceX12_isSide hL h5) ql_X12_223 qi_X12_isSide qs_X12_X12_isSide qn_X12 qc_X12_isSide rfl ⟨by decide, by decide, rfl⟩ rfl ⟨Nat.le_of_ble_eq_true rfl, Nat.le_of_ble_eq_true rfl⟩ (by decide) (rest := []) (Nat.le_of_ble_eq_true rfl) dX12_chance_18 ⟨Nat.le_of_ble_eq_true rfl, Nat.le_of_ble_eq_true rfl⟩ rfl ?_
      refine ww_if_eq (pc := 21) hC h 34 dX12_chance_21 (by decide) (fun h => ?_) (fun h => ?_)
      · refine ww_iconst (pc := 34) hC (v := (-1 : Int32)) dX12_chance_34 (by decide) ?_
        exact ww_iret (pc := 35) hC hr h dX12_chance_35
      · refine ww_aload_n (pc := 24) hC dX12_chance_24 0 rfl ?_
        refine ww_iload_n (pc := 25) hC dX12_chance_25 1 rfl ?_
        refine ww_iload_n (pc := 26) hC dX12_chance_26 2 rfl ?_
        refine ww_iload_n (pc := 27) hC dX12_chance_27 3 rfl ?_
        obtain ⟨r8, X_9, h7, h⟩ := bnw_i h
        refine ww_callVi (pc := 28) hC [.int x1, .int x2, .int x3] hL.1.1 hL.1.2 (by decide) (ceX12_chanceOf hL h7) ql_X12_317 qi_X12_chanceOf qs_X12_X12_chanceOf qn_X12 qc_X12_chanceOf rfl ⟨by decide, by decide, rfl⟩ rfl ⟨Nat.le_of_ble_eq_true rfl, Nat.le_of_ble_eq_true rfl⟩ (by decide) (rest := []) (Nat.le_of_ble_eq_true rfl) dX12_chance_28 ⟨Nat.le_of_ble_eq_true rfl, Nat.le_of_ble_eq_true rfl⟩ rfl ?_
        refine ww_goto (pc := 31) hC 35 dX12_chance_31 (by decide) ?_
        exact ww_iret (pc := 35) hC hr h dX12_chance_35
noncomputable def fX12_chanceNow (x1 : Int32) (X : XD) : Option (Int32 × XD) := bnw (fX12_aim x1 X) (fun r2 X_3 => bnw (fX12_note x1 X_3) (fun r5 X_6 => bnw (fX12_chanceOf x1 r2 r5 X_6) (fun r8 X_9 => some (r8, X_9))))
set_option maxHeartbeats 40000000 in
set_option maxRecDepth 100000 in
theorem ceX12_chanceNow {l : Launch} {E : XE} {w : XW} {z : Nat} {Z : XS} (hL : LayM Z) {x1 : Int32} {X X1 : XD} {r : Int32} (h : fX12_chanceNow x1 X = some (r, X1)) : Ct l E w yX12_chanceNow (wsM yX12_chanceNow cX12_chanceNow 2 (some .int)) (rmX 7 0 0) 0 0 [.ref (w.1 0), .int x1] z z Z Z X X1 (some (.int r)) := by
  refine ct_of (by decide) (Nat.le_of_ble_eq_true rfl) ?_
  intro p e s m args below meth c hC hr hin hav
  unfold fX12_chanceNow at h
  refine ww_lv (lv' := [(0, .ref (w.1 0)), (1, .int x1)]) rfl ?_
  refine ww_aload_n (pc := 0) hC dX12_chanceNow_0 0 rfl ?_
  refine ww_iload_n (pc := 1) hC dX12_chanceNow_1 1 rfl ?_
  refine ww_aload_n (pc := 2) hC dX12_chanceNow_2 0 rfl ?_
  refine ww_iload_n (pc := 3) hC dX12_chanceNow_3 1 rfl ?_
  obtain ⟨r2, X_3, h1, h⟩ := bnw_i h
  refine ww_callVi (pc := 4) hC [.int x1] hL.1.1 hL.1.2 (by decide) (ceX12_aim hL h1) ql_X12_314 qi_X12_aim qs_X12_X12_aim qn_X12 qc_X12_aim rfl ⟨by decide, by decide, rfl⟩ rfl ⟨Nat.le_of_ble_eq_true rfl, Nat.le_of_ble_eq_true rfl⟩ (by decide) (rest := [.int x1, .ref (w.1 0)]) (Nat.le_of_ble_eq_true rfl) dX12_chanceNow_4 ⟨Nat.le_of_ble_eq_true rfl, Nat.le_of_ble_eq_true rfl⟩ rfl ?_
  refine ww_aload_n (pc := 7) hC dX12_chanceNow_7 0 rfl ?_
  refine ww_iload_n (pc := 8) hC dX12_chanceNow_8 1 rfl ?_
  obtain ⟨r5, X_6, h4, h⟩ := bnw_i h
  refine ww_callVi (pc := 9) hC [.int x1] hL.1.1 hL.1.2 (by decide) (ceX12_note hL h4) ql_X12_296 qi_X12_note qs_X12_X12_note qn_X12 qc_X12_note rfl ⟨by decide, by decide, rfl⟩ rfl ⟨Nat.le_of_ble_eq_true rfl, Nat.le_of_ble_eq_true rfl⟩ (by decide) (rest := [.int r2, .int x1, .ref (w.1 0)]) (Nat.le_of_ble_eq_true rfl) dX12_chanceNow_9 ⟨Nat.le_of_ble_eq_true rfl, Nat.le_of_ble_eq_true rfl⟩ rfl ?_
  obtain ⟨r8, X_9, h7, h⟩ := bnw_i h
  refine ww_callVi (pc := 12) hC [.int x1, .int r2, .int r5] hL.1.1 hL.1.2 (by decide) (ceX12_chanceOf hL h7) ql_X12_317 qi_X12_chanceOf qs_X12_X12_chanceOf qn_X12 qc_X12_chanceOf rfl ⟨by decide, by decide, rfl⟩ rfl ⟨Nat.le_of_ble_eq_true rfl, Nat.le_of_ble_eq_true rfl⟩ (by decide) (rest := []) (Nat.le_of_ble_eq_true rfl) dX12_chanceNow_12 ⟨Nat.le_of_ble_eq_true rfl, Nat.le_of_ble_eq_true rfl⟩ rfl ?_
  exact ww_iret (pc := 15) hC hr h dX12_chanceNow_15
noncomputable def fX12_more (x1 : Int32) (X : XD) : Option Int32 := if ((999 : Int32)) ≤ x1 then some ((999 : Int32)) else some (x1 + ((1 : Int32)))
set_option maxHeartbeats 40000000 in
set_option maxRecDepth 100000 in
theorem ceX12_more {l : Launch} {E : XE} {w : XW} {z : Nat} {Z : XS} (hL : LayM Z) {x1 : Int32} {X : XD} {r : Int32} (h : fX12_more x1 X = some r) : Ct l E w yX12_more (wsM yX12_more cX12_more 2 (some .int)) (rmX 1 0 0) 0 0 [.ref (w.1 0), .int x1] z z Z Z X X (some (.int r)) := by
  refine ct_of (by decide) (Nat.le_of_ble_eq_true rfl) ?_
  intro p e s m args below meth c hC hr hin hav
  unfold fX12_more at h
  refine ww_lv (lv' := [(0, .ref (w.1 0)), (1, .int x1)]) rfl ?_
  refine ww_iload_n (pc := 0) hC dX12_more_0 1 rfl ?_
  refine ww_sipush (pc := 1) hC (v := (999 : Int32)) dX12_more_1 (by decide) ?_
  refine ww_icmp_ge (pc := 4) hC h 13 dX12_more_4 (by decide) (fun h => ?_) (fun h => ?_)
  · refine ww_sipush (pc := 13) hC (v := (999 : Int32)) dX12_more_13 (by decide) ?_
    exact ww_iret (pc := 16) hC hr (ret_r h) dX12_more_16
  · refine ww_iload_n (pc := 7) hC dX12_more_7 1 rfl ?_
    refine ww_iconst (pc := 8) hC (v := (1 : Int32)) dX12_more_8 (by decide) ?_
    refine ww_iadd (pc := 9) hC dX12_more_9 ?_
    refine ww_goto (pc := 10) hC 16 dX12_more_10 (by decide) ?_
    exact ww_iret (pc := 16) hC hr (ret_r h) dX12_more_16
noncomputable def fX12_goes (x1 : Int32) (x2 : Int32) (X : XD) : Option (Int32 × XD) := bnw (fX12_aim x1 X) (fun r2 X_3 => gin x1 6 (nm (wI X_3 3 (x1).toNatClampNeg r2) (fun X_4 => gin x1 6 (bnd (fX12_more (X_4.1 4 (x1).toNatClampNeg) X_4) (fun r6 => gin x1 6 (nm (wI X_4 4 (x1).toNatClampNeg r6) (fun X_7 => bnd (fX12_more (X_7.1 0 1) X_7) (fun r9 => nm (wI X_7 0 1 r9) (fun X_10 => if x2 = 0 then some (r2, X_10) else gin x1 6 (bnd (fX12_more (X_10.1 5 (x1).toNatClampNeg) X_10) (fun r12 => gin x1 6 (nm (wI X_10 5 (x1).toNatClampNeg r12) (fun X_13 => bnd (fX12_more (X_13.1 0 2) X_13) (fun r15 => nm (wI X_13 0 2 r15) (fun X_16 => some (r2, X_16))))))))))))))))
set_option maxHeartbeats 40000000 in
set_option maxRecDepth 100000 in
theorem ceX12_goes {l : Launch} {E : XE} {w : XW} {z : Nat} {Z : XS} (hL : LayM Z) {x1 : Int32} {x2 : Int32} {X X1 : XD} {r : Int32} (h : fX12_goes x1 x2 X = some (r, X1)) : Ct l E w yX12_goes (wsM yX12_goes cX12_goes 4 (some .int)) (rmX 7 0 0) 0 0 [.ref (w.1 0), .int x1, .int x2] z z Z Z X X1 (some (.int r)) := by
  refine ct_of (by decide) (Nat.le_of_ble_eq_true rfl) ?_
  intro p e s m args below meth c hC hr hin hav
  unfold fX12_goes at h
  refine ww_lv (lv' := [(0, .ref (w.1 0)), (1, .int x1), (2, .int x2)]) rfl ?_
  refine ww_aload_n (pc := 0) hC dX12_goes_0 0 rfl ?_
  refine ww_iload_n (pc := 1) hC dX12_goes_1 1 rfl ?_
  obtain ⟨r2, X_3, h1, h⟩ := bnw_i h
  refine ww_callVi (pc := 2) hC [.int x1] hL.1.1 hL.1.2 (by decide) (ceX12_aim hL h1) ql_X12_314 qi_X12_aim qs_X12_X12_aim qn_X12 qc_X12_aim rfl ⟨by decide, by decide, rfl⟩ rfl ⟨Nat.le_of_ble_eq_true rfl, Nat.le_of_ble_eq_true rfl⟩ (by decide) (rest := []) (Nat.le_of_ble_eq_true rfl) dX12_goes_2 ⟨Nat.le_of_ble_eq_true rfl, Nat.le_of_ble_eq_true rfl⟩ rfl ?_
  refine ww_istore_n (pc := 5) hC [(3, .int r2), (0, .ref (w.1 0)), (1, .int x1), (2, .int x2)] dX12_goes_5 rfl (by decide) rfl ?_
  refine ww_aload_n (pc := 6) hC dX12_goes_6 1 rfl ?_
  refine ww_getR (pc := 7) hC 12 5 3 hL.1 RX12 (by decide) (by decide) rfl (lay_12_5 hL).1 qf_X12_26 rfl dX12_goes_7 ?_
  refine ww_iload_n (pc := 10) hC dX12_goes_10 2 rfl ?_
  refine ww_iload_n (pc := 11) hC dX12_goes_11 0 rfl ?_
  refine ww_iast (pc := 12) hC ((lay_12_5 hL).2) h dX12_goes_12 (fun h => ?_)
  obtain ⟨X_4, eX_4⟩ : ∃ q, q = wI X_3 3 (x1).toNatClampNeg r2 := ⟨_, rfl⟩
  replace h := nm_i h eX_4
  refine ww_nmX eX_4 ?_
  refine ww_aload_n (pc := 13) hC dX12_goes_13 1 rfl ?_
  refine ww_getR (pc := 14) hC 12 6 4 hL.1 RX12 (by decide) (by decide) rfl (lay_12_6 hL).1 qf_X12_29 rfl dX12_goes_14 ?_
  refine ww_iload_n (pc := 17) hC dX12_goes_17 2 rfl ?_
  refine ww_aload_n (pc := 18) hC dX12_goes_18 1 rfl ?_
  refine ww_aload_n (pc := 19) hC dX12_goes_19 1 rfl ?_
  refine ww_getR (pc := 20) hC 12 6 4 hL.1 RX12 (by decide) (by decide) rfl (lay_12_6 hL).1 qf_X12_29 rfl dX12_goes_20 ?_
  refine ww_iload_n (pc := 23) hC dX12_goes_23 2 rfl ?_
  refine ww_iald (pc := 24) hC ((lay_12_6 hL).2) h dX12_goes_24 (fun h => ?_)
  obtain ⟨r6, h5, h⟩ := bnd_i h
  refine ww_callVi (pc := 25) hC [.int (X_4.1 4 (x1).toNatClampNeg)] hL.1.1 hL.1.2 (by decide) (ceX12_more hL h5) ql_X12_320 qi_X12_more qs_X12_X12_more qn_X12 qc_X12_more rfl ⟨by decide, by decide, rfl⟩ rfl ⟨Nat.le_of_ble_eq_true rfl, Nat.le_of_ble_eq_true rfl⟩ (by decide) (rest := [.int x1, .ref (w.1 4)]) (Nat.le_of_ble_eq_true rfl) dX12_goes_25 ⟨Nat.le_of_ble_eq_true rfl, Nat.le_of_ble_eq_true rfl⟩ rfl ?_
  refine ww_iast (pc := 28) hC ((lay_12_6 hL).2) h dX12_goes_28 (fun h => ?_)
  obtain ⟨X_7, eX_7⟩ : ∃ q, q = wI X_4 4 (x1).toNatClampNeg r6 := ⟨_, rfl⟩
  replace h := nm_i h eX_7
  refine ww_nmX eX_7 ?_
  refine ww_aload_n (pc := 29) hC dX12_goes_29 1 rfl ?_
  refine ww_aload_n (pc := 30) hC dX12_goes_30 1 rfl ?_
  refine ww_aload_n (pc := 31) hC dX12_goes_31 1 rfl ?_
  refine ww_getI (pc := 32) hC 12 1 hL.1 RX12 (by decide) (by decide) rfl qf_X12_13 (Or.inl rfl) dX12_goes_32 ?_
  obtain ⟨r9, h8, h⟩ := bnd_i h
  refine ww_callVi (pc := 35) hC [.int (X_7.1 0 1)] hL.1.1 hL.1.2 (by decide) (ceX12_more hL h8) ql_X12_320 qi_X12_more qs_X12_X12_more qn_X12 qc_X12_more rfl ⟨by decide, by decide, rfl⟩ rfl ⟨Nat.le_of_ble_eq_true rfl, Nat.le_of_ble_eq_true rfl⟩ (by decide) (rest := [.ref (w.1 0)]) (Nat.le_of_ble_eq_true rfl) dX12_goes_35 ⟨Nat.le_of_ble_eq_true rfl, Nat.le_of_ble_eq_true rfl⟩ rfl ?_
  refine ww_putI (pc := 38) hC 12 1 hL.1 RX12 (by decide) (by decide) rfl qf_X12_13 rfl rfl rfl rfl dX12_goes_38 ?_
  obtain ⟨X_10, eX_10⟩ : ∃ q, q = wI X_7 0 1 r9 := ⟨_, rfl⟩
  replace h := nm_i h eX_10
  refine ww_nmX eX_10 ?_
  refine ww_iload_n (pc := 41) hC dX12_goes_41 3 rfl ?_
  refine ww_if_eq (pc := 42) hC h 73 dX12_goes_42 (by decide) (fun h => ?_) (fun h => ?_)
  · refine ww_iload_n (pc := 73) hC dX12_goes_73 0 rfl ?_
    exact ww_iret (pc := 74) hC hr h dX12_goes_74
  · refine ww_aload_n (pc := 45) hC dX12_goes_45 1 rfl ?_
    refine ww_getR (pc := 46) hC 12 7 5 hL.1 RX12 (by decide) (by decide) rfl (lay_12_7 hL).1 qf_X12_32 rfl dX12_goes_46 ?_
    refine ww_iload_n (pc := 49) hC dX12_goes_49 2 rfl ?_
    refine ww_aload_n (pc := 50) hC dX12_goes_50 1 rfl ?_
    refine ww_aload_n (pc := 51) hC dX12_goes_51 1 rfl ?_
    refine ww_getR (pc := 52) hC 12 7 5 hL.1 RX12 (by decide) (by decide) rfl (lay_12_7 hL).1 qf_X12_32 rfl dX12_goes_52 ?_
    refine ww_iload_n (pc := 55) hC dX12_goes_55 2 rfl ?_
    refine ww_iald (pc := 56) hC ((lay_12_7 hL).2) h dX12_goes_56 (fun h => ?_)
    obtain ⟨r12, h11, h⟩ := bnd_i h
    refine ww_callVi (pc := 57) hC [.int (X_10.1 5 (x1).toNatClampNeg)] hL.1.1 hL.1.2 (by decide) (ceX12_more hL h11) ql_X12_320 qi_X12_more qs_X12_X12_more qn_X12 qc_X12_more rfl ⟨by decide, by decide, rfl⟩ rfl ⟨Nat.le_of_ble_eq_true rfl, Nat.le_of_ble_eq_true rfl⟩ (by decide) (rest := [.int x1, .ref (w.1 5)]) (Nat.le_of_ble_eq_true rfl) dX12_goes_57 ⟨Nat.le_of_ble_eq_true rfl, Nat.le_of_ble_eq_true rfl⟩ rfl ?_
    refine ww_iast (pc := 60) hC ((lay_12_7 hL).2) h dX12_goes_60 (fun h => ?_)
    obtain ⟨X_13, eX_13⟩ : ∃ q, q = wI X_10 5 (x1).toNatClampNeg r12 := ⟨_, rfl⟩
    replace h := nm_i h eX_13
    refine ww_nmX eX_13 ?_
    refine ww_aload_n (pc := 61) hC dX12_goes_61 1 rfl ?_
    refine ww_aload_n (pc := 62) hC dX12_goes_62 1 rfl ?_
    refine ww_aload_n (pc := 63) hC dX12_goes_63 1 rfl ?_
    refine ww_getI (pc := 64) hC 12 2 hL.1 RX12 (by decide) (by decide) rfl qf_X12_16 (Or.inl rfl) dX12_goes_64 ?_
    obtain ⟨r15, h14, h⟩ := bnd_i h
    refine ww_callVi (pc := 67) hC [.int (X_13.1 0 2)] hL.1.1 hL.1.2 (by decide) (ceX12_more hL h14) ql_X12_320 qi_X12_more qs_X12_X12_more qn_X12 qc_X12_more rfl ⟨by decide, by decide, rfl⟩ rfl ⟨Nat.le_of_ble_eq_true rfl, Nat.le_of_ble_eq_true rfl⟩ (by decide) (rest := [.ref (w.1 0)]) (Nat.le_of_ble_eq_true rfl) dX12_goes_67 ⟨Nat.le_of_ble_eq_true rfl, Nat.le_of_ble_eq_true rfl⟩ rfl ?_
    refine ww_putI (pc := 70) hC 12 2 hL.1 RX12 (by decide) (by decide) rfl qf_X12_16 rfl rfl rfl rfl dX12_goes_70 ?_
    obtain ⟨X_16, eX_16⟩ : ∃ q, q = wI X_13 0 2 r15 := ⟨_, rfl⟩
    replace h := nm_i h eX_16
    refine ww_nmX eX_16 ?_
    refine ww_iload_n (pc := 73) hC dX12_goes_73 0 rfl ?_
    exact ww_iret (pc := 74) hC hr h dX12_goes_74
noncomputable def fX12_shoot_51 (x1 : Int32) (s0 : Int32) (X : XD) : Option (Int32 × XD) := bnw (fX12_goes x1 s0 X) (fun r9 X_10 => if s0 = 0 then some (r9, X_10) else some (r9 + ((10 : Int32)), X_10))
noncomputable def fX12_shoot (x1 : Int32) (x2 : Int32) (X : XD) : Option (Int32 × XD) := bnd (fX12_isShooter x1 X) (fun r2 => if r2 = 0 then some ((-1 : Int32), X) else bnd (fX12_in x2 ((0 : Int32)) ((99 : Int32)) X) (fun r4 => if r4 = 0 then some ((-2 : Int32), X) else if (X.1 0 1) = ((999 : Int32)) then some ((-3 : Int32), X) else bnw (fX12_chanceNow x1 X) (fun r6 X_7 => if r6 ≤ x2 then fX12_shoot_51 x1 ((0 : Int32)) X_7 else fX12_shoot_51 x1 ((1 : Int32)) X_7)))
set_option maxHeartbeats 40000000 in
set_option maxRecDepth 100000 in
theorem ceX12_shoot {l : Launch} {E : XE} {w : XW} {z : Nat} {Z : XS} (hL : LayM Z) {x1 : Int32} {x2 : Int32} {X X1 : XD} {r : Int32} (h : fX12_shoot x1 x2 X = some (r, X1)) : Ct l E w yX12_shoot (wsM yX12_shoot cX12_shoot 5 (some .int)) (rmX 8 0 0) 0 0 [.ref (w.1 0), .int x1, .int x2] z z Z Z X X1 (some (.int r)) := by
  refine ct_of (by decide) (Nat.le_of_ble_eq_true rfl) ?_
  intro p e s m args below meth c hC hr hin hav
  have j51 : ∀ (x1 : Int32) (s0 : Int32) (X : XD), fX12_shoot_51 x1 s0 X = some (r, X1) → WW p l e (rmX 8 0 0) s m args below meth c 5 (MQ below (XQ E w z Z X1 (some (.int r))) args s 0 0 (A0 E)) E w 0 0 z Z 51 [(0, .ref (w.1 0)), (1, .int x1)] [.int s0] X := by
    intro x1 s0 X h
    unfold fX12_shoot_51 at h
    refine ww_istore_n (pc := 51) hC [(3, .int s0), (0, .ref (w.1 0)), (1, .int x1)] dX12_shoot_51 rfl (by decide) rfl ?_
    refine ww_aload_n (pc := 52) hC dX12_shoot_52 1 rfl ?_
    refine ww_iload_n (pc := 53) hC dX12_shoot_53 2 rfl ?_
    refine ww_iload_n (pc := 54) hC dX12_shoot_54 0 rfl ?_
    obtain ⟨r9, X_10, h8, h⟩ := bnw_i h
    refine ww_callVi (pc := 55) hC [.int x1, .int s0] hL.1.1 hL.1.2 (by decide) (ceX12_goes hL h8) ql_X12_326 qi_X12_goes qs_X12_X12_goes qn_X12 qc_X12_goes rfl ⟨by decide, by decide, rfl⟩ rfl ⟨Nat.le_of_ble_eq_true rfl, Nat.le_of_ble_eq_true rfl⟩ (by decide) (rest := []) (Nat.le_of_ble_eq_true rfl) dX12_shoot_55 ⟨Nat.le_of_ble_eq_true rfl, Nat.le_of_ble_eq_true rfl⟩ rfl ?_
    refine ww_istore (pc := 58) hC [(4, .int r9), (3, .int s0), (0, .ref (w.1 0)), (1, .int x1)] dX12_shoot_58  (by decide) rfl ?_
    refine ww_iload_n (pc := 60) hC dX12_shoot_60 1 rfl ?_
    refine ww_if_eq (pc := 61) hC h 72 dX12_shoot_61 (by decide) (fun h => ?_) (fun h => ?_)
    · refine ww_iload (pc := 72) hC dX12_shoot_72 0 rfl ?_
      exact ww_iret (pc := 74) hC hr h dX12_shoot_74
    · refine ww_iload (pc := 64) hC dX12_shoot_64 0 rfl ?_
      refine ww_bipush (pc := 66) hC (v := (10 : Int32)) dX12_shoot_66 (by decide) ?_
      refine ww_iadd (pc := 68) hC dX12_shoot_68 ?_
      refine ww_goto (pc := 69) hC 74 dX12_shoot_69 (by decide) ?_
      exact ww_iret (pc := 74) hC hr h dX12_shoot_74
  unfold fX12_shoot at h
  refine ww_lv (lv' := [(0, .ref (w.1 0)), (1, .int x1), (2, .int x2)]) rfl ?_
  refine ww_aload_n (pc := 0) hC dX12_shoot_0 0 rfl ?_
  refine ww_iload_n (pc := 1) hC dX12_shoot_1 1 rfl ?_
  obtain ⟨r2, h1, h⟩ := bnd_i h
  refine ww_callVi (pc := 2) hC [.int x1] hL.1.1 hL.1.2 (by decide) (ceX12_isShooter hL h1) ql_X12_219 qi_X12_isShooter qs_X12_X12_isShooter qn_X12 qc_X12_isShooter rfl ⟨by decide, by decide, rfl⟩ rfl ⟨Nat.le_of_ble_eq_true rfl, Nat.le_of_ble_eq_true rfl⟩ (by decide) (rest := []) (Nat.le_of_ble_eq_true rfl) dX12_shoot_2 ⟨Nat.le_of_ble_eq_true rfl, Nat.le_of_ble_eq_true rfl⟩ rfl ?_
  refine ww_if_ne (pc := 5) hC h 10 dX12_shoot_5 (by decide) (fun h => ?_) (fun h => ?_)
  · refine ww_aload_n (pc := 10) hC dX12_shoot_10 0 rfl ?_
    refine ww_iload_n (pc := 11) hC dX12_shoot_11 2 rfl ?_
    refine ww_iconst (pc := 12) hC (v := (0 : Int32)) dX12_shoot_12 (by decide) ?_
    refine ww_bipush (pc := 13) hC (v := (99 : Int32)) dX12_shoot_13 (by decide) ?_
    obtain ⟨r4, h3, h⟩ := bnd_i h
    refine ww_callVi (pc := 15) hC [.int x2, .int ((0 : Int32)), .int ((99 : Int32))] hL.1.1 hL.1.2 (by decide) (ceX12_in hL h3) ql_X12_215 qi_X12_in qs_X12_X12_in qn_X12 qc_X12_in rfl ⟨by decide, by decide, rfl⟩ rfl ⟨Nat.le_of_ble_eq_true rfl, Nat.le_of_ble_eq_true rfl⟩ (by decide) (rest := []) (Nat.le_of_ble_eq_true rfl) dX12_shoot_15 ⟨Nat.le_of_ble_eq_true rfl, Nat.le_of_ble_eq_true rfl⟩ rfl ?_
    refine ww_if_ne (pc := 18) hC h 24 dX12_shoot_18 (by decide) (fun h => ?_) (fun h => ?_)
    · refine ww_aload_n (pc := 24) hC dX12_shoot_24 0 rfl ?_
      refine ww_getI (pc := 25) hC 12 1 hL.1 RX12 (by decide) (by decide) rfl qf_X12_13 (Or.inl rfl) dX12_shoot_25 ?_
      refine ww_sipush (pc := 28) hC (v := (999 : Int32)) dX12_shoot_28 (by decide) ?_
      refine ww_icmp_ne (pc := 31) hC h 37 dX12_shoot_31 (by decide) (fun h => ?_) (fun h => ?_)
      · refine ww_iload_n (pc := 37) hC dX12_shoot_37 2 rfl ?_
        refine ww_aload_n (pc := 38) hC dX12_shoot_38 0 rfl ?_
        refine ww_iload_n (pc := 39) hC dX12_shoot_39 1 rfl ?_
        obtain ⟨r6, X_7, h5, h⟩ := bnw_i h
        refine ww_callVi (pc := 40) hC [.int x1] hL.1.1 hL.1.2 (by decide) (ceX12_chanceNow hL h5) ql_X12_323 qi_X12_chanceNow qs_X12_X12_chanceNow qn_X12 qc_X12_chanceNow rfl ⟨by decide, by decide, rfl⟩ rfl ⟨Nat.le_of_ble_eq_true rfl, Nat.le_of_ble_eq_true rfl⟩ (by decide) (rest := [.int x2]) (Nat.le_of_ble_eq_true rfl) dX12_shoot_40 ⟨Nat.le_of_ble_eq_true rfl, Nat.le_of_ble_eq_true rfl⟩ rfl ?_
        refine ww_icmp_ge (pc := 43) hC h 50 dX12_shoot_43 (by decide) (fun h => ?_) (fun h => ?_)
        · refine ww_iconst (pc := 50) hC (v := (0 : Int32)) dX12_shoot_50 (by decide) ?_
          refine ww_sub [0, 1] rfl ?_
          exact j51 _ _ _ h
        · refine ww_iconst (pc := 46) hC (v := (1 : Int32)) dX12_shoot_46 (by decide) ?_
          refine ww_goto (pc := 47) hC 51 dX12_shoot_47 (by decide) ?_
          refine ww_sub [0, 1] rfl ?_
          exact j51 _ _ _ h
      · refine ww_bipush (pc := 34) hC (v := (-3 : Int32)) dX12_shoot_34 (by decide) ?_
        exact ww_iret (pc := 36) hC hr h dX12_shoot_36
    · refine ww_bipush (pc := 21) hC (v := (-2 : Int32)) dX12_shoot_21 (by decide) ?_
      exact ww_iret (pc := 23) hC hr h dX12_shoot_23
  · refine ww_iconst (pc := 8) hC (v := (-1 : Int32)) dX12_shoot_8 (by decide) ?_
    exact ww_iret (pc := 9) hC hr h dX12_shoot_9
noncomputable def fX12_anew (X : XD) : Option (Int32 × XD) := nm (X.1 0 2) (fun y1 => nm (wI X 0 1 ((0 : Int32))) (fun X_2 => nm (wI X_2 0 2 ((0 : Int32))) (fun X_3 => some (y1, X_3))))
set_option maxHeartbeats 40000000 in
set_option maxRecDepth 100000 in
theorem ceX12_anew {l : Launch} {E : XE} {w : XW} {z : Nat} {Z : XS} (hL : LayM Z) {X X1 : XD} {r : Int32} (h : fX12_anew X = some (r, X1)) : Ct l E w yX12_anew (wsM yX12_anew cX12_anew 2 (some .int)) (rmX 1 0 0) 0 0 [.ref (w.1 0)] z z Z Z X X1 (some (.int r)) := by
  refine ct_of (by decide) (Nat.le_of_ble_eq_true rfl) ?_
  intro p e s m args below meth c hC hr hin hav
  unfold fX12_anew at h
  refine ww_lv (lv' := [(0, .ref (w.1 0))]) rfl ?_
  refine ww_aload_n (pc := 0) hC dX12_anew_0 0 rfl ?_
  refine ww_getI (pc := 1) hC 12 2 hL.1 RX12 (by decide) (by decide) rfl qf_X12_16 (Or.inl rfl) dX12_anew_1 ?_
  obtain ⟨y1, ey1⟩ : ∃ q, q = X.1 0 2 := ⟨_, rfl⟩
  replace h := nm_i h ey1
  refine ww_nmi ey1 ?_
  refine ww_istore_n (pc := 4) hC [(1, .int y1), (0, .ref (w.1 0))] dX12_anew_4 rfl (by decide) rfl ?_
  refine ww_aload_n (pc := 5) hC dX12_anew_5 1 rfl ?_
  refine ww_iconst (pc := 6) hC (v := (0 : Int32)) dX12_anew_6 (by decide) ?_
  refine ww_putI (pc := 7) hC 12 1 hL.1 RX12 (by decide) (by decide) rfl qf_X12_13 rfl rfl rfl rfl dX12_anew_7 ?_
  obtain ⟨X_2, eX_2⟩ : ∃ q, q = wI X 0 1 ((0 : Int32)) := ⟨_, rfl⟩
  replace h := nm_i h eX_2
  refine ww_nmX eX_2 ?_
  refine ww_aload_n (pc := 10) hC dX12_anew_10 1 rfl ?_
  refine ww_iconst (pc := 11) hC (v := (0 : Int32)) dX12_anew_11 (by decide) ?_
  refine ww_putI (pc := 12) hC 12 2 hL.1 RX12 (by decide) (by decide) rfl qf_X12_16 rfl rfl rfl rfl dX12_anew_12 ?_
  obtain ⟨X_3, eX_3⟩ : ∃ q, q = wI X_2 0 2 ((0 : Int32)) := ⟨_, rfl⟩
  replace h := nm_i h eX_3
  refine ww_nmX eX_3 ?_
  refine ww_iload_n (pc := 15) hC dX12_anew_15 0 rfl ?_
  exact ww_iret (pc := 16) hC hr h dX12_anew_16
noncomputable def fX12_best_61 (k32 : Int32 → Int32 → Int32 → Int32 → Int32 → XD → Option (Int32 × XD)) (x1 : Int32) (x2 : Int32) (x3 : Int32) (x4 : Int32) (x5 : Int32) (X : XD) : Option (Int32 × XD) := nm (x5 + (1 : Int32)) (fun y17 => k32 x1 x2 x3 x4 y17 X)
noncomputable def fX12_best_32 (n : Nat) : Int32 → Int32 → Int32 → Int32 → Int32 → XD → Option (Int32 × XD) := Nat.rec (motive := fun _ => Int32 → Int32 → Int32 → Int32 → Int32 → XD → Option (Int32 × XD)) (fun _ _ _ _ _ _ => none) (fun _ f => fun x1 x2 x3 x4 x5 X => if ((3 : Int32)) ≤ x5 then if x2 = 0 then some (x4, X) else bnw (fX12_chanceOf x1 x4 x3 X) (fun r9 X_10 => some (r9, X_10)) else bnw (fX12_chanceOf x1 x5 x3 X) (fun r12 X_13 => bnw (fX12_chanceOf x1 x4 x3 X_13) (fun r15 X_16 => if r12 ≤ r15 then fX12_best_61 (f) x1 x2 x3 x4 x5 X_16 else fX12_best_61 (f) x1 x2 x3 x5 x5 X_16))) n
theorem fX12_best_32_s (n : Nat) (x1 : Int32) (x2 : Int32) (x3 : Int32) (x4 : Int32) (x5 : Int32) (X : XD) : fX12_best_32 (n + 1) x1 x2 x3 x4 x5 X = if ((3 : Int32)) ≤ x5 then if x2 = 0 then some (x4, X) else bnw (fX12_chanceOf x1 x4 x3 X) (fun r9 X_10 => some (r9, X_10)) else bnw (fX12_chanceOf x1 x5 x3 X) (fun r12 X_13 => bnw (fX12_chanceOf x1 x4 x3 X_13) (fun r15 X_16 => if r12 ≤ r15 then fX12_best_61 ((fX12_best_32 n)) x1 x2 x3 x4 x5 X_16 else fX12_best_61 ((fX12_best_32 n)) x1 x2 x3 x5 x5 X_16)) := rfl
noncomputable def fX12_best (x1 : Int32) (x2 : Int32) (X : XD) : Option (Int32 × XD) := bnd (fX12_isShooter x1 X) (fun r2 => if r2 = 0 then some ((-1 : Int32), X) else bnd (fX12_in x2 ((0 : Int32)) ((1 : Int32)) X) (fun r4 => if r4 = 0 then some ((-1 : Int32), X) else bnw (fX12_note x1 X) (fun r6 X_7 => fX12_best_32 FU x1 x2 r6 ((0 : Int32)) ((1 : Int32)) X_7)))
set_option maxHeartbeats 40000000 in
set_option maxRecDepth 100000 in
theorem ceX12_best {l : Launch} {E : XE} {w : XW} {z : Nat} {Z : XS} (hL : LayM Z) {x1 : Int32} {x2 : Int32} {X X1 : XD} {r : Int32} (h : fX12_best x1 x2 X = some (r, X1)) : Ct l E w yX12_best (wsM yX12_best cX12_best 6 (some .int)) (rmX 6 0 0) 0 0 [.ref (w.1 0), .int x1, .int x2] z z Z Z X X1 (some (.int r)) := by
  refine ct_of (by decide) (Nat.le_of_ble_eq_true rfl) ?_
  intro p e s m args below meth c hC hr hin hav
  have j61 : ∀ (k32 : Int32 → Int32 → Int32 → Int32 → Int32 → XD → Option (Int32 × XD)) (hk32 : ∀ (x1 : Int32) (x2 : Int32) (x3 : Int32) (x4 : Int32) (x5 : Int32) (X : XD), k32 x1 x2 x3 x4 x5 X = some (r, X1) → WW p l e (rmX 6 0 0) s m args below meth c 6 (MQ below (XQ E w z Z X1 (some (.int r))) args s 0 0 (A0 E)) E w 0 0 z Z 32 [(0, .ref (w.1 0)), (1, .int x1), (2, .int x2), (3, .int x3), (4, .int x4), (5, .int x5)] [] X), ∀ (x1 : Int32) (x2 : Int32) (x3 : Int32) (x4 : Int32) (x5 : Int32) (X : XD), fX12_best_61 k32 x1 x2 x3 x4 x5 X = some (r, X1) → WW p l e (rmX 6 0 0) s m args below meth c 6 (MQ below (XQ E w z Z X1 (some (.int r))) args s 0 0 (A0 E)) E w 0 0 z Z 61 [(0, .ref (w.1 0)), (1, .int x1), (2, .int x2), (3, .int x3), (4, .int x4), (5, .int x5)] [] X := by
    intro k32 hk32 x1 x2 x3 x4 x5 X h
    unfold fX12_best_61 at h
    obtain ⟨y17, ey17⟩ : ∃ q, q = x5 + (1 : Int32) := ⟨_, rfl⟩
    replace h := nm_i h ey17
    refine ww_iinc (pc := 61) hC y17 [(5, .int y17), (0, .ref (w.1 0)), (1, .int x1), (2, .int x2), (3, .int x3), (4, .int x4)] dX12_best_61 5 rfl (by rw [ey17]; rfl) (by decide) rfl ?_
    refine ww_goto (pc := 64) hC 32 dX12_best_64 (by decide) ?_
    refine ww_sub [1, 2, 3, 4, 5, 0] rfl ?_
    exact hk32 _ _ _ _ _ _ h
  have j32 : ∀ (n : Nat), ∀ (x1 : Int32) (x2 : Int32) (x3 : Int32) (x4 : Int32) (x5 : Int32) (X : XD), fX12_best_32 n x1 x2 x3 x4 x5 X = some (r, X1) → WW p l e (rmX 6 0 0) s m args below meth c 6 (MQ below (XQ E w z Z X1 (some (.int r))) args s 0 0 (A0 E)) E w 0 0 z Z 32 [(0, .ref (w.1 0)), (1, .int x1), (2, .int x2), (3, .int x3), (4, .int x4), (5, .int x5)] [] X := by
    intro n
    induction n with
    | zero =>
      intro x1 x2 x3 x4 x5 X h
      cases (show none = some (r, X1) from h)
    | succ n ih =>
      intro x1 x2 x3 x4 x5 X h
      rw [fX12_best_32_s] at h
      refine ww_iload (pc := 32) hC dX12_best_32 5 rfl ?_
      refine ww_iconst (pc := 34) hC (v := (3 : Int32)) dX12_best_34 (by decide) ?_
      refine ww_icmp_ge (pc := 35) hC h 67 dX12_best_35 (by decide) (fun h => ?_) (fun h => ?_)
      · refine ww_iload_n (pc := 67) hC dX12_best_67 2 rfl ?_
        refine ww_if_ne (pc := 68) hC h 76 dX12_best_68 (by decide) (fun h => ?_) (fun h => ?_)
        · refine ww_aload_n (pc := 76) hC dX12_best_76 0 rfl ?_
          refine ww_iload_n (pc := 77) hC dX12_best_77 1 rfl ?_
          refine ww_iload (pc := 78) hC dX12_best_78 4 rfl ?_
          refine ww_iload_n (pc := 80) hC dX12_best_80 3 rfl ?_
          obtain ⟨r9, X_10, h8, h⟩ := bnw_i h
          refine ww_callVi (pc := 81) hC [.int x1, .int x4, .int x3] hL.1.1 hL.1.2 (by decide) (ceX12_chanceOf hL h8) ql_X12_317 qi_X12_chanceOf qs_X12_X12_chanceOf qn_X12 qc_X12_chanceOf rfl ⟨by decide, by decide, rfl⟩ rfl ⟨Nat.le_of_ble_eq_true rfl, Nat.le_of_ble_eq_true rfl⟩ (by decide) (rest := []) (Nat.le_of_ble_eq_true rfl) dX12_best_81 ⟨Nat.le_of_ble_eq_true rfl, Nat.le_of_ble_eq_true rfl⟩ rfl ?_
          exact ww_iret (pc := 84) hC hr h dX12_best_84
        · refine ww_iload (pc := 71) hC dX12_best_71 4 rfl ?_
          refine ww_goto (pc := 73) hC 84 dX12_best_73 (by decide) ?_
          exact ww_iret (pc := 84) hC hr h dX12_best_84
      · refine ww_aload_n (pc := 38) hC dX12_best_38 0 rfl ?_
        refine ww_iload_n (pc := 39) hC dX12_best_39 1 rfl ?_
        refine ww_iload (pc := 40) hC dX12_best_40 5 rfl ?_
        refine ww_iload_n (pc := 42) hC dX12_best_42 3 rfl ?_
        obtain ⟨r12, X_13, h11, h⟩ := bnw_i h
        refine ww_callVi (pc := 43) hC [.int x1, .int x5, .int x3] hL.1.1 hL.1.2 (by decide) (ceX12_chanceOf hL h11) ql_X12_317 qi_X12_chanceOf qs_X12_X12_chanceOf qn_X12 qc_X12_chanceOf rfl ⟨by decide, by decide, rfl⟩ rfl ⟨Nat.le_of_ble_eq_true rfl, Nat.le_of_ble_eq_true rfl⟩ (by decide) (rest := []) (Nat.le_of_ble_eq_true rfl) dX12_best_43 ⟨Nat.le_of_ble_eq_true rfl, Nat.le_of_ble_eq_true rfl⟩ rfl ?_
        refine ww_aload_n (pc := 46) hC dX12_best_46 0 rfl ?_
        refine ww_iload_n (pc := 47) hC dX12_best_47 1 rfl ?_
        refine ww_iload (pc := 48) hC dX12_best_48 4 rfl ?_
        refine ww_iload_n (pc := 50) hC dX12_best_50 3 rfl ?_
        obtain ⟨r15, X_16, h14, h⟩ := bnw_i h
        refine ww_callVi (pc := 51) hC [.int x1, .int x4, .int x3] hL.1.1 hL.1.2 (by decide) (ceX12_chanceOf hL h14) ql_X12_317 qi_X12_chanceOf qs_X12_X12_chanceOf qn_X12 qc_X12_chanceOf rfl ⟨by decide, by decide, rfl⟩ rfl ⟨Nat.le_of_ble_eq_true rfl, Nat.le_of_ble_eq_true rfl⟩ (by decide) (rest := [.int r12]) (Nat.le_of_ble_eq_true rfl) dX12_best_51 ⟨Nat.le_of_ble_eq_true rfl, Nat.le_of_ble_eq_true rfl⟩ rfl ?_
        refine ww_icmp_le (pc := 54) hC h 61 dX12_best_54 (by decide) (fun h => ?_) (fun h => ?_)
        · refine ww_sub [0, 1, 2, 3, 4, 5] rfl ?_
          exact j61 _ ih _ _ _ _ _ _ h
        · refine ww_iload (pc := 57) hC dX12_best_57 5 rfl ?_
          refine ww_istore (pc := 59) hC [(4, .int x5), (0, .ref (w.1 0)), (1, .int x1), (2, .int x2), (3, .int x3), (5, .int x5)] dX12_best_59  (by decide) rfl ?_
          refine ww_sub [1, 2, 3, 4, 0, 5] rfl ?_
          exact j61 _ ih _ _ _ _ _ _ h
  unfold fX12_best at h
  refine ww_lv (lv' := [(0, .ref (w.1 0)), (1, .int x1), (2, .int x2)]) rfl ?_
  refine ww_aload_n (pc := 0) hC dX12_best_0 0 rfl ?_
  refine ww_iload_n (pc := 1) hC dX12_best_1 1 rfl ?_
  obtain ⟨r2, h1, h⟩ := bnd_i h
  refine ww_callVi (pc := 2) hC [.int x1] hL.1.1 hL.1.2 (by decide) (ceX12_isShooter hL h1) ql_X12_219 qi_X12_isShooter qs_X12_X12_isShooter qn_X12 qc_X12_isShooter rfl ⟨by decide, by decide, rfl⟩ rfl ⟨Nat.le_of_ble_eq_true rfl, Nat.le_of_ble_eq_true rfl⟩ (by decide) (rest := []) (Nat.le_of_ble_eq_true rfl) dX12_best_2 ⟨Nat.le_of_ble_eq_true rfl, Nat.le_of_ble_eq_true rfl⟩ rfl ?_
  refine ww_if_eq (pc := 5) hC h 18 dX12_best_5 (by decide) (fun h => ?_) (fun h => ?_)
  · refine ww_iconst (pc := 18) hC (v := (-1 : Int32)) dX12_best_18 (by decide) ?_
    exact ww_iret (pc := 19) hC hr h dX12_best_19
  · refine ww_aload_n (pc := 8) hC dX12_best_8 0 rfl ?_
    refine ww_iload_n (pc := 9) hC dX12_best_9 2 rfl ?_
    refine ww_iconst (pc := 10) hC (v := (0 : Int32)) dX12_best_10 (by decide) ?_
    refine ww_iconst (pc := 11) hC (v := (1 : Int32)) dX12_best_11 (by decide) ?_
    obtain ⟨r4, h3, h⟩ := bnd_i h
    refine ww_callVi (pc := 12) hC [.int x2, .int ((0 : Int32)), .int ((1 : Int32))] hL.1.1 hL.1.2 (by decide) (ceX12_in hL h3) ql_X12_215 qi_X12_in qs_X12_X12_in qn_X12 qc_X12_in rfl ⟨by decide, by decide, rfl⟩ rfl ⟨Nat.le_of_ble_eq_true rfl, Nat.le_of_ble_eq_true rfl⟩ (by decide) (rest := []) (Nat.le_of_ble_eq_true rfl) dX12_best_12 ⟨Nat.le_of_ble_eq_true rfl, Nat.le_of_ble_eq_true rfl⟩ rfl ?_
    refine ww_if_ne (pc := 15) hC h 20 dX12_best_15 (by decide) (fun h => ?_) (fun h => ?_)
    · refine ww_aload_n (pc := 20) hC dX12_best_20 0 rfl ?_
      refine ww_iload_n (pc := 21) hC dX12_best_21 1 rfl ?_
      obtain ⟨r6, X_7, h5, h⟩ := bnw_i h
      refine ww_callVi (pc := 22) hC [.int x1] hL.1.1 hL.1.2 (by decide) (ceX12_note hL h5) ql_X12_296 qi_X12_note qs_X12_X12_note qn_X12 qc_X12_note rfl ⟨by decide, by decide, rfl⟩ rfl ⟨Nat.le_of_ble_eq_true rfl, Nat.le_of_ble_eq_true rfl⟩ (by decide) (rest := []) (Nat.le_of_ble_eq_true rfl) dX12_best_22 ⟨Nat.le_of_ble_eq_true rfl, Nat.le_of_ble_eq_true rfl⟩ rfl ?_
      refine ww_istore_n (pc := 25) hC [(3, .int r6), (0, .ref (w.1 0)), (1, .int x1), (2, .int x2)] dX12_best_25 rfl (by decide) rfl ?_
      refine ww_iconst (pc := 26) hC (v := (0 : Int32)) dX12_best_26 (by decide) ?_
      refine ww_istore (pc := 27) hC [(4, .int ((0 : Int32))), (3, .int r6), (0, .ref (w.1 0)), (1, .int x1), (2, .int x2)] dX12_best_27  (by decide) rfl ?_
      refine ww_iconst (pc := 29) hC (v := (1 : Int32)) dX12_best_29 (by decide) ?_
      refine ww_istore (pc := 30) hC [(5, .int ((1 : Int32))), (4, .int ((0 : Int32))), (3, .int r6), (0, .ref (w.1 0)), (1, .int x1), (2, .int x2)] dX12_best_30  (by decide) rfl ?_
      refine ww_sub [3, 4, 5, 2, 1, 0] rfl ?_
      exact j32 _ _ _ _ _ _ _ h
    · refine ww_iconst (pc := 18) hC (v := (-1 : Int32)) dX12_best_18 (by decide) ?_
      exact ww_iret (pc := 19) hC hr h dX12_best_19
noncomputable def fX12_mixed_67 (k8 : Int32 → Int32 → Int32 → Int32 → Int32 → XD → Option (Int32 × XD)) (x1 : Int32) (x2 : Int32) (x3 : Int32) (x5 : Int32) (s0 : Int32) (X : XD) : Option (Int32 × XD) := nm (x5 + (1 : Int32)) (fun y11 => k8 x1 x2 x3 s0 y11 X)
noncomputable def fX12_mixed_8 (n : Nat) : Int32 → Int32 → Int32 → Int32 → Int32 → XD → Option (Int32 × XD) := Nat.rec (motive := fun _ => Int32 → Int32 → Int32 → Int32 → Int32 → XD → Option (Int32 × XD)) (fun _ _ _ _ _ _ => none) (fun _ f => fun x1 x2 x3 x4 x5 X => if ((3 : Int32)) ≤ x5 then some (x4, X) else bnw (fX12_chanceOf x1 ((0 : Int32)) x5 X) (fun r2 X_3 => bnw (fX12_chanceOf x1 ((1 : Int32)) x5 X_3) (fun r5 X_6 => bnw (fX12_chanceOf x1 ((2 : Int32)) x5 X_6) (fun r8 X_9 => nm (((x2 * r2) + (x3 * r5)) + (((((10 : Int32)) - x2) - x3) * r8)) (fun y10 => if x4 ≤ y10 then fX12_mixed_67 (f) x1 x2 x3 x5 x4 X_9 else fX12_mixed_67 (f) x1 x2 x3 x5 y10 X_9))))) n
theorem fX12_mixed_8_s (n : Nat) (x1 : Int32) (x2 : Int32) (x3 : Int32) (x4 : Int32) (x5 : Int32) (X : XD) : fX12_mixed_8 (n + 1) x1 x2 x3 x4 x5 X = if ((3 : Int32)) ≤ x5 then some (x4, X) else bnw (fX12_chanceOf x1 ((0 : Int32)) x5 X) (fun r2 X_3 => bnw (fX12_chanceOf x1 ((1 : Int32)) x5 X_3) (fun r5 X_6 => bnw (fX12_chanceOf x1 ((2 : Int32)) x5 X_6) (fun r8 X_9 => nm (((x2 * r2) + (x3 * r5)) + (((((10 : Int32)) - x2) - x3) * r8)) (fun y10 => if x4 ≤ y10 then fX12_mixed_67 ((fX12_mixed_8 n)) x1 x2 x3 x5 x4 X_9 else fX12_mixed_67 ((fX12_mixed_8 n)) x1 x2 x3 x5 y10 X_9)))) := rfl
noncomputable def fX12_mixed (x1 : Int32) (x2 : Int32) (x3 : Int32) (X : XD) : Option (Int32 × XD) := fX12_mixed_8 FU x1 x2 x3 ((9999 : Int32)) ((0 : Int32)) X
set_option maxHeartbeats 40000000 in
set_option maxRecDepth 100000 in
theorem ceX12_mixed {l : Launch} {E : XE} {w : XW} {z : Nat} {Z : XS} (hL : LayM Z) {x1 : Int32} {x2 : Int32} {x3 : Int32} {X X1 : XD} {r : Int32} (h : fX12_mixed x1 x2 x3 X = some (r, X1)) : Ct l E w yX12_mixed (wsM yX12_mixed cX12_mixed 7 (some .int)) (rmX 6 0 0) 0 0 [.ref (w.1 0), .int x1, .int x2, .int x3] z z Z Z X X1 (some (.int r)) := by
  refine ct_of (by decide) (Nat.le_of_ble_eq_true rfl) ?_
  intro p e s m args below meth c hC hr hin hav
  have j67 : ∀ (k8 : Int32 → Int32 → Int32 → Int32 → Int32 → XD → Option (Int32 × XD)) (hk8 : ∀ (x1 : Int32) (x2 : Int32) (x3 : Int32) (x4 : Int32) (x5 : Int32) (X : XD), k8 x1 x2 x3 x4 x5 X = some (r, X1) → WW p l e (rmX 6 0 0) s m args below meth c 7 (MQ below (XQ E w z Z X1 (some (.int r))) args s 0 0 (A0 E)) E w 0 0 z Z 8 [(0, .ref (w.1 0)), (1, .int x1), (2, .int x2), (3, .int x3), (4, .int x4), (5, .int x5)] [] X), ∀ (x1 : Int32) (x2 : Int32) (x3 : Int32) (x5 : Int32) (s0 : Int32) (X : XD), fX12_mixed_67 k8 x1 x2 x3 x5 s0 X = some (r, X1) → WW p l e (rmX 6 0 0) s m args below meth c 7 (MQ below (XQ E w z Z X1 (some (.int r))) args s 0 0 (A0 E)) E w 0 0 z Z 67 [(0, .ref (w.1 0)), (1, .int x1), (2, .int x2), (3, .int x3), (5, .int x5)] [.int s0] X := by
    intro k8 hk8 x1 x2 x3 x5 s0 X h
    unfold fX12_mixed_67 at h
    refine ww_istore (pc := 67) hC [(4, .int s0), (0, .ref (w.1 0)), (1, .int x1), (2, .int x2), (3, .int x3), (5, .int x5)] dX12_mixed_67  (by decide) rfl ?_
    obtain ⟨y11, ey11⟩ : ∃ q, q = x5 + (1 : Int32) := ⟨_, rfl⟩
    replace h := nm_i h ey11
    refine ww_iinc (pc := 69) hC y11 [(5, .int y11), (4, .int s0), (0, .ref (w.1 0)), (1, .int x1), (2, .int x2), (3, .int x3)] dX12_mixed_69 5 rfl (by rw [ey11]; rfl) (by decide) rfl ?_
    refine ww_goto (pc := 72) hC 8 dX12_mixed_72 (by decide) ?_
    refine ww_sub [2, 3, 4, 5, 1, 0] rfl ?_
    exact hk8 _ _ _ _ _ _ h
  have j8 : ∀ (n : Nat), ∀ (x1 : Int32) (x2 : Int32) (x3 : Int32) (x4 : Int32) (x5 : Int32) (X : XD), fX12_mixed_8 n x1 x2 x3 x4 x5 X = some (r, X1) → WW p l e (rmX 6 0 0) s m args below meth c 7 (MQ below (XQ E w z Z X1 (some (.int r))) args s 0 0 (A0 E)) E w 0 0 z Z 8 [(0, .ref (w.1 0)), (1, .int x1), (2, .int x2), (3, .int x3), (4, .int x4), (5, .int x5)] [] X := by
    intro n
    induction n with
    | zero =>
      intro x1 x2 x3 x4 x5 X h
      cases (show none = some (r, X1) from h)
    | succ n ih =>
      intro x1 x2 x3 x4 x5 X h
      rw [fX12_mixed_8_s] at h
      refine ww_iload (pc := 8) hC dX12_mixed_8 5 rfl ?_
      refine ww_iconst (pc := 10) hC (v := (3 : Int32)) dX12_mixed_10 (by decide) ?_
      refine ww_icmp_ge (pc := 11) hC h 75 dX12_mixed_11 (by decide) (fun h => ?_) (fun h => ?_)
      · refine ww_iload (pc := 75) hC dX12_mixed_75 4 rfl ?_
        exact ww_iret (pc := 77) hC hr h dX12_mixed_77
      · refine ww_iload_n (pc := 14) hC dX12_mixed_14 2 rfl ?_
        refine ww_aload_n (pc := 15) hC dX12_mixed_15 0 rfl ?_
        refine ww_iload_n (pc := 16) hC dX12_mixed_16 1 rfl ?_
        refine ww_iconst (pc := 17) hC (v := (0 : Int32)) dX12_mixed_17 (by decide) ?_
        refine ww_iload (pc := 18) hC dX12_mixed_18 5 rfl ?_
        obtain ⟨r2, X_3, h1, h⟩ := bnw_i h
        refine ww_callVi (pc := 20) hC [.int x1, .int ((0 : Int32)), .int x5] hL.1.1 hL.1.2 (by decide) (ceX12_chanceOf hL h1) ql_X12_317 qi_X12_chanceOf qs_X12_X12_chanceOf qn_X12 qc_X12_chanceOf rfl ⟨by decide, by decide, rfl⟩ rfl ⟨Nat.le_of_ble_eq_true rfl, Nat.le_of_ble_eq_true rfl⟩ (by decide) (rest := [.int x2]) (Nat.le_of_ble_eq_true rfl) dX12_mixed_20 ⟨Nat.le_of_ble_eq_true rfl, Nat.le_of_ble_eq_true rfl⟩ rfl ?_
        refine ww_imul (pc := 23) hC dX12_mixed_23 ?_
        refine ww_iload_n (pc := 24) hC dX12_mixed_24 3 rfl ?_
        refine ww_aload_n (pc := 25) hC dX12_mixed_25 0 rfl ?_
        refine ww_iload_n (pc := 26) hC dX12_mixed_26 1 rfl ?_
        refine ww_iconst (pc := 27) hC (v := (1 : Int32)) dX12_mixed_27 (by decide) ?_
        refine ww_iload (pc := 28) hC dX12_mixed_28 5 rfl ?_
        obtain ⟨r5, X_6, h4, h⟩ := bnw_i h
        refine ww_callVi (pc := 30) hC [.int x1, .int ((1 : Int32)), .int x5] hL.1.1 hL.1.2 (by decide) (ceX12_chanceOf hL h4) ql_X12_317 qi_X12_chanceOf qs_X12_X12_chanceOf qn_X12 qc_X12_chanceOf rfl ⟨by decide, by decide, rfl⟩ rfl ⟨Nat.le_of_ble_eq_true rfl, Nat.le_of_ble_eq_true rfl⟩ (by decide) (rest := [.int x3, .int (x2 * r2)]) (Nat.le_of_ble_eq_true rfl) dX12_mixed_30 ⟨Nat.le_of_ble_eq_true rfl, Nat.le_of_ble_eq_true rfl⟩ rfl ?_
        refine ww_imul (pc := 33) hC dX12_mixed_33 ?_
        refine ww_iadd (pc := 34) hC dX12_mixed_34 ?_
        refine ww_bipush (pc := 35) hC (v := (10 : Int32)) dX12_mixed_35 (by decide) ?_
        refine ww_iload_n (pc := 37) hC dX12_mixed_37 2 rfl ?_
        refine ww_isub (pc := 38) hC dX12_mixed_38 ?_
        refine ww_iload_n (pc := 39) hC dX12_mixed_39 3 rfl ?_
        refine ww_isub (pc := 40) hC dX12_mixed_40 ?_
        refine ww_aload_n (pc := 41) hC dX12_mixed_41 0 rfl ?_
        refine ww_iload_n (pc := 42) hC dX12_mixed_42 1 rfl ?_
        refine ww_iconst (pc := 43) hC (v := (2 : Int32)) dX12_mixed_43 (by decide) ?_
        refine ww_iload (pc := 44) hC dX12_mixed_44 5 rfl ?_
        obtain ⟨r8, X_9, h7, h⟩ := bnw_i h
        refine ww_callVi (pc := 46) hC [.int x1, .int ((2 : Int32)), .int x5] hL.1.1 hL.1.2 (by decide) (ceX12_chanceOf hL h7) ql_X12_317 qi_X12_chanceOf qs_X12_X12_chanceOf qn_X12 qc_X12_chanceOf rfl ⟨by decide, by decide, rfl⟩ rfl ⟨Nat.le_of_ble_eq_true rfl, Nat.le_of_ble_eq_true rfl⟩ (by decide) (rest := [.int ((((10 : Int32)) - x2) - x3), .int ((x2 * r2) + (x3 * r5))]) (Nat.le_of_ble_eq_true rfl) dX12_mixed_46 ⟨Nat.le_of_ble_eq_true rfl, Nat.le_of_ble_eq_true rfl⟩ rfl ?_
        refine ww_imul (pc := 49) hC dX12_mixed_49 ?_
        refine ww_iadd (pc := 50) hC dX12_mixed_50 ?_
        obtain ⟨y10, ey10⟩ : ∃ q, q = ((x2 * r2) + (x3 * r5)) + (((((10 : Int32)) - x2) - x3) * r8) := ⟨_, rfl⟩
        replace h := nm_i h ey10
        refine ww_nmi ey10 ?_
        refine ww_istore (pc := 51) hC [(6, .int y10), (0, .ref (w.1 0)), (1, .int x1), (2, .int x2), (3, .int x3), (4, .int x4), (5, .int x5)] dX12_mixed_51  (by decide) rfl ?_
        refine ww_iload (pc := 53) hC dX12_mixed_53 0 rfl ?_
        refine ww_iload (pc := 55) hC dX12_mixed_55 5 rfl ?_
        refine ww_icmp_ge (pc := 57) hC h 65 dX12_mixed_57 (by decide) (fun h => ?_) (fun h => ?_)
        · refine ww_iload (pc := 65) hC dX12_mixed_65 5 rfl ?_
          refine ww_sub [1, 2, 3, 4, 6] rfl ?_
          exact j67 _ ih _ _ _ _ _ _ h
        · refine ww_iload (pc := 60) hC dX12_mixed_60 0 rfl ?_
          refine ww_goto (pc := 62) hC 67 dX12_mixed_62 (by decide) ?_
          refine ww_sub [1, 2, 3, 4, 6] rfl ?_
          exact j67 _ ih _ _ _ _ _ _ h
  unfold fX12_mixed at h
  refine ww_lv (lv' := [(0, .ref (w.1 0)), (1, .int x1), (2, .int x2), (3, .int x3)]) rfl ?_
  refine ww_sipush (pc := 0) hC (v := (9999 : Int32)) dX12_mixed_0 (by decide) ?_
  refine ww_istore (pc := 3) hC [(4, .int ((9999 : Int32))), (0, .ref (w.1 0)), (1, .int x1), (2, .int x2), (3, .int x3)] dX12_mixed_3  (by decide) rfl ?_
  refine ww_iconst (pc := 5) hC (v := (0 : Int32)) dX12_mixed_5 (by decide) ?_
  refine ww_istore (pc := 6) hC [(5, .int ((0 : Int32))), (4, .int ((9999 : Int32))), (0, .ref (w.1 0)), (1, .int x1), (2, .int x2), (3, .int x3)] dX12_mixed_6  (by decide) rfl ?_
  refine ww_sub [2, 3, 4, 5, 1, 0] rfl ?_
  exact j8 _ _ _ _ _ _ _ h
noncomputable def fX12_mix_94 (k28 : Int32 → Int32 → Int32 → Int32 → Int32 → XD → Option (Int32 × XD)) (k38 : Int32 → Int32 → Int32 → Int32 → Int32 → Int32 → XD → Option (Int32 × XD)) (x1 : Int32) (x2 : Int32) (x3 : Int32) (x4 : Int32) (x5 : Int32) (x6 : Int32) (X : XD) : Option (Int32 × XD) := nm (x6 + (1 : Int32)) (fun y10 => k38 x1 x2 x3 x4 x5 y10 X)
noncomputable def fX12_mix_38 (k28 : Int32 → Int32 → Int32 → Int32 → Int32 → XD → Option (Int32 × XD)) (n : Nat) : Int32 → Int32 → Int32 → Int32 → Int32 → Int32 → XD → Option (Int32 × XD) := Nat.rec (motive := fun _ => Int32 → Int32 → Int32 → Int32 → Int32 → Int32 → XD → Option (Int32 × XD)) (fun _ _ _ _ _ _ _ => none) (fun _ f => fun x1 x2 x3 x4 x5 x6 X => if (((11 : Int32)) - x5) ≤ x6 then nm (x5 + (1 : Int32)) (fun y5 => k28 x1 x2 x3 x4 y5 X) else bnw (fX12_mixed x1 x5 x6 X) (fun r7 X_8 => if x4 < r7 then nm (((((((100 : Int32)) * x5) + (((10 : Int32)) * x6)) + ((10 : Int32))) - x5) - x6) (fun y9 => fX12_mix_94 k28 (f) x1 x2 y9 r7 x5 x6 X_8) else fX12_mix_94 k28 (f) x1 x2 x3 x4 x5 x6 X_8)) n
theorem fX12_mix_38_s (k28 : Int32 → Int32 → Int32 → Int32 → Int32 → XD → Option (Int32 × XD)) (n : Nat) (x1 : Int32) (x2 : Int32) (x3 : Int32) (x4 : Int32) (x5 : Int32) (x6 : Int32) (X : XD) : fX12_mix_38 k28 (n + 1) x1 x2 x3 x4 x5 x6 X = if (((11 : Int32)) - x5) ≤ x6 then nm (x5 + (1 : Int32)) (fun y5 => k28 x1 x2 x3 x4 y5 X) else bnw (fX12_mixed x1 x5 x6 X) (fun r7 X_8 => if x4 < r7 then nm (((((((100 : Int32)) * x5) + (((10 : Int32)) * x6)) + ((10 : Int32))) - x5) - x6) (fun y9 => fX12_mix_94 k28 ((fX12_mix_38 k28 n)) x1 x2 y9 r7 x5 x6 X_8) else fX12_mix_94 k28 ((fX12_mix_38 k28 n)) x1 x2 x3 x4 x5 x6 X_8) := rfl
noncomputable def fX12_mix_28 (n : Nat) : Int32 → Int32 → Int32 → Int32 → Int32 → XD → Option (Int32 × XD) := Nat.rec (motive := fun _ => Int32 → Int32 → Int32 → Int32 → Int32 → XD → Option (Int32 × XD)) (fun _ _ _ _ _ _ => none) (fun _ f => fun x1 x2 x3 x4 x5 X => if ((11 : Int32)) ≤ x5 then if x2 = 0 then some (x3, X) else some (x4, X) else fX12_mix_38 (f) FU x1 x2 x3 x4 x5 ((0 : Int32)) X) n
theorem fX12_mix_28_s (n : Nat) (x1 : Int32) (x2 : Int32) (x3 : Int32) (x4 : Int32) (x5 : Int32) (X : XD) : fX12_mix_28 (n + 1) x1 x2 x3 x4 x5 X = if ((11 : Int32)) ≤ x5 then if x2 = 0 then some (x3, X) else some (x4, X) else fX12_mix_38 ((fX12_mix_28 n)) FU x1 x2 x3 x4 x5 ((0 : Int32)) X := rfl
noncomputable def fX12_mix (x1 : Int32) (x2 : Int32) (X : XD) : Option (Int32 × XD) := bnd (fX12_isShooter x1 X) (fun r2 => if r2 = 0 then some ((-1 : Int32), X) else bnd (fX12_in x2 ((0 : Int32)) ((1 : Int32)) X) (fun r4 => if r4 = 0 then some ((-1 : Int32), X) else fX12_mix_28 FU x1 x2 ((0 : Int32)) ((-1 : Int32)) ((0 : Int32)) X))
set_option maxHeartbeats 40000000 in
set_option maxRecDepth 100000 in
theorem ceX12_mix {l : Launch} {E : XE} {w : XW} {z : Nat} {Z : XS} (hL : LayM Z) {x1 : Int32} {x2 : Int32} {X X1 : XD} {r : Int32} (h : fX12_mix x1 x2 X = some (r, X1)) : Ct l E w yX12_mix (wsM yX12_mix cX12_mix 8 (some .int)) (rmX 7 0 0) 0 0 [.ref (w.1 0), .int x1, .int x2] z z Z Z X X1 (some (.int r)) := by
  refine ct_of (by decide) (Nat.le_of_ble_eq_true rfl) ?_
  intro p e s m args below meth c hC hr hin hav
  have j94 : ∀ (k28 : Int32 → Int32 → Int32 → Int32 → Int32 → XD → Option (Int32 × XD)) (hk28 : ∀ (x1 : Int32) (x2 : Int32) (x3 : Int32) (x4 : Int32) (x5 : Int32) (X : XD), k28 x1 x2 x3 x4 x5 X = some (r, X1) → WW p l e (rmX 7 0 0) s m args below meth c 8 (MQ below (XQ E w z Z X1 (some (.int r))) args s 0 0 (A0 E)) E w 0 0 z Z 28 [(0, .ref (w.1 0)), (1, .int x1), (2, .int x2), (3, .int x3), (4, .int x4), (5, .int x5)] [] X) (k38 : Int32 → Int32 → Int32 → Int32 → Int32 → Int32 → XD → Option (Int32 × XD)) (hk38 : ∀ (x1 : Int32) (x2 : Int32) (x3 : Int32) (x4 : Int32) (x5 : Int32) (x6 : Int32) (X : XD), k38 x1 x2 x3 x4 x5 x6 X = some (r, X1) → WW p l e (rmX 7 0 0) s m args below meth c 8 (MQ below (XQ E w z Z X1 (some (.int r))) args s 0 0 (A0 E)) E w 0 0 z Z 38 [(0, .ref (w.1 0)), (1, .int x1), (2, .int x2), (3, .int x3), (4, .int x4), (5, .int x5), (6, .int x6)] [] X), ∀ (x1 : Int32) (x2 : Int32) (x3 : Int32) (x4 : Int32) (x5 : Int32) (x6 : Int32) (X : XD), fX12_mix_94 k28 k38 x1 x2 x3 x4 x5 x6 X = some (r, X1) → WW p l e (rmX 7 0 0) s m args below meth c 8 (MQ below (XQ E w z Z X1 (some (.int r))) args s 0 0 (A0 E)) E w 0 0 z Z 94 [(0, .ref (w.1 0)), (1, .int x1), (2, .int x2), (3, .int x3), (4, .int x4), (5, .int x5), (6, .int x6)] [] X := by
    intro k28 hk28 k38 hk38 x1 x2 x3 x4 x5 x6 X h
    unfold fX12_mix_94 at h
    obtain ⟨y10, ey10⟩ : ∃ q, q = x6 + (1 : Int32) := ⟨_, rfl⟩
    replace h := nm_i h ey10
    refine ww_iinc (pc := 94) hC y10 [(6, .int y10), (0, .ref (w.1 0)), (1, .int x1), (2, .int x2), (3, .int x3), (4, .int x4), (5, .int x5)] dX12_mix_94 6 rfl (by rw [ey10]; rfl) (by decide) rfl ?_
    refine ww_goto (pc := 97) hC 38 dX12_mix_97 (by decide) ?_
    refine ww_sub [1, 2, 3, 4, 5, 6, 0] rfl ?_
    exact hk38 _ _ _ _ _ _ _ h
  have j38 : ∀ (k28 : Int32 → Int32 → Int32 → Int32 → Int32 → XD → Option (Int32 × XD)) (hk28 : ∀ (x1 : Int32) (x2 : Int32) (x3 : Int32) (x4 : Int32) (x5 : Int32) (X : XD), k28 x1 x2 x3 x4 x5 X = some (r, X1) → WW p l e (rmX 7 0 0) s m args below meth c 8 (MQ below (XQ E w z Z X1 (some (.int r))) args s 0 0 (A0 E)) E w 0 0 z Z 28 [(0, .ref (w.1 0)), (1, .int x1), (2, .int x2), (3, .int x3), (4, .int x4), (5, .int x5)] [] X) (n : Nat), ∀ (x1 : Int32) (x2 : Int32) (x3 : Int32) (x4 : Int32) (x5 : Int32) (x6 : Int32) (X : XD), fX12_mix_38 k28 n x1 x2 x3 x4 x5 x6 X = some (r, X1) → WW p l e (rmX 7 0 0) s m args below meth c 8 (MQ below (XQ E w z Z X1 (some (.int r))) args s 0 0 (A0 E)) E w 0 0 z Z 38 [(0, .ref (w.1 0)), (1, .int x1), (2, .int x2), (3, .int x3), (4, .int x4), (5, .int x5), (6, .int x6)] [] X := by
    intro k28 hk28
    intro n
    induction n with
    | zero =>
      intro x1 x2 x3 x4 x5 x6 X h
      cases (show none = some (r, X1) from h)
    | succ n ih =>
      intro x1 x2 x3 x4 x5 x6 X h
      rw [fX12_mix_38_s] at h
      refine ww_iload (pc := 38) hC dX12_mix_38 6 rfl ?_
      refine ww_bipush (pc := 40) hC (v := (11 : Int32)) dX12_mix_40 (by decide) ?_
      refine ww_iload (pc := 42) hC dX12_mix_42 5 rfl ?_
      refine ww_isub (pc := 44) hC dX12_mix_44 ?_
      refine ww_icmp_ge (pc := 45) hC h 100 dX12_mix_45 (by decide) (fun h => ?_) (fun h => ?_)
      · obtain ⟨y5, ey5⟩ : ∃ q, q = x5 + (1 : Int32) := ⟨_, rfl⟩
        replace h := nm_i h ey5
        refine ww_iinc (pc := 100) hC y5 [(5, .int y5), (0, .ref (w.1 0)), (1, .int x1), (2, .int x2), (3, .int x3), (4, .int x4), (6, .int x6)] dX12_mix_100 5 rfl (by rw [ey5]; rfl) (by decide) rfl ?_
        refine ww_goto (pc := 103) hC 28 dX12_mix_103 (by decide) ?_
        refine ww_sub [1, 2, 3, 4, 5, 0] rfl ?_
        exact hk28 _ _ _ _ _ _ h
      · refine ww_aload_n (pc := 48) hC dX12_mix_48 0 rfl ?_
        refine ww_iload_n (pc := 49) hC dX12_mix_49 1 rfl ?_
        refine ww_iload (pc := 50) hC dX12_mix_50 5 rfl ?_
        refine ww_iload (pc := 52) hC dX12_mix_52 6 rfl ?_
        obtain ⟨r7, X_8, h6, h⟩ := bnw_i h
        refine ww_callVi (pc := 54) hC [.int x1, .int x5, .int x6] hL.1.1 hL.1.2 (by decide) (ceX12_mixed hL h6) ql_X12_330 qi_X12_mixed qs_X12_X12_mixed qn_X12 qc_X12_mixed rfl ⟨by decide, by decide, rfl⟩ rfl ⟨Nat.le_of_ble_eq_true rfl, Nat.le_of_ble_eq_true rfl⟩ (by decide) (rest := []) (Nat.le_of_ble_eq_true rfl) dX12_mix_54 ⟨Nat.le_of_ble_eq_true rfl, Nat.le_of_ble_eq_true rfl⟩ rfl ?_
        refine ww_istore (pc := 57) hC [(7, .int r7), (0, .ref (w.1 0)), (1, .int x1), (2, .int x2), (3, .int x3), (4, .int x4), (5, .int x5), (6, .int x6)] dX12_mix_57  (by decide) rfl ?_
        refine ww_iload (pc := 59) hC dX12_mix_59 0 rfl ?_
        refine ww_iload (pc := 61) hC dX12_mix_61 5 rfl ?_
        refine ww_icmp_gt (pc := 63) hC h 69 dX12_mix_63 (by decide) (fun h => ?_) (fun h => ?_)
        · refine ww_bipush (pc := 69) hC (v := (100 : Int32)) dX12_mix_69 (by decide) ?_
          refine ww_iload (pc := 71) hC dX12_mix_71 6 rfl ?_
          refine ww_imul (pc := 73) hC dX12_mix_73 ?_
          refine ww_bipush (pc := 74) hC (v := (10 : Int32)) dX12_mix_74 (by decide) ?_
          refine ww_iload (pc := 76) hC dX12_mix_76 7 rfl ?_
          refine ww_imul (pc := 78) hC dX12_mix_78 ?_
          refine ww_iadd (pc := 79) hC dX12_mix_79 ?_
          refine ww_bipush (pc := 80) hC (v := (10 : Int32)) dX12_mix_80 (by decide) ?_
          refine ww_iadd (pc := 82) hC dX12_mix_82 ?_
          refine ww_iload (pc := 83) hC dX12_mix_83 6 rfl ?_
          refine ww_isub (pc := 85) hC dX12_mix_85 ?_
          refine ww_iload (pc := 86) hC dX12_mix_86 7 rfl ?_
          refine ww_isub (pc := 88) hC dX12_mix_88 ?_
          obtain ⟨y9, ey9⟩ : ∃ q, q = ((((((100 : Int32)) * x5) + (((10 : Int32)) * x6)) + ((10 : Int32))) - x5) - x6 := ⟨_, rfl⟩
          replace h := nm_i h ey9
          refine ww_nmi ey9 ?_
          refine ww_istore_n (pc := 89) hC [(3, .int y9), (7, .int r7), (0, .ref (w.1 0)), (1, .int x1), (2, .int x2), (4, .int x4), (5, .int x5), (6, .int x6)] dX12_mix_89 rfl (by decide) rfl ?_
          refine ww_iload (pc := 90) hC dX12_mix_90 1 rfl ?_
          refine ww_istore (pc := 92) hC [(4, .int r7), (3, .int y9), (7, .int r7), (0, .ref (w.1 0)), (1, .int x1), (2, .int x2), (5, .int x5), (6, .int x6)] dX12_mix_92  (by decide) rfl ?_
          refine ww_sub [3, 4, 5, 1, 0, 6, 7] rfl ?_
          exact j94 _ hk28 _ ih _ _ _ _ _ _ _ h
        · refine ww_goto (pc := 66) hC 94 dX12_mix_66 (by decide) ?_
          refine ww_sub [1, 2, 3, 4, 5, 6, 7] rfl ?_
          exact j94 _ hk28 _ ih _ _ _ _ _ _ _ h
  have j28 : ∀ (n : Nat), ∀ (x1 : Int32) (x2 : Int32) (x3 : Int32) (x4 : Int32) (x5 : Int32) (X : XD), fX12_mix_28 n x1 x2 x3 x4 x5 X = some (r, X1) → WW p l e (rmX 7 0 0) s m args below meth c 8 (MQ below (XQ E w z Z X1 (some (.int r))) args s 0 0 (A0 E)) E w 0 0 z Z 28 [(0, .ref (w.1 0)), (1, .int x1), (2, .int x2), (3, .int x3), (4, .int x4), (5, .int x5)] [] X := by
    intro n
    induction n with
    | zero =>
      intro x1 x2 x3 x4 x5 X h
      cases (show none = some (r, X1) from h)
    | succ n ih =>
      intro x1 x2 x3 x4 x5 X h
      rw [fX12_mix_28_s] at h
      refine ww_iload (pc := 28) hC dX12_mix_28 5 rfl ?_
      refine ww_bipush (pc := 30) hC (v := (11 : Int32)) dX12_mix_30 (by decide) ?_
      refine ww_icmp_ge (pc := 32) hC h 106 dX12_mix_32 (by decide) (fun h => ?_) (fun h => ?_)
      · refine ww_iload_n (pc := 106) hC dX12_mix_106 2 rfl ?_
        refine ww_if_ne (pc := 107) hC h 114 dX12_mix_107 (by decide) (fun h => ?_) (fun h => ?_)
        · refine ww_iload (pc := 114) hC dX12_mix_114 4 rfl ?_
          exact ww_iret (pc := 116) hC hr h dX12_mix_116
        · refine ww_iload_n (pc := 110) hC dX12_mix_110 3 rfl ?_
          refine ww_goto (pc := 111) hC 116 dX12_mix_111 (by decide) ?_
          exact ww_iret (pc := 116) hC hr h dX12_mix_116
      · refine ww_iconst (pc := 35) hC (v := (0 : Int32)) dX12_mix_35 (by decide) ?_
        refine ww_istore (pc := 36) hC [(6, .int ((0 : Int32))), (0, .ref (w.1 0)), (1, .int x1), (2, .int x2), (3, .int x3), (4, .int x4), (5, .int x5)] dX12_mix_36  (by decide) rfl ?_
        refine ww_sub [1, 2, 3, 4, 5, 6, 0] rfl ?_
        exact j38 _ ih _ _ _ _ _ _ _ _ h
  unfold fX12_mix at h
  refine ww_lv (lv' := [(0, .ref (w.1 0)), (1, .int x1), (2, .int x2)]) rfl ?_
  refine ww_aload_n (pc := 0) hC dX12_mix_0 0 rfl ?_
  refine ww_iload_n (pc := 1) hC dX12_mix_1 1 rfl ?_
  obtain ⟨r2, h1, h⟩ := bnd_i h
  refine ww_callVi (pc := 2) hC [.int x1] hL.1.1 hL.1.2 (by decide) (ceX12_isShooter hL h1) ql_X12_219 qi_X12_isShooter qs_X12_X12_isShooter qn_X12 qc_X12_isShooter rfl ⟨by decide, by decide, rfl⟩ rfl ⟨Nat.le_of_ble_eq_true rfl, Nat.le_of_ble_eq_true rfl⟩ (by decide) (rest := []) (Nat.le_of_ble_eq_true rfl) dX12_mix_2 ⟨Nat.le_of_ble_eq_true rfl, Nat.le_of_ble_eq_true rfl⟩ rfl ?_
  refine ww_if_eq (pc := 5) hC h 18 dX12_mix_5 (by decide) (fun h => ?_) (fun h => ?_)
  · refine ww_iconst (pc := 18) hC (v := (-1 : Int32)) dX12_mix_18 (by decide) ?_
    exact ww_iret (pc := 19) hC hr h dX12_mix_19
  · refine ww_aload_n (pc := 8) hC dX12_mix_8 0 rfl ?_
    refine ww_iload_n (pc := 9) hC dX12_mix_9 2 rfl ?_
    refine ww_iconst (pc := 10) hC (v := (0 : Int32)) dX12_mix_10 (by decide) ?_
    refine ww_iconst (pc := 11) hC (v := (1 : Int32)) dX12_mix_11 (by decide) ?_
    obtain ⟨r4, h3, h⟩ := bnd_i h
    refine ww_callVi (pc := 12) hC [.int x2, .int ((0 : Int32)), .int ((1 : Int32))] hL.1.1 hL.1.2 (by decide) (ceX12_in hL h3) ql_X12_215 qi_X12_in qs_X12_X12_in qn_X12 qc_X12_in rfl ⟨by decide, by decide, rfl⟩ rfl ⟨Nat.le_of_ble_eq_true rfl, Nat.le_of_ble_eq_true rfl⟩ (by decide) (rest := []) (Nat.le_of_ble_eq_true rfl) dX12_mix_12 ⟨Nat.le_of_ble_eq_true rfl, Nat.le_of_ble_eq_true rfl⟩ rfl ?_
    refine ww_if_ne (pc := 15) hC h 20 dX12_mix_15 (by decide) (fun h => ?_) (fun h => ?_)
    · refine ww_iconst (pc := 20) hC (v := (0 : Int32)) dX12_mix_20 (by decide) ?_
      refine ww_istore_n (pc := 21) hC [(3, .int ((0 : Int32))), (0, .ref (w.1 0)), (1, .int x1), (2, .int x2)] dX12_mix_21 rfl (by decide) rfl ?_
      refine ww_iconst (pc := 22) hC (v := (-1 : Int32)) dX12_mix_22 (by decide) ?_
      refine ww_istore (pc := 23) hC [(4, .int ((-1 : Int32))), (3, .int ((0 : Int32))), (0, .ref (w.1 0)), (1, .int x1), (2, .int x2)] dX12_mix_23  (by decide) rfl ?_
      refine ww_iconst (pc := 25) hC (v := (0 : Int32)) dX12_mix_25 (by decide) ?_
      refine ww_istore (pc := 26) hC [(5, .int ((0 : Int32))), (4, .int ((-1 : Int32))), (3, .int ((0 : Int32))), (0, .ref (w.1 0)), (1, .int x1), (2, .int x2)] dX12_mix_26  (by decide) rfl ?_
      refine ww_sub [3, 4, 5, 2, 1, 0] rfl ?_
      exact j28 _ _ _ _ _ _ _ h
    · refine ww_iconst (pc := 18) hC (v := (-1 : Int32)) dX12_mix_18 (by decide) ?_
      exact ww_iret (pc := 19) hC hr h dX12_mix_19
noncomputable def fX12_save_18 (n : Nat) : Int32 → XD → Option (Unit × XD) := Nat.rec (motive := fun _ => Int32 → XD → Option (Unit × XD)) (fun _ _ => none) (fun _ f => fun x1 X => if ((6 : Int32)) ≤ x1 then some ((), X) else gin x1 6 (gin x1 6 (nm (wI X 17 (x1).toNatClampNeg (X.1 3 (x1).toNatClampNeg)) (fun X_3 => gin x1 6 (gin x1 6 (nm (wI X_3 18 (x1).toNatClampNeg (X_3.1 4 (x1).toNatClampNeg)) (fun X_4 => gin x1 6 (gin x1 6 (nm (wI X_4 19 (x1).toNatClampNeg (X_4.1 5 (x1).toNatClampNeg)) (fun X_5 => nm (x1 + (1 : Int32)) (fun y6 => f y6 X_5))))))))))) n
theorem fX12_save_18_s (n : Nat) (x1 : Int32) (X : XD) : fX12_save_18 (n + 1) x1 X = if ((6 : Int32)) ≤ x1 then some ((), X) else gin x1 6 (gin x1 6 (nm (wI X 17 (x1).toNatClampNeg (X.1 3 (x1).toNatClampNeg)) (fun X_3 => gin x1 6 (gin x1 6 (nm (wI X_3 18 (x1).toNatClampNeg (X_3.1 4 (x1).toNatClampNeg)) (fun X_4 => gin x1 6 (gin x1 6 (nm (wI X_4 19 (x1).toNatClampNeg (X_4.1 5 (x1).toNatClampNeg)) (fun X_5 => nm (x1 + (1 : Int32)) (fun y6 => (fX12_save_18 n) y6 X_5)))))))))) := rfl
noncomputable def fX12_save (X : XD) : Option (Unit × XD) := nm (wI X 0 27 (X.1 0 1)) (fun X_1 => nm (wI X_1 0 28 (X_1.1 0 2)) (fun X_2 => fX12_save_18 FU ((0 : Int32)) X_2))
set_option maxHeartbeats 40000000 in
set_option maxRecDepth 100000 in
theorem ceX12_save {l : Launch} {E : XE} {w : XW} {z : Nat} {Z : XS} (hL : LayM Z) {X X1 : XD} {r : Unit} (h : fX12_save X = some (r, X1)) : Ct l E w yX12_save (wsM yX12_save cX12_save 2 none) (rmX 1 0 0) 0 0 [.ref (w.1 0)] z z Z Z X X1 none := by
  refine ct_of (by decide) (Nat.le_of_ble_eq_true rfl) ?_
  intro p e s m args below meth c hC hr hin hav
  have j18 : ∀ (n : Nat), ∀ (x1 : Int32) (X : XD), fX12_save_18 n x1 X = some (r, X1) → WW p l e (rmX 1 0 0) s m args below meth c 2 (MQ below (XQ E w z Z X1 none) args s 0 0 (A0 E)) E w 0 0 z Z 18 [(0, .ref (w.1 0)), (1, .int x1)] [] X := by
    intro n
    induction n with
    | zero =>
      intro x1 X h
      cases (show none = some (r, X1) from h)
    | succ n ih =>
      intro x1 X h
      rw [fX12_save_18_s] at h
      refine ww_iload_n (pc := 18) hC dX12_save_18 1 rfl ?_
      refine ww_bipush (pc := 19) hC (v := (6 : Int32)) dX12_save_19 (by decide) ?_
      refine ww_icmp_ge (pc := 21) hC h 66 dX12_save_21 (by decide) (fun h => ?_) (fun h => ?_)
      · exact ww_vret (pc := 66) hC hr h dX12_save_66
      · refine ww_aload_n (pc := 24) hC dX12_save_24 0 rfl ?_
        refine ww_getR (pc := 25) hC 12 29 17 hL.1 RX12 (by decide) (by decide) rfl (lay_12_29 hL).1 qf_X12_99 rfl dX12_save_25 ?_
        refine ww_iload_n (pc := 28) hC dX12_save_28 1 rfl ?_
        refine ww_aload_n (pc := 29) hC dX12_save_29 0 rfl ?_
        refine ww_getR (pc := 30) hC 12 5 3 hL.1 RX12 (by decide) (by decide) rfl (lay_12_5 hL).1 qf_X12_26 rfl dX12_save_30 ?_
        refine ww_iload_n (pc := 33) hC dX12_save_33 1 rfl ?_
        refine ww_iald (pc := 34) hC ((lay_12_5 hL).2) h dX12_save_34 (fun h => ?_)
        refine ww_iast (pc := 35) hC ((lay_12_29 hL).2) h dX12_save_35 (fun h => ?_)
        obtain ⟨X_3, eX_3⟩ : ∃ q, q = wI X 17 (x1).toNatClampNeg (X.1 3 (x1).toNatClampNeg) := ⟨_, rfl⟩
        replace h := nm_i h eX_3
        refine ww_nmX eX_3 ?_
        refine ww_aload_n (pc := 36) hC dX12_save_36 0 rfl ?_
        refine ww_getR (pc := 37) hC 12 30 18 hL.1 RX12 (by decide) (by decide) rfl (lay_12_30 hL).1 qf_X12_102 rfl dX12_save_37 ?_
        refine ww_iload_n (pc := 40) hC dX12_save_40 1 rfl ?_
        refine ww_aload_n (pc := 41) hC dX12_save_41 0 rfl ?_
        refine ww_getR (pc := 42) hC 12 6 4 hL.1 RX12 (by decide) (by decide) rfl (lay_12_6 hL).1 qf_X12_29 rfl dX12_save_42 ?_
        refine ww_iload_n (pc := 45) hC dX12_save_45 1 rfl ?_
        refine ww_iald (pc := 46) hC ((lay_12_6 hL).2) h dX12_save_46 (fun h => ?_)
        refine ww_iast (pc := 47) hC ((lay_12_30 hL).2) h dX12_save_47 (fun h => ?_)
        obtain ⟨X_4, eX_4⟩ : ∃ q, q = wI X_3 18 (x1).toNatClampNeg (X_3.1 4 (x1).toNatClampNeg) := ⟨_, rfl⟩
        replace h := nm_i h eX_4
        refine ww_nmX eX_4 ?_
        refine ww_aload_n (pc := 48) hC dX12_save_48 0 rfl ?_
        refine ww_getR (pc := 49) hC 12 31 19 hL.1 RX12 (by decide) (by decide) rfl (lay_12_31 hL).1 qf_X12_105 rfl dX12_save_49 ?_
        refine ww_iload_n (pc := 52) hC dX12_save_52 1 rfl ?_
        refine ww_aload_n (pc := 53) hC dX12_save_53 0 rfl ?_
        refine ww_getR (pc := 54) hC 12 7 5 hL.1 RX12 (by decide) (by decide) rfl (lay_12_7 hL).1 qf_X12_32 rfl dX12_save_54 ?_
        refine ww_iload_n (pc := 57) hC dX12_save_57 1 rfl ?_
        refine ww_iald (pc := 58) hC ((lay_12_7 hL).2) h dX12_save_58 (fun h => ?_)
        refine ww_iast (pc := 59) hC ((lay_12_31 hL).2) h dX12_save_59 (fun h => ?_)
        obtain ⟨X_5, eX_5⟩ : ∃ q, q = wI X_4 19 (x1).toNatClampNeg (X_4.1 5 (x1).toNatClampNeg) := ⟨_, rfl⟩
        replace h := nm_i h eX_5
        refine ww_nmX eX_5 ?_
        obtain ⟨y6, ey6⟩ : ∃ q, q = x1 + (1 : Int32) := ⟨_, rfl⟩
        replace h := nm_i h ey6
        refine ww_iinc (pc := 60) hC y6 [(1, .int y6), (0, .ref (w.1 0))] dX12_save_60 1 rfl (by rw [ey6]; rfl) (by decide) rfl ?_
        refine ww_goto (pc := 63) hC 18 dX12_save_63 (by decide) ?_
        refine ww_sub [1, 0] rfl ?_
        exact ih _ _ h
  unfold fX12_save at h
  refine ww_lv (lv' := [(0, .ref (w.1 0))]) rfl ?_
  refine ww_aload_n (pc := 0) hC dX12_save_0 0 rfl ?_
  refine ww_aload_n (pc := 1) hC dX12_save_1 0 rfl ?_
  refine ww_getI (pc := 2) hC 12 1 hL.1 RX12 (by decide) (by decide) rfl qf_X12_13 (Or.inl rfl) dX12_save_2 ?_
  refine ww_putI (pc := 5) hC 12 27 hL.1 RX12 (by decide) (by decide) rfl qf_X12_93 rfl rfl rfl rfl dX12_save_5 ?_
  obtain ⟨X_1, eX_1⟩ : ∃ q, q = wI X 0 27 (X.1 0 1) := ⟨_, rfl⟩
  replace h := nm_i h eX_1
  refine ww_nmX eX_1 ?_
  refine ww_aload_n (pc := 8) hC dX12_save_8 0 rfl ?_
  refine ww_aload_n (pc := 9) hC dX12_save_9 0 rfl ?_
  refine ww_getI (pc := 10) hC 12 2 hL.1 RX12 (by decide) (by decide) rfl qf_X12_16 (Or.inl rfl) dX12_save_10 ?_
  refine ww_putI (pc := 13) hC 12 28 hL.1 RX12 (by decide) (by decide) rfl qf_X12_96 rfl rfl rfl rfl dX12_save_13 ?_
  obtain ⟨X_2, eX_2⟩ : ∃ q, q = wI X_1 0 28 (X_1.1 0 2) := ⟨_, rfl⟩
  replace h := nm_i h eX_2
  refine ww_nmX eX_2 ?_
  refine ww_iconst (pc := 16) hC (v := (0 : Int32)) dX12_save_16 (by decide) ?_
  refine ww_istore_n (pc := 17) hC [(1, .int ((0 : Int32))), (0, .ref (w.1 0))] dX12_save_17 rfl (by decide) rfl ?_
  refine ww_sub [1, 0] rfl ?_
  exact j18 _ _ _ h
noncomputable def fX12_putBack_18 (n : Nat) : Int32 → XD → Option (Unit × XD) := Nat.rec (motive := fun _ => Int32 → XD → Option (Unit × XD)) (fun _ _ => none) (fun _ f => fun x1 X => if ((6 : Int32)) ≤ x1 then some ((), X) else gin x1 6 (gin x1 6 (nm (wI X 3 (x1).toNatClampNeg (X.1 17 (x1).toNatClampNeg)) (fun X_3 => gin x1 6 (gin x1 6 (nm (wI X_3 4 (x1).toNatClampNeg (X_3.1 18 (x1).toNatClampNeg)) (fun X_4 => gin x1 6 (gin x1 6 (nm (wI X_4 5 (x1).toNatClampNeg (X_4.1 19 (x1).toNatClampNeg)) (fun X_5 => nm (x1 + (1 : Int32)) (fun y6 => f y6 X_5))))))))))) n
theorem fX12_putBack_18_s (n : Nat) (x1 : Int32) (X : XD) : fX12_putBack_18 (n + 1) x1 X = if ((6 : Int32)) ≤ x1 then some ((), X) else gin x1 6 (gin x1 6 (nm (wI X 3 (x1).toNatClampNeg (X.1 17 (x1).toNatClampNeg)) (fun X_3 => gin x1 6 (gin x1 6 (nm (wI X_3 4 (x1).toNatClampNeg (X_3.1 18 (x1).toNatClampNeg)) (fun X_4 => gin x1 6 (gin x1 6 (nm (wI X_4 5 (x1).toNatClampNeg (X_4.1 19 (x1).toNatClampNeg)) (fun X_5 => nm (x1 + (1 : Int32)) (fun y6 => (fX12_putBack_18 n) y6 X_5)))))))))) := rfl
noncomputable def fX12_putBack (X : XD) : Option (Unit × XD) := nm (wI X 0 1 (X.1 0 27)) (fun X_1 => nm (wI X_1 0 2 (X_1.1 0 28)) (fun X_2 => fX12_putBack_18 FU ((0 : Int32)) X_2))
set_option maxHeartbeats 40000000 in
set_option maxRecDepth 100000 in
theorem ceX12_putBack {l : Launch} {E : XE} {w : XW} {z : Nat} {Z : XS} (hL : LayM Z) {X X1 : XD} {r : Unit} (h : fX12_putBack X = some (r, X1)) : Ct l E w yX12_putBack (wsM yX12_putBack cX12_putBack 2 none) (rmX 1 0 0) 0 0 [.ref (w.1 0)] z z Z Z X X1 none := by
  refine ct_of (by decide) (Nat.le_of_ble_eq_true rfl) ?_
  intro p e s m args below meth c hC hr hin hav
  have j18 : ∀ (n : Nat), ∀ (x1 : Int32) (X : XD), fX12_putBack_18 n x1 X = some (r, X1) → WW p l e (rmX 1 0 0) s m args below meth c 2 (MQ below (XQ E w z Z X1 none) args s 0 0 (A0 E)) E w 0 0 z Z 18 [(0, .ref (w.1 0)), (1, .int x1)] [] X := by
    intro n
    induction n with
    | zero =>
      intro x1 X h
      cases (show none = some (r, X1) from h)
    | succ n ih =>
      intro x1 X h
      rw [fX12_putBack_18_s] at h
      refine ww_iload_n (pc := 18) hC dX12_putBack_18 1 rfl ?_
      refine ww_bipush (pc := 19) hC (v := (6 : Int32)) dX12_putBack_19 (by decide) ?_
      refine ww_icmp_ge (pc := 21) hC h 66 dX12_putBack_21 (by decide) (fun h => ?_) (fun h => ?_)
      · exact ww_vret (pc := 66) hC hr h dX12_putBack_66
      · refine ww_aload_n (pc := 24) hC dX12_putBack_24 0 rfl ?_
        refine ww_getR (pc := 25) hC 12 5 3 hL.1 RX12 (by decide) (by decide) rfl (lay_12_5 hL).1 qf_X12_26 rfl dX12_putBack_25 ?_
        refine ww_iload_n (pc := 28) hC dX12_putBack_28 1 rfl ?_
        refine ww_aload_n (pc := 29) hC dX12_putBack_29 0 rfl ?_
        refine ww_getR (pc := 30) hC 12 29 17 hL.1 RX12 (by decide) (by decide) rfl (lay_12_29 hL).1 qf_X12_99 rfl dX12_putBack_30 ?_
        refine ww_iload_n (pc := 33) hC dX12_putBack_33 1 rfl ?_
        refine ww_iald (pc := 34) hC ((lay_12_29 hL).2) h dX12_putBack_34 (fun h => ?_)
        refine ww_iast (pc := 35) hC ((lay_12_5 hL).2) h dX12_putBack_35 (fun h => ?_)
        obtain ⟨X_3, eX_3⟩ : ∃ q, q = wI X 3 (x1).toNatClampNeg (X.1 17 (x1).toNatClampNeg) := ⟨_, rfl⟩
        replace h := nm_i h eX_3
        refine ww_nmX eX_3 ?_
        refine ww_aload_n (pc := 36) hC dX12_putBack_36 0 rfl ?_
        refine ww_getR (pc := 37) hC 12 6 4 hL.1 RX12 (by decide) (by decide) rfl (lay_12_6 hL).1 qf_X12_29 rfl dX12_putBack_37 ?_
        refine ww_iload_n (pc := 40) hC dX12_putBack_40 1 rfl ?_
        refine ww_aload_n (pc := 41) hC dX12_putBack_41 0 rfl ?_
        refine ww_getR (pc := 42) hC 12 30 18 hL.1 RX12 (by decide) (by decide) rfl (lay_12_30 hL).1 qf_X12_102 rfl dX12_putBack_42 ?_
        refine ww_iload_n (pc := 45) hC dX12_putBack_45 1 rfl ?_
        refine ww_iald (pc := 46) hC ((lay_12_30 hL).2) h dX12_putBack_46 (fun h => ?_)
        refine ww_iast (pc := 47) hC ((lay_12_6 hL).2) h dX12_putBack_47 (fun h => ?_)
        obtain ⟨X_4, eX_4⟩ : ∃ q, q = wI X_3 4 (x1).toNatClampNeg (X_3.1 18 (x1).toNatClampNeg) := ⟨_, rfl⟩
        replace h := nm_i h eX_4
        refine ww_nmX eX_4 ?_
        refine ww_aload_n (pc := 48) hC dX12_putBack_48 0 rfl ?_
        refine ww_getR (pc := 49) hC 12 7 5 hL.1 RX12 (by decide) (by decide) rfl (lay_12_7 hL).1 qf_X12_32 rfl dX12_putBack_49 ?_
        refine ww_iload_n (pc := 52) hC dX12_putBack_52 1 rfl ?_
        refine ww_aload_n (pc := 53) hC dX12_putBack_53 0 rfl ?_
        refine ww_getR (pc := 54) hC 12 31 19 hL.1 RX12 (by decide) (by decide) rfl (lay_12_31 hL).1 qf_X12_105 rfl dX12_putBack_54 ?_
        refine ww_iload_n (pc := 57) hC dX12_putBack_57 1 rfl ?_
        refine ww_iald (pc := 58) hC ((lay_12_31 hL).2) h dX12_putBack_58 (fun h => ?_)
        refine ww_iast (pc := 59) hC ((lay_12_7 hL).2) h dX12_putBack_59 (fun h => ?_)
        obtain ⟨X_5, eX_5⟩ : ∃ q, q = wI X_4 5 (x1).toNatClampNeg (X_4.1 19 (x1).toNatClampNeg) := ⟨_, rfl⟩
        replace h := nm_i h eX_5
        refine ww_nmX eX_5 ?_
        obtain ⟨y6, ey6⟩ : ∃ q, q = x1 + (1 : Int32) := ⟨_, rfl⟩
        replace h := nm_i h ey6
        refine ww_iinc (pc := 60) hC y6 [(1, .int y6), (0, .ref (w.1 0))] dX12_putBack_60 1 rfl (by rw [ey6]; rfl) (by decide) rfl ?_
        refine ww_goto (pc := 63) hC 18 dX12_putBack_63 (by decide) ?_
        refine ww_sub [1, 0] rfl ?_
        exact ih _ _ h
  unfold fX12_putBack at h
  refine ww_lv (lv' := [(0, .ref (w.1 0))]) rfl ?_
  refine ww_aload_n (pc := 0) hC dX12_putBack_0 0 rfl ?_
  refine ww_aload_n (pc := 1) hC dX12_putBack_1 0 rfl ?_
  refine ww_getI (pc := 2) hC 12 27 hL.1 RX12 (by decide) (by decide) rfl qf_X12_93 (Or.inl rfl) dX12_putBack_2 ?_
  refine ww_putI (pc := 5) hC 12 1 hL.1 RX12 (by decide) (by decide) rfl qf_X12_13 rfl rfl rfl rfl dX12_putBack_5 ?_
  obtain ⟨X_1, eX_1⟩ : ∃ q, q = wI X 0 1 (X.1 0 27) := ⟨_, rfl⟩
  replace h := nm_i h eX_1
  refine ww_nmX eX_1 ?_
  refine ww_aload_n (pc := 8) hC dX12_putBack_8 0 rfl ?_
  refine ww_aload_n (pc := 9) hC dX12_putBack_9 0 rfl ?_
  refine ww_getI (pc := 10) hC 12 28 hL.1 RX12 (by decide) (by decide) rfl qf_X12_96 (Or.inl rfl) dX12_putBack_10 ?_
  refine ww_putI (pc := 13) hC 12 2 hL.1 RX12 (by decide) (by decide) rfl qf_X12_16 rfl rfl rfl rfl dX12_putBack_13 ?_
  obtain ⟨X_2, eX_2⟩ : ∃ q, q = wI X_1 0 2 (X_1.1 0 28) := ⟨_, rfl⟩
  replace h := nm_i h eX_2
  refine ww_nmX eX_2 ?_
  refine ww_iconst (pc := 16) hC (v := (0 : Int32)) dX12_putBack_16 (by decide) ?_
  refine ww_istore_n (pc := 17) hC [(1, .int ((0 : Int32))), (0, .ref (w.1 0))] dX12_putBack_17 rfl (by decide) rfl ?_
  refine ww_sub [1, 0] rfl ?_
  exact j18 _ _ _ h
noncomputable def fX12_line (x1 : Int32) (X : XD) : Option (Int32 × XD) := if x1 = ((-1 : Int32)) then nm (wI X 0 32 ((0 : Int32))) (fun X_5 => some ((0 : Int32), X_5)) else bnd (fX12_isShooter x1 X) (fun r2 => if r2 = 0 then some ((-1 : Int32), X) else if (X.1 0 32) = ((4 : Int32)) then some ((-4 : Int32), X) else gin (X.1 0 32) 4 (nm (wI X 20 (X.1 0 32).toNatClampNeg x1) (fun X_3 => nm (wI X_3 0 32 ((X_3.1 0 32) + ((1 : Int32)))) (fun X_4 => some (X_4.1 0 32, X_4)))))
set_option maxHeartbeats 40000000 in
set_option maxRecDepth 100000 in
theorem ceX12_line {l : Launch} {E : XE} {w : XW} {z : Nat} {Z : XS} (hL : LayM Z) {x1 : Int32} {X X1 : XD} {r : Int32} (h : fX12_line x1 X = some (r, X1)) : Ct l E w yX12_line (wsM yX12_line cX12_line 2 (some .int)) (rmX 3 0 0) 0 0 [.ref (w.1 0), .int x1] z z Z Z X X1 (some (.int r)) := by
  refine ct_of (by decide) (Nat.le_of_ble_eq_true rfl) ?_
  intro p e s m args below meth c hC hr hin hav
  unfold fX12_line at h
  refine ww_lv (lv' := [(0, .ref (w.1 0)), (1, .int x1)]) rfl ?_
  refine ww_iload_n (pc := 0) hC dX12_line_0 1 rfl ?_
  refine ww_iconst (pc := 1) hC (v := (-1 : Int32)) dX12_line_1 (by decide) ?_
  refine ww_icmp_ne (pc := 2) hC h 12 dX12_line_2 (by decide) (fun h => ?_) (fun h => ?_)
  · refine ww_aload_n (pc := 12) hC dX12_line_12 0 rfl ?_
    refine ww_iload_n (pc := 13) hC dX12_line_13 1 rfl ?_
    obtain ⟨r2, h1, h⟩ := bnd_i h
    refine ww_callVi (pc := 14) hC [.int x1] hL.1.1 hL.1.2 (by decide) (ceX12_isShooter hL h1) ql_X12_219 qi_X12_isShooter qs_X12_X12_isShooter qn_X12 qc_X12_isShooter rfl ⟨by decide, by decide, rfl⟩ rfl ⟨Nat.le_of_ble_eq_true rfl, Nat.le_of_ble_eq_true rfl⟩ (by decide) (rest := []) (Nat.le_of_ble_eq_true rfl) dX12_line_14 ⟨Nat.le_of_ble_eq_true rfl, Nat.le_of_ble_eq_true rfl⟩ rfl ?_
    refine ww_if_ne (pc := 17) hC h 22 dX12_line_17 (by decide) (fun h => ?_) (fun h => ?_)
    · refine ww_aload_n (pc := 22) hC dX12_line_22 0 rfl ?_
      refine ww_getI (pc := 23) hC 12 32 hL.1 RX12 (by decide) (by decide) rfl qf_X12_108 (Or.inl rfl) dX12_line_23 ?_
      refine ww_iconst (pc := 26) hC (v := (4 : Int32)) dX12_line_26 (by decide) ?_
      refine ww_icmp_ne (pc := 27) hC h 33 dX12_line_27 (by decide) (fun h => ?_) (fun h => ?_)
      · refine ww_aload_n (pc := 33) hC dX12_line_33 0 rfl ?_
        refine ww_getR (pc := 34) hC 12 33 20 hL.1 RX12 (by decide) (by decide) rfl (lay_12_33 hL).1 qf_X12_111 rfl dX12_line_34 ?_
        refine ww_aload_n (pc := 37) hC dX12_line_37 0 rfl ?_
        refine ww_getI (pc := 38) hC 12 32 hL.1 RX12 (by decide) (by decide) rfl qf_X12_108 (Or.inl rfl) dX12_line_38 ?_
        refine ww_iload_n (pc := 41) hC dX12_line_41 1 rfl ?_
        refine ww_iast (pc := 42) hC ((lay_12_33 hL).2) h dX12_line_42 (fun h => ?_)
        obtain ⟨X_3, eX_3⟩ : ∃ q, q = wI X 20 (X.1 0 32).toNatClampNeg x1 := ⟨_, rfl⟩
        replace h := nm_i h eX_3
        refine ww_nmX eX_3 ?_
        refine ww_aload_n (pc := 43) hC dX12_line_43 0 rfl ?_
        refine ww_dup (pc := 44) hC dX12_line_44 rfl ?_
        refine ww_getI (pc := 45) hC 12 32 hL.1 RX12 (by decide) (by decide) rfl qf_X12_108 (Or.inl rfl) dX12_line_45 ?_
        refine ww_iconst (pc := 48) hC (v := (1 : Int32)) dX12_line_48 (by decide) ?_
        refine ww_iadd (pc := 49) hC dX12_line_49 ?_
        refine ww_putI (pc := 50) hC 12 32 hL.1 RX12 (by decide) (by decide) rfl qf_X12_108 rfl rfl rfl rfl dX12_line_50 ?_
        obtain ⟨X_4, eX_4⟩ : ∃ q, q = wI X_3 0 32 ((X_3.1 0 32) + ((1 : Int32))) := ⟨_, rfl⟩
        replace h := nm_i h eX_4
        refine ww_nmX eX_4 ?_
        refine ww_aload_n (pc := 53) hC dX12_line_53 0 rfl ?_
        refine ww_getI (pc := 54) hC 12 32 hL.1 RX12 (by decide) (by decide) rfl qf_X12_108 (Or.inl rfl) dX12_line_54 ?_
        exact ww_iret (pc := 57) hC hr h dX12_line_57
      · refine ww_bipush (pc := 30) hC (v := (-4 : Int32)) dX12_line_30 (by decide) ?_
        exact ww_iret (pc := 32) hC hr h dX12_line_32
    · refine ww_iconst (pc := 20) hC (v := (-1 : Int32)) dX12_line_20 (by decide) ?_
      exact ww_iret (pc := 21) hC hr h dX12_line_21
  · refine ww_aload_n (pc := 5) hC dX12_line_5 0 rfl ?_
    refine ww_iconst (pc := 6) hC (v := (0 : Int32)) dX12_line_6 (by decide) ?_
    refine ww_putI (pc := 7) hC 12 32 hL.1 RX12 (by decide) (by decide) rfl qf_X12_108 rfl rfl rfl rfl dX12_line_7 ?_
    obtain ⟨X_5, eX_5⟩ : ∃ q, q = wI X 0 32 ((0 : Int32)) := ⟨_, rfl⟩
    replace h := nm_i h eX_5
    refine ww_nmX eX_5 ?_
    refine ww_iconst (pc := 10) hC (v := (0 : Int32)) dX12_line_10 (by decide) ?_
    exact ww_iret (pc := 11) hC hr h dX12_line_11
