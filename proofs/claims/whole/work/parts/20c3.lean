noncomputable def fX11_chance (Z : XS) (x1 : Int32) (x2 : Int32) (x3 : Int32) (X : XD) : Option (Int32 × XD) := bnd (fX11_find Z x1 X) (fun r2 => mto r2 (some ((-1 : Int32), X)) (fun t3 => bnd (fX11_isSide Z x2 X) (fun r5 => if r5 = 0 then some ((-1 : Int32), X) else bnd (fX11_isSide Z x3 X) (fun r7 => if r7 = 0 then some ((-1 : Int32), X) else bnw (fX11_look Z 47 t3 X) (fun _ X_10 => bnd (fX9_chanceBy Z 139 x2 x3 X_10) (fun r12 => some (r12, X_10)))))))
set_option maxHeartbeats 40000000 in
set_option maxRecDepth 100000 in
theorem ceX11_chance {l : Launch} {E : XE} {w : XW} {z : Nat} {Z : XS}  (hL : LayC Z) {x1 : Int32} {x2 : Int32} {x3 : Int32} {X X1 : XD} {r : Int32} (h : fX11_chance Z x1 x2 x3 X = some (r, X1)) : Ct l E w yX11_chance (wsM yX11_chance cX11_chance 5 (some .int)) (rmX 6 0 0) 0 0 [.ref (w.1 0), .int x1, .int x2, .int x3] z z Z Z X X1 (some (.int r)) := by
  refine ct_of (by decide) (Nat.le_of_ble_eq_true rfl) ?_
  intro p e s m args below meth c hC hr hin hav
  unfold fX11_chance at h
  refine ww_lv (lv' := [(0, .ref (w.1 0)), (1, .int x1), (2, .int x2), (3, .int x3)]) rfl ?_
  refine ww_aload_n (pc := 0) hC dX11_chance_0 0 rfl ?_
  refine ww_iload_n (pc := 1) hC dX11_chance_1 1 rfl ?_
  obtain ⟨r2, h1, h⟩ := bnd_i h
  rcases r2 with _ | t3
  · replace h := mto_n h
    refine ww_callVn (pc := 2) hC [.int x1] hL.1.1 hL.1.2 (by decide) (ceX11_find hL h1) ql_X11_95 qi_X11_find qs_X11_X11_find qn_X11 qc_X11_find rfl ⟨by decide, by decide, rfl⟩ rfl ⟨Nat.le_of_ble_eq_true rfl, Nat.le_of_ble_eq_true rfl⟩ (by decide) (rest := []) (Nat.le_of_ble_eq_true rfl) dX11_chance_2 ⟨Nat.le_of_ble_eq_true rfl, Nat.le_of_ble_eq_true rfl⟩ rfl ?_
    refine ww_astoreN (pc := 5) hC [(4, .null), (0, .ref (w.1 0)), (1, .int x1), (2, .int x2), (3, .int x3)] dX11_chance_5  (by decide) rfl ?_
    refine ww_aloadN (pc := 7) hC dX11_chance_7 0 rfl ?_
    refine ww_ifnullN (pc := 9) hC 26 dX11_chance_9 (by decide) ?_
    refine ww_iconst (pc := 26) hC (v := (-1 : Int32)) dX11_chance_26 (by decide) ?_
    exact ww_iret (pc := 27) hC hr h dX11_chance_27
  · replace h := mto_s h
    have hkt3 : KS Z t3 := ks_find hL h1
    refine ww_callVr (pc := 2) hC [.int x1] hL.1.1 hL.1.2 (by decide) (ceX11_find hL h1) ql_X11_95 qi_X11_find qs_X11_X11_find qn_X11 qc_X11_find rfl ⟨by decide, by decide, rfl⟩ rfl ⟨Nat.le_of_ble_eq_true rfl, Nat.le_of_ble_eq_true rfl⟩ (by decide) (rest := []) (Nat.le_of_ble_eq_true rfl) dX11_chance_2 ⟨Nat.le_of_ble_eq_true rfl, Nat.le_of_ble_eq_true rfl⟩ rfl ?_
    refine ww_astore (pc := 5) hC [(4, .ref (w.1 t3)), (0, .ref (w.1 0)), (1, .int x1), (2, .int x2), (3, .int x3)] dX11_chance_5  (by decide) rfl ?_
    refine ww_aload (pc := 7) hC dX11_chance_7 0 rfl ?_
    refine ww_ifnull (pc := 9) hC dX11_chance_9 ?_
    refine ww_iload_n (pc := 12) hC dX11_chance_12 3 rfl ?_
    obtain ⟨r5, h4, h⟩ := bnd_i h
    refine ww_callSi (pc := 13) hC [.int x2] (ceX11_isSide hL h4) ql_X11_128 qt_X11_isSide qn_X11 qc_X11_isSide ⟨by decide, by decide, rfl⟩ rfl ⟨Nat.le_of_ble_eq_true rfl, Nat.le_of_ble_eq_true rfl⟩ (by decide) (rest := []) (Nat.le_of_ble_eq_true rfl) dX11_chance_13 ⟨Nat.le_of_ble_eq_true rfl, Nat.le_of_ble_eq_true rfl⟩ rfl ?_
    refine ww_if_eq (pc := 16) hC h 26 dX11_chance_16 (by decide) (fun h => ?_) (fun h => ?_)
    · refine ww_iconst (pc := 26) hC (v := (-1 : Int32)) dX11_chance_26 (by decide) ?_
      exact ww_iret (pc := 27) hC hr h dX11_chance_27
    · refine ww_iload_n (pc := 19) hC dX11_chance_19 4 rfl ?_
      obtain ⟨r7, h6, h⟩ := bnd_i h
      refine ww_callSi (pc := 20) hC [.int x3] (ceX11_isSide hL h6) ql_X11_128 qt_X11_isSide qn_X11 qc_X11_isSide ⟨by decide, by decide, rfl⟩ rfl ⟨Nat.le_of_ble_eq_true rfl, Nat.le_of_ble_eq_true rfl⟩ (by decide) (rest := []) (Nat.le_of_ble_eq_true rfl) dX11_chance_20 ⟨Nat.le_of_ble_eq_true rfl, Nat.le_of_ble_eq_true rfl⟩ rfl ?_
      refine ww_if_ne (pc := 23) hC h 28 dX11_chance_23 (by decide) (fun h => ?_) (fun h => ?_)
      · refine ww_aload_n (pc := 28) hC dX11_chance_28 1 rfl ?_
        refine ww_aload_n (pc := 29) hC dX11_chance_29 1 rfl ?_
        refine ww_getR (pc := 30) hC 11 4 47 hL.1 RX11 (by decide) (by decide) rfl (lay_11_4 hL).1 qf_X11_36 rfl dX11_chance_30 ?_
        refine ww_aload (pc := 33) hC dX11_chance_33 0 rfl ?_
        obtain ⟨_, X_10, h8, h⟩ := bnw_i h
        refine ww_callVv (pc := 35) hC [.ref (w.1 47), .ref (w.1 t3)] hL.1.1 hL.1.2 (by decide) (ceX11_look hL ((lay_11_4 hL).2) hkt3 h8) ql_X11_116 qi_X11_look qs_X11_X11_look qn_X11 qc_X11_look rfl ⟨by decide, by decide, rfl⟩ rfl ⟨Nat.le_of_ble_eq_true rfl, Nat.le_of_ble_eq_true rfl⟩ (by decide) (rest := []) (Nat.le_of_ble_eq_true rfl) dX11_chance_35 ⟨Nat.le_of_ble_eq_true rfl, Nat.le_of_ble_eq_true rfl⟩ rfl ?_
        refine ww_aload_n (pc := 38) hC dX11_chance_38 1 rfl ?_
        refine ww_getR (pc := 39) hC 11 8 139 hL.1 RX11 (by decide) (by decide) rfl (lay_11_8 hL).1 qf_X11_50 rfl dX11_chance_39 ?_
        refine ww_iload_n (pc := 42) hC dX11_chance_42 3 rfl ?_
        refine ww_iload_n (pc := 43) hC dX11_chance_43 4 rfl ?_
        obtain ⟨r12, h11, h⟩ := bnd_i h
        refine ww_callVi (pc := 44) hC [.int x2, .int x3] ((lay_11_8 hL).2).1 ((lay_11_8 hL).2).2 (by decide) (ceX9_chanceBy hL ((lay_11_8 hL).2) h11) ql_X11_167 qi_X9_chanceBy qs_X9_X9_chanceBy qn_X9 qc_X9_chanceBy rfl ⟨by decide, by decide, rfl⟩ rfl ⟨Nat.le_of_ble_eq_true rfl, Nat.le_of_ble_eq_true rfl⟩ (by decide) (rest := []) (Nat.le_of_ble_eq_true rfl) dX11_chance_44 ⟨Nat.le_of_ble_eq_true rfl, Nat.le_of_ble_eq_true rfl⟩ rfl ?_
        exact ww_iret (pc := 47) hC hr h dX11_chance_47
      · refine ww_iconst (pc := 26) hC (v := (-1 : Int32)) dX11_chance_26 (by decide) ?_
        exact ww_iret (pc := 27) hC hr h dX11_chance_27
noncomputable def fX11_isDraw (Z : XS) (x0 : Int32) (X : XD) : Option Int32 := if x0 < 0 then some ((0 : Int32)) else if ((100 : Int32)) ≤ x0 then some ((0 : Int32)) else some ((1 : Int32))
set_option maxHeartbeats 40000000 in
set_option maxRecDepth 100000 in
theorem ceX11_isDraw {l : Launch} {E : XE} {w : XW} {z : Nat} {Z : XS}  (hL : LayC Z) {x0 : Int32} {X : XD} {r : Int32} (h : fX11_isDraw Z x0 X = some r) : Ct l E w yX11_isDraw (wsM yX11_isDraw cX11_isDraw 1 (some .boolean)) (rmX 1 0 0) 0 0 [.int x0] z z Z Z X X (some (.int r)) := by
  refine ct_of (by decide) (Nat.le_of_ble_eq_true rfl) ?_
  intro p e s m args below meth c hC hr hin hav
  unfold fX11_isDraw at h
  refine ww_lv (lv' := [(0, .int x0)]) rfl ?_
  refine ww_iload_n (pc := 0) hC dX11_isDraw_0 0 rfl ?_
  refine ww_if_lt (pc := 1) hC h 14 dX11_isDraw_1 (by decide) (fun h => ?_) (fun h => ?_)
  · refine ww_iconst (pc := 14) hC (v := (0 : Int32)) dX11_isDraw_14 (by decide) ?_
    exact ww_zret (pc := 15) hC hr rfl (ret_r h) dX11_isDraw_15
  · refine ww_iload_n (pc := 4) hC dX11_isDraw_4 0 rfl ?_
    refine ww_bipush (pc := 5) hC (v := (100 : Int32)) dX11_isDraw_5 (by decide) ?_
    refine ww_icmp_ge (pc := 7) hC h 14 dX11_isDraw_7 (by decide) (fun h => ?_) (fun h => ?_)
    · refine ww_iconst (pc := 14) hC (v := (0 : Int32)) dX11_isDraw_14 (by decide) ?_
      exact ww_zret (pc := 15) hC hr rfl (ret_r h) dX11_isDraw_15
    · refine ww_iconst (pc := 10) hC (v := (1 : Int32)) dX11_isDraw_10 (by decide) ?_
      refine ww_goto (pc := 11) hC 15 dX11_isDraw_11 (by decide) ?_
      exact ww_zret (pc := 15) hC hr rfl (ret_r h) dX11_isDraw_15
noncomputable def fX11_shoot_86 (Z : XS) (x1 : Int32) (x4 : Int32) (s0 : Int32) (X : XD) : Option (Int32 × XD) := bnw (fX6_addShot Z 47 x1 x4 s0 X) (fun _ X_15 => if s0 = 0 then some (x4, X_15) else some (((10 : Int32)) + x4, X_15))
noncomputable def fX11_shoot (Z : XS) (x1 : Int32) (x2 : Int32) (X : XD) : Option (Int32 × XD) := bnd (fX11_find Z x1 X) (fun r2 => mto r2 (some ((-1 : Int32), X)) (fun t3 => bnd (fX11_isDraw Z x2 X) (fun r5 => if r5 = 0 then some ((-2 : Int32), X) else if (X.1 47 2) < ((999 : Int32)) then bnw (fX11_look Z 47 t3 X) (fun _ X_8 => bnd (fV_X4_side Z t3 139 47 X_8) (fun r10 => bnd (fX9_chanceBy Z 139 r10 (X_8.1 139 2) X_8) (fun r12 => if r12 ≤ x2 then fX11_shoot_86 Z x1 r10 ((0 : Int32)) X_8 else fX11_shoot_86 Z x1 r10 ((1 : Int32)) X_8))) else some ((-3 : Int32), X))))
set_option maxHeartbeats 40000000 in
set_option maxRecDepth 100000 in
theorem ceX11_shoot {l : Launch} {E : XE} {w : XW} {z : Nat} {Z : XS}  (hL : LayC Z) {x1 : Int32} {x2 : Int32} {X X1 : XD} {r : Int32} (h : fX11_shoot Z x1 x2 X = some (r, X1)) : Ct l E w yX11_shoot (wsM yX11_shoot cX11_shoot 6 (some .int)) (rmX 6 0 0) 0 0 [.ref (w.1 0), .int x1, .int x2] z z Z Z X X1 (some (.int r)) := by
  refine ct_of (by decide) (Nat.le_of_ble_eq_true rfl) ?_
  intro p e s m args below meth c hC hr hin hav
  have j86 : ∀ (x1 : Int32) (x4 : Int32) (s0 : Int32) (X : XD), fX11_shoot_86 Z x1 x4 s0 X = some (r, X1) → WW p l e (rmX 6 0 0) s m args below meth c 6 (MQ below (XQ E w z Z X1 (some (.int r))) args s 0 0 (A0 E)) E w 0 0 z Z 86 [(0, .ref (w.1 0)), (1, .int x1), (4, .int x4)] [.int s0] X := by
    intro x1 x4 s0 X h
    unfold fX11_shoot_86 at h
    refine ww_istore (pc := 86) hC [(5, .int s0), (0, .ref (w.1 0)), (1, .int x1), (4, .int x4)] dX11_shoot_86  (by decide) rfl ?_
    refine ww_aload_n (pc := 88) hC dX11_shoot_88 1 rfl ?_
    refine ww_getR (pc := 89) hC 11 4 47 hL.1 RX11 (by decide) (by decide) rfl (lay_11_4 hL).1 qf_X11_36 rfl dX11_shoot_89 ?_
    refine ww_iload_n (pc := 92) hC dX11_shoot_92 2 rfl ?_
    refine ww_iload (pc := 93) hC dX11_shoot_93 3 rfl ?_
    refine ww_iload (pc := 95) hC dX11_shoot_95 0 rfl ?_
    obtain ⟨_, X_15, h13, h⟩ := bnw_i h
    refine ww_callVv (pc := 97) hC [.int x1, .int x4, .int s0] ((lay_11_4 hL).2).1 ((lay_11_4 hL).2).2 (by decide) (ceX6_addShot hL ((lay_11_4 hL).2) h13) ql_X11_180 qi_X6_addShot qs_X6_X6_addShot qn_X6 qc_X6_addShot rfl ⟨by decide, by decide, rfl⟩ rfl ⟨Nat.le_of_ble_eq_true rfl, Nat.le_of_ble_eq_true rfl⟩ (by decide) (rest := []) (Nat.le_of_ble_eq_true rfl) dX11_shoot_97 ⟨Nat.le_of_ble_eq_true rfl, Nat.le_of_ble_eq_true rfl⟩ rfl ?_
    refine ww_iload (pc := 100) hC dX11_shoot_100 0 rfl ?_
    refine ww_if_eq (pc := 102) hC h 113 dX11_shoot_102 (by decide) (fun h => ?_) (fun h => ?_)
    · refine ww_iload (pc := 113) hC dX11_shoot_113 3 rfl ?_
      exact ww_iret (pc := 115) hC hr h dX11_shoot_115
    · refine ww_bipush (pc := 105) hC (v := (10 : Int32)) dX11_shoot_105 (by decide) ?_
      refine ww_iload (pc := 107) hC dX11_shoot_107 3 rfl ?_
      refine ww_iadd (pc := 109) hC dX11_shoot_109 ?_
      refine ww_goto (pc := 110) hC 115 dX11_shoot_110 (by decide) ?_
      exact ww_iret (pc := 115) hC hr h dX11_shoot_115
  unfold fX11_shoot at h
  refine ww_lv (lv' := [(0, .ref (w.1 0)), (1, .int x1), (2, .int x2)]) rfl ?_
  refine ww_aload_n (pc := 0) hC dX11_shoot_0 0 rfl ?_
  refine ww_iload_n (pc := 1) hC dX11_shoot_1 1 rfl ?_
  obtain ⟨r2, h1, h⟩ := bnd_i h
  rcases r2 with _ | t3
  · replace h := mto_n h
    refine ww_callVn (pc := 2) hC [.int x1] hL.1.1 hL.1.2 (by decide) (ceX11_find hL h1) ql_X11_95 qi_X11_find qs_X11_X11_find qn_X11 qc_X11_find rfl ⟨by decide, by decide, rfl⟩ rfl ⟨Nat.le_of_ble_eq_true rfl, Nat.le_of_ble_eq_true rfl⟩ (by decide) (rest := []) (Nat.le_of_ble_eq_true rfl) dX11_shoot_2 ⟨Nat.le_of_ble_eq_true rfl, Nat.le_of_ble_eq_true rfl⟩ rfl ?_
    refine ww_astore_nN (pc := 5) hC [(3, .null), (0, .ref (w.1 0)), (1, .int x1), (2, .int x2)] dX11_shoot_5 rfl (by decide) rfl ?_
    refine ww_aload_nN (pc := 6) hC dX11_shoot_6 0 rfl ?_
    refine ww_ifnonnullN (pc := 7) hC dX11_shoot_7 ?_
    refine ww_iconst (pc := 10) hC (v := (-1 : Int32)) dX11_shoot_10 (by decide) ?_
    exact ww_iret (pc := 11) hC hr h dX11_shoot_11
  · replace h := mto_s h
    have hkt3 : KS Z t3 := ks_find hL h1
    refine ww_callVr (pc := 2) hC [.int x1] hL.1.1 hL.1.2 (by decide) (ceX11_find hL h1) ql_X11_95 qi_X11_find qs_X11_X11_find qn_X11 qc_X11_find rfl ⟨by decide, by decide, rfl⟩ rfl ⟨Nat.le_of_ble_eq_true rfl, Nat.le_of_ble_eq_true rfl⟩ (by decide) (rest := []) (Nat.le_of_ble_eq_true rfl) dX11_shoot_2 ⟨Nat.le_of_ble_eq_true rfl, Nat.le_of_ble_eq_true rfl⟩ rfl ?_
    refine ww_astore_n (pc := 5) hC [(3, .ref (w.1 t3)), (0, .ref (w.1 0)), (1, .int x1), (2, .int x2)] dX11_shoot_5 rfl (by decide) rfl ?_
    refine ww_aload_n (pc := 6) hC dX11_shoot_6 0 rfl ?_
    refine ww_ifnonnull (pc := 7) hC 12 dX11_shoot_7 (by decide) ?_
    refine ww_iload_n (pc := 12) hC dX11_shoot_12 3 rfl ?_
    obtain ⟨r5, h4, h⟩ := bnd_i h
    refine ww_callSi (pc := 13) hC [.int x2] (ceX11_isDraw hL h4) ql_X11_170 qt_X11_isDraw qn_X11 qc_X11_isDraw ⟨by decide, by decide, rfl⟩ rfl ⟨Nat.le_of_ble_eq_true rfl, Nat.le_of_ble_eq_true rfl⟩ (by decide) (rest := []) (Nat.le_of_ble_eq_true rfl) dX11_shoot_13 ⟨Nat.le_of_ble_eq_true rfl, Nat.le_of_ble_eq_true rfl⟩ rfl ?_
    refine ww_if_ne (pc := 16) hC h 22 dX11_shoot_16 (by decide) (fun h => ?_) (fun h => ?_)
    · refine ww_aload_n (pc := 22) hC dX11_shoot_22 1 rfl ?_
      refine ww_getR (pc := 23) hC 11 4 47 hL.1 RX11 (by decide) (by decide) rfl (lay_11_4 hL).1 qf_X11_36 rfl dX11_shoot_23 ?_
      refine ww_getI (pc := 26) hC 6 2 ((lay_11_4 hL).2) RX6 (by decide) (by decide) rfl qf_X11_161 (Or.inl rfl) dX11_shoot_26 ?_
      refine ww_sipush (pc := 29) hC (v := (999 : Int32)) dX11_shoot_29 (by decide) ?_
      refine ww_icmp_lt (pc := 32) hC h 38 dX11_shoot_32 (by decide) (fun h => ?_) (fun h => ?_)
      · refine ww_aload_n (pc := 38) hC dX11_shoot_38 1 rfl ?_
        refine ww_aload_n (pc := 39) hC dX11_shoot_39 1 rfl ?_
        refine ww_getR (pc := 40) hC 11 4 47 hL.1 RX11 (by decide) (by decide) rfl (lay_11_4 hL).1 qf_X11_36 rfl dX11_shoot_40 ?_
        refine ww_aload_n (pc := 43) hC dX11_shoot_43 0 rfl ?_
        obtain ⟨_, X_8, h6, h⟩ := bnw_i h
        refine ww_callVv (pc := 44) hC [.ref (w.1 47), .ref (w.1 t3)] hL.1.1 hL.1.2 (by decide) (ceX11_look hL ((lay_11_4 hL).2) hkt3 h6) ql_X11_116 qi_X11_look qs_X11_X11_look qn_X11 qc_X11_look rfl ⟨by decide, by decide, rfl⟩ rfl ⟨Nat.le_of_ble_eq_true rfl, Nat.le_of_ble_eq_true rfl⟩ (by decide) (rest := []) (Nat.le_of_ble_eq_true rfl) dX11_shoot_44 ⟨Nat.le_of_ble_eq_true rfl, Nat.le_of_ble_eq_true rfl⟩ rfl ?_
        refine ww_aload_n (pc := 47) hC dX11_shoot_47 0 rfl ?_
        refine ww_aload_n (pc := 48) hC dX11_shoot_48 1 rfl ?_
        refine ww_getR (pc := 49) hC 11 8 139 hL.1 RX11 (by decide) (by decide) rfl (lay_11_8 hL).1 qf_X11_50 rfl dX11_shoot_49 ?_
        refine ww_aload_n (pc := 52) hC dX11_shoot_52 1 rfl ?_
        refine ww_getR (pc := 53) hC 11 4 47 hL.1 RX11 (by decide) (by decide) rfl (lay_11_4 hL).1 qf_X11_36 rfl dX11_shoot_53 ?_
        obtain ⟨r10, h9, h⟩ := bnd_i h
        refine vd_X4_side (pc := 56) hC hL hkt3 ((lay_11_8 hL).2) ((lay_11_4 hL).2) h9 ql_X11_173 ⟨Nat.le_of_ble_eq_true rfl, Nat.le_of_ble_eq_true rfl⟩ (Nat.le_of_ble_eq_true rfl) dX11_shoot_56 ⟨Nat.le_of_ble_eq_true rfl, Nat.le_of_ble_eq_true rfl⟩ ?_
        refine ww_istore (pc := 59) hC [(4, .int r10), (3, .ref (w.1 t3)), (0, .ref (w.1 0)), (1, .int x1), (2, .int x2)] dX11_shoot_59  (by decide) rfl ?_
        refine ww_iload_n (pc := 61) hC dX11_shoot_61 4 rfl ?_
        refine ww_aload_n (pc := 62) hC dX11_shoot_62 2 rfl ?_
        refine ww_getR (pc := 63) hC 11 8 139 hL.1 RX11 (by decide) (by decide) rfl (lay_11_8 hL).1 qf_X11_50 rfl dX11_shoot_63 ?_
        refine ww_iload (pc := 66) hC dX11_shoot_66 0 rfl ?_
        refine ww_aload_n (pc := 68) hC dX11_shoot_68 2 rfl ?_
        refine ww_getR (pc := 69) hC 11 8 139 hL.1 RX11 (by decide) (by decide) rfl (lay_11_8 hL).1 qf_X11_50 rfl dX11_shoot_69 ?_
        refine ww_getI (pc := 72) hC 9 2 ((lay_11_8 hL).2) RX9 (by decide) (by decide) rfl qf_X11_177 (Or.inl rfl) dX11_shoot_72 ?_
        obtain ⟨r12, h11, h⟩ := bnd_i h
        refine ww_callVi (pc := 75) hC [.int r10, .int (X_8.1 139 2)] ((lay_11_8 hL).2).1 ((lay_11_8 hL).2).2 (by decide) (ceX9_chanceBy hL ((lay_11_8 hL).2) h11) ql_X11_167 qi_X9_chanceBy qs_X9_X9_chanceBy qn_X9 qc_X9_chanceBy rfl ⟨by decide, by decide, rfl⟩ rfl ⟨Nat.le_of_ble_eq_true rfl, Nat.le_of_ble_eq_true rfl⟩ (by decide) (rest := [.int x2]) (Nat.le_of_ble_eq_true rfl) dX11_shoot_75 ⟨Nat.le_of_ble_eq_true rfl, Nat.le_of_ble_eq_true rfl⟩ rfl ?_
        refine ww_icmp_ge (pc := 78) hC h 85 dX11_shoot_78 (by decide) (fun h => ?_) (fun h => ?_)
        · refine ww_iconst (pc := 85) hC (v := (0 : Int32)) dX11_shoot_85 (by decide) ?_
          refine ww_sub [2, 3, 0] rfl ?_
          exact j86 _ _ _ _ h
        · refine ww_iconst (pc := 81) hC (v := (1 : Int32)) dX11_shoot_81 (by decide) ?_
          refine ww_goto (pc := 82) hC 86 dX11_shoot_82 (by decide) ?_
          refine ww_sub [2, 3, 0] rfl ?_
          exact j86 _ _ _ _ h
      · refine ww_bipush (pc := 35) hC (v := (-3 : Int32)) dX11_shoot_35 (by decide) ?_
        exact ww_iret (pc := 37) hC hr h dX11_shoot_37
    · refine ww_bipush (pc := 19) hC (v := (-2 : Int32)) dX11_shoot_19 (by decide) ?_
      exact ww_iret (pc := 21) hC hr h dX11_shoot_21
noncomputable def fX11_anew (Z : XS) (X : XD) : Option (Int32 × XD) := nm (X.1 47 3) (fun y1 => nm (wI X 47 2 ((0 : Int32))) (fun X_2 => nm (wI X_2 47 3 ((0 : Int32))) (fun X_3 => some (y1, X_3))))
set_option maxHeartbeats 40000000 in
set_option maxRecDepth 100000 in
theorem ceX11_anew {l : Launch} {E : XE} {w : XW} {z : Nat} {Z : XS}  (hL : LayC Z) {X X1 : XD} {r : Int32} (h : fX11_anew Z X = some (r, X1)) : Ct l E w yX11_anew (wsM yX11_anew cX11_anew 2 (some .int)) (rmX 1 0 0) 0 0 [.ref (w.1 0)] z z Z Z X X1 (some (.int r)) := by
  refine ct_of (by decide) (Nat.le_of_ble_eq_true rfl) ?_
  intro p e s m args below meth c hC hr hin hav
  unfold fX11_anew at h
  refine ww_lv (lv' := [(0, .ref (w.1 0))]) rfl ?_
  refine ww_aload_n (pc := 0) hC dX11_anew_0 0 rfl ?_
  refine ww_getR (pc := 1) hC 11 4 47 hL.1 RX11 (by decide) (by decide) rfl (lay_11_4 hL).1 qf_X11_36 rfl dX11_anew_1 ?_
  refine ww_getI (pc := 4) hC 6 3 ((lay_11_4 hL).2) RX6 (by decide) (by decide) rfl qf_X11_164 (Or.inl rfl) dX11_anew_4 ?_
  obtain ⟨y1, ey1⟩ : ∃ q, q = X.1 47 3 := ⟨_, rfl⟩
  replace h := nm_i h ey1
  refine ww_nmi ey1 ?_
  refine ww_istore_n (pc := 7) hC [(1, .int y1), (0, .ref (w.1 0))] dX11_anew_7 rfl (by decide) rfl ?_
  refine ww_aload_n (pc := 8) hC dX11_anew_8 1 rfl ?_
  refine ww_getR (pc := 9) hC 11 4 47 hL.1 RX11 (by decide) (by decide) rfl (lay_11_4 hL).1 qf_X11_36 rfl dX11_anew_9 ?_
  refine ww_iconst (pc := 12) hC (v := (0 : Int32)) dX11_anew_12 (by decide) ?_
  refine ww_putI (pc := 13) hC 6 2 ((lay_11_4 hL).2) RX6 (by decide) (by decide) rfl qf_X11_161 rfl rfl rfl rfl dX11_anew_13 ?_
  obtain ⟨X_2, eX_2⟩ : ∃ q, q = wI X 47 2 ((0 : Int32)) := ⟨_, rfl⟩
  replace h := nm_i h eX_2
  refine ww_nmX eX_2 ?_
  refine ww_aload_n (pc := 16) hC dX11_anew_16 1 rfl ?_
  refine ww_getR (pc := 17) hC 11 4 47 hL.1 RX11 (by decide) (by decide) rfl (lay_11_4 hL).1 qf_X11_36 rfl dX11_anew_17 ?_
  refine ww_iconst (pc := 20) hC (v := (0 : Int32)) dX11_anew_20 (by decide) ?_
  refine ww_putI (pc := 21) hC 6 3 ((lay_11_4 hL).2) RX6 (by decide) (by decide) rfl qf_X11_164 rfl rfl rfl rfl dX11_anew_21 ?_
  obtain ⟨X_3, eX_3⟩ : ∃ q, q = wI X_2 47 3 ((0 : Int32)) := ⟨_, rfl⟩
  replace h := nm_i h eX_3
  refine ww_nmX eX_3 ?_
  refine ww_iload_n (pc := 24) hC dX11_anew_24 0 rfl ?_
  exact ww_iret (pc := 25) hC hr h dX11_anew_25
noncomputable def fX11_isHalf_9 (Z : XS) (X : XD) : Option Int32 := some ((1 : Int32))
noncomputable def fX11_isHalf (Z : XS) (x0 : Int32) (X : XD) : Option Int32 := if x0 = 0 then fX11_isHalf_9 Z X else if x0 = ((1 : Int32)) then fX11_isHalf_9 Z X else some ((0 : Int32))
set_option maxHeartbeats 40000000 in
set_option maxRecDepth 100000 in
theorem ceX11_isHalf {l : Launch} {E : XE} {w : XW} {z : Nat} {Z : XS}  (hL : LayC Z) {x0 : Int32} {X : XD} {r : Int32} (h : fX11_isHalf Z x0 X = some r) : Ct l E w yX11_isHalf (wsM yX11_isHalf cX11_isHalf 1 (some .boolean)) (rmX 1 0 0) 0 0 [.int x0] z z Z Z X X (some (.int r)) := by
  refine ct_of (by decide) (Nat.le_of_ble_eq_true rfl) ?_
  intro p e s m args below meth c hC hr hin hav
  have j9 : fX11_isHalf_9 Z X = some r → WW p l e (rmX 1 0 0) s m args below meth c 1 (MQ below (XQ E w z Z X (some (.int r))) args s 0 0 (A0 E)) E w 0 0 z Z 9 [] [] X := by
    intro h
    unfold fX11_isHalf_9 at h
    refine ww_iconst (pc := 9) hC (v := (1 : Int32)) dX11_isHalf_9 (by decide) ?_
    refine ww_goto (pc := 10) hC 14 dX11_isHalf_10 (by decide) ?_
    exact ww_zret (pc := 14) hC hr rfl (ret_r h) dX11_isHalf_14
  unfold fX11_isHalf at h
  refine ww_lv (lv' := [(0, .int x0)]) rfl ?_
  refine ww_iload_n (pc := 0) hC dX11_isHalf_0 0 rfl ?_
  refine ww_if_eq (pc := 1) hC h 9 dX11_isHalf_1 (by decide) (fun h => ?_) (fun h => ?_)
  · refine ww_sub [] rfl ?_
    exact j9 h
  · refine ww_iload_n (pc := 4) hC dX11_isHalf_4 0 rfl ?_
    refine ww_iconst (pc := 5) hC (v := (1 : Int32)) dX11_isHalf_5 (by decide) ?_
    refine ww_icmp_ne (pc := 6) hC h 13 dX11_isHalf_6 (by decide) (fun h => ?_) (fun h => ?_)
    · refine ww_iconst (pc := 13) hC (v := (0 : Int32)) dX11_isHalf_13 (by decide) ?_
      exact ww_zret (pc := 14) hC hr rfl (ret_r h) dX11_isHalf_14
    · refine ww_sub [] rfl ?_
      exact j9 h
noncomputable def fX11_best (Z : XS) (x1 : Int32) (x2 : Int32) (X : XD) : Option (Int32 × XD) := bnd (fX11_find Z x1 X) (fun r2 => mto r2 (some ((-1 : Int32), X)) (fun t3 => bnd (fX11_isHalf Z x2 X) (fun r5 => if r5 = 0 then some ((-1 : Int32), X) else bnw (fX11_look Z 47 t3 X) (fun _ X_8 => bnd (fX9_bestSide Z 139 X_8) (fun r10 => if x2 = 0 then some (r10, X_8) else bnd (fX9_chanceBy Z 139 r10 (X_8.1 139 2) X_8) (fun r12 => some (r12, X_8)))))))
set_option maxHeartbeats 40000000 in
set_option maxRecDepth 100000 in
theorem ceX11_best {l : Launch} {E : XE} {w : XW} {z : Nat} {Z : XS}  (hL : LayC Z) {x1 : Int32} {x2 : Int32} {X X1 : XD} {r : Int32} (h : fX11_best Z x1 x2 X = some (r, X1)) : Ct l E w yX11_best (wsM yX11_best cX11_best 5 (some .int)) (rmX 6 0 0) 0 0 [.ref (w.1 0), .int x1, .int x2] z z Z Z X X1 (some (.int r)) := by
  refine ct_of (by decide) (Nat.le_of_ble_eq_true rfl) ?_
  intro p e s m args below meth c hC hr hin hav
  unfold fX11_best at h
  refine ww_lv (lv' := [(0, .ref (w.1 0)), (1, .int x1), (2, .int x2)]) rfl ?_
  refine ww_aload_n (pc := 0) hC dX11_best_0 0 rfl ?_
  refine ww_iload_n (pc := 1) hC dX11_best_1 1 rfl ?_
  obtain ⟨r2, h1, h⟩ := bnd_i h
  rcases r2 with _ | t3
  · replace h := mto_n h
    refine ww_callVn (pc := 2) hC [.int x1] hL.1.1 hL.1.2 (by decide) (ceX11_find hL h1) ql_X11_95 qi_X11_find qs_X11_X11_find qn_X11 qc_X11_find rfl ⟨by decide, by decide, rfl⟩ rfl ⟨Nat.le_of_ble_eq_true rfl, Nat.le_of_ble_eq_true rfl⟩ (by decide) (rest := []) (Nat.le_of_ble_eq_true rfl) dX11_best_2 ⟨Nat.le_of_ble_eq_true rfl, Nat.le_of_ble_eq_true rfl⟩ rfl ?_
    refine ww_astore_nN (pc := 5) hC [(3, .null), (0, .ref (w.1 0)), (1, .int x1), (2, .int x2)] dX11_best_5 rfl (by decide) rfl ?_
    refine ww_aload_nN (pc := 6) hC dX11_best_6 0 rfl ?_
    refine ww_ifnullN (pc := 7) hC 17 dX11_best_7 (by decide) ?_
    refine ww_iconst (pc := 17) hC (v := (-1 : Int32)) dX11_best_17 (by decide) ?_
    exact ww_iret (pc := 18) hC hr h dX11_best_18
  · replace h := mto_s h
    have hkt3 : KS Z t3 := ks_find hL h1
    refine ww_callVr (pc := 2) hC [.int x1] hL.1.1 hL.1.2 (by decide) (ceX11_find hL h1) ql_X11_95 qi_X11_find qs_X11_X11_find qn_X11 qc_X11_find rfl ⟨by decide, by decide, rfl⟩ rfl ⟨Nat.le_of_ble_eq_true rfl, Nat.le_of_ble_eq_true rfl⟩ (by decide) (rest := []) (Nat.le_of_ble_eq_true rfl) dX11_best_2 ⟨Nat.le_of_ble_eq_true rfl, Nat.le_of_ble_eq_true rfl⟩ rfl ?_
    refine ww_astore_n (pc := 5) hC [(3, .ref (w.1 t3)), (0, .ref (w.1 0)), (1, .int x1), (2, .int x2)] dX11_best_5 rfl (by decide) rfl ?_
    refine ww_aload_n (pc := 6) hC dX11_best_6 0 rfl ?_
    refine ww_ifnull (pc := 7) hC dX11_best_7 ?_
    refine ww_iload_n (pc := 10) hC dX11_best_10 3 rfl ?_
    obtain ⟨r5, h4, h⟩ := bnd_i h
    refine ww_callSi (pc := 11) hC [.int x2] (ceX11_isHalf hL h4) ql_X11_184 qt_X11_isHalf qn_X11 qc_X11_isHalf ⟨by decide, by decide, rfl⟩ rfl ⟨Nat.le_of_ble_eq_true rfl, Nat.le_of_ble_eq_true rfl⟩ (by decide) (rest := []) (Nat.le_of_ble_eq_true rfl) dX11_best_11 ⟨Nat.le_of_ble_eq_true rfl, Nat.le_of_ble_eq_true rfl⟩ rfl ?_
    refine ww_if_ne (pc := 14) hC h 19 dX11_best_14 (by decide) (fun h => ?_) (fun h => ?_)
    · refine ww_aload_n (pc := 19) hC dX11_best_19 1 rfl ?_
      refine ww_aload_n (pc := 20) hC dX11_best_20 1 rfl ?_
      refine ww_getR (pc := 21) hC 11 4 47 hL.1 RX11 (by decide) (by decide) rfl (lay_11_4 hL).1 qf_X11_36 rfl dX11_best_21 ?_
      refine ww_aload_n (pc := 24) hC dX11_best_24 0 rfl ?_
      obtain ⟨_, X_8, h6, h⟩ := bnw_i h
      refine ww_callVv (pc := 25) hC [.ref (w.1 47), .ref (w.1 t3)] hL.1.1 hL.1.2 (by decide) (ceX11_look hL ((lay_11_4 hL).2) hkt3 h6) ql_X11_116 qi_X11_look qs_X11_X11_look qn_X11 qc_X11_look rfl ⟨by decide, by decide, rfl⟩ rfl ⟨Nat.le_of_ble_eq_true rfl, Nat.le_of_ble_eq_true rfl⟩ (by decide) (rest := []) (Nat.le_of_ble_eq_true rfl) dX11_best_25 ⟨Nat.le_of_ble_eq_true rfl, Nat.le_of_ble_eq_true rfl⟩ rfl ?_
      refine ww_aload_n (pc := 28) hC dX11_best_28 1 rfl ?_
      refine ww_getR (pc := 29) hC 11 8 139 hL.1 RX11 (by decide) (by decide) rfl (lay_11_8 hL).1 qf_X11_50 rfl dX11_best_29 ?_
      obtain ⟨r10, h9, h⟩ := bnd_i h
      refine ww_callVi (pc := 32) hC [] ((lay_11_8 hL).2).1 ((lay_11_8 hL).2).2 (by decide) (ceX9_bestSide hL ((lay_11_8 hL).2) h9) ql_X11_187 qi_X9_bestSide qs_X9_X9_bestSide qn_X9 qc_X9_bestSide rfl ⟨by decide, by decide, rfl⟩ rfl ⟨Nat.le_of_ble_eq_true rfl, Nat.le_of_ble_eq_true rfl⟩ (by decide) (rest := []) (Nat.le_of_ble_eq_true rfl) dX11_best_32 ⟨Nat.le_of_ble_eq_true rfl, Nat.le_of_ble_eq_true rfl⟩ rfl ?_
      refine ww_istore (pc := 35) hC [(4, .int r10), (3, .ref (w.1 t3)), (0, .ref (w.1 0)), (1, .int x1), (2, .int x2)] dX11_best_35  (by decide) rfl ?_
      refine ww_iload_n (pc := 37) hC dX11_best_37 4 rfl ?_
      refine ww_if_ne (pc := 38) hC h 46 dX11_best_38 (by decide) (fun h => ?_) (fun h => ?_)
      · refine ww_aload_n (pc := 46) hC dX11_best_46 2 rfl ?_
        refine ww_getR (pc := 47) hC 11 8 139 hL.1 RX11 (by decide) (by decide) rfl (lay_11_8 hL).1 qf_X11_50 rfl dX11_best_47 ?_
        refine ww_iload (pc := 50) hC dX11_best_50 0 rfl ?_
        refine ww_aload_n (pc := 52) hC dX11_best_52 2 rfl ?_
        refine ww_getR (pc := 53) hC 11 8 139 hL.1 RX11 (by decide) (by decide) rfl (lay_11_8 hL).1 qf_X11_50 rfl dX11_best_53 ?_
        refine ww_getI (pc := 56) hC 9 2 ((lay_11_8 hL).2) RX9 (by decide) (by decide) rfl qf_X11_177 (Or.inl rfl) dX11_best_56 ?_
        obtain ⟨r12, h11, h⟩ := bnd_i h
        refine ww_callVi (pc := 59) hC [.int r10, .int (X_8.1 139 2)] ((lay_11_8 hL).2).1 ((lay_11_8 hL).2).2 (by decide) (ceX9_chanceBy hL ((lay_11_8 hL).2) h11) ql_X11_167 qi_X9_chanceBy qs_X9_X9_chanceBy qn_X9 qc_X9_chanceBy rfl ⟨by decide, by decide, rfl⟩ rfl ⟨Nat.le_of_ble_eq_true rfl, Nat.le_of_ble_eq_true rfl⟩ (by decide) (rest := []) (Nat.le_of_ble_eq_true rfl) dX11_best_59 ⟨Nat.le_of_ble_eq_true rfl, Nat.le_of_ble_eq_true rfl⟩ rfl ?_
        exact ww_iret (pc := 62) hC hr h dX11_best_62
      · refine ww_iload (pc := 41) hC dX11_best_41 0 rfl ?_
        refine ww_goto (pc := 43) hC 62 dX11_best_43 (by decide) ?_
        exact ww_iret (pc := 62) hC hr h dX11_best_62
    · refine ww_iconst (pc := 17) hC (v := (-1 : Int32)) dX11_best_17 (by decide) ?_
      exact ww_iret (pc := 18) hC hr h dX11_best_18
noncomputable def fX11_mix_109 (Z : XS) (k37 : Int32 → Int32 → Int32 → Int32 → XD → Option (Int32 × XD)) (k47 : Int32 → Int32 → Int32 → Int32 → Int32 → XD → Option (Int32 × XD)) (x2 : Int32) (x4 : Int32) (x5 : Int32) (x6 : Int32) (x7 : Int32) (X : XD) : Option (Int32 × XD) := nm (x7 + (1 : Int32)) (fun y14 => k47 x2 x4 x5 x6 y14 X)
noncomputable def fX11_mix_47 (Z : XS) (k37 : Int32 → Int32 → Int32 → Int32 → XD → Option (Int32 × XD)) (n : Nat) : Int32 → Int32 → Int32 → Int32 → Int32 → XD → Option (Int32 × XD) := Nat.rec (motive := fun _ => Int32 → Int32 → Int32 → Int32 → Int32 → XD → Option (Int32 × XD)) (fun _ _ _ _ _ _ => none) (fun _ f => fun x2 x4 x5 x6 x7 X => if (((10 : Int32)) - x6) < x7 then nm (x6 + (1 : Int32)) (fun y9 => k37 x2 x4 x5 y9 X) else nm ((((10 : Int32)) - x6) - x7) (fun y10 => bnd (fX9_leastSum Z 139 x6 x7 y10 X) (fun r12 => if r12 ≤ x5 then fX11_mix_109 Z k37 (f) x2 x4 x5 x6 x7 X else nm (((((100 : Int32)) * x6) + (((10 : Int32)) * x7)) + y10) (fun y13 => fX11_mix_109 Z k37 (f) x2 y13 r12 x6 x7 X)))) n
theorem fX11_mix_47_s (Z : XS) (k37 : Int32 → Int32 → Int32 → Int32 → XD → Option (Int32 × XD)) (n : Nat) (x2 : Int32) (x4 : Int32) (x5 : Int32) (x6 : Int32) (x7 : Int32) (X : XD) : fX11_mix_47 Z k37 (n + 1) x2 x4 x5 x6 x7 X = if (((10 : Int32)) - x6) < x7 then nm (x6 + (1 : Int32)) (fun y9 => k37 x2 x4 x5 y9 X) else nm ((((10 : Int32)) - x6) - x7) (fun y10 => bnd (fX9_leastSum Z 139 x6 x7 y10 X) (fun r12 => if r12 ≤ x5 then fX11_mix_109 Z k37 ((fX11_mix_47 Z k37 n)) x2 x4 x5 x6 x7 X else nm (((((100 : Int32)) * x6) + (((10 : Int32)) * x7)) + y10) (fun y13 => fX11_mix_109 Z k37 ((fX11_mix_47 Z k37 n)) x2 y13 r12 x6 x7 X))) := rfl
noncomputable def fX11_mix_37 (Z : XS) (n : Nat) : Int32 → Int32 → Int32 → Int32 → XD → Option (Int32 × XD) := Nat.rec (motive := fun _ => Int32 → Int32 → Int32 → Int32 → XD → Option (Int32 × XD)) (fun _ _ _ _ _ => none) (fun _ f => fun x2 x4 x5 x6 X => if ((10 : Int32)) < x6 then if x2 = 0 then some (x4, X) else some (x5, X) else fX11_mix_47 Z (f) FU x2 x4 x5 x6 ((0 : Int32)) X) n
theorem fX11_mix_37_s (Z : XS) (n : Nat) (x2 : Int32) (x4 : Int32) (x5 : Int32) (x6 : Int32) (X : XD) : fX11_mix_37 Z (n + 1) x2 x4 x5 x6 X = if ((10 : Int32)) < x6 then if x2 = 0 then some (x4, X) else some (x5, X) else fX11_mix_47 Z ((fX11_mix_37 Z n)) FU x2 x4 x5 x6 ((0 : Int32)) X := rfl
noncomputable def fX11_mix (Z : XS) (x1 : Int32) (x2 : Int32) (X : XD) : Option (Int32 × XD) := bnd (fX11_find Z x1 X) (fun r2 => mto r2 (some ((-1 : Int32), X)) (fun t3 => bnd (fX11_isHalf Z x2 X) (fun r5 => if r5 = 0 then some ((-1 : Int32), X) else bnw (fX11_look Z 47 t3 X) (fun _ X_8 => fX11_mix_37 Z FU x2 ((0 : Int32)) ((-1 : Int32)) ((0 : Int32)) X_8))))
set_option maxHeartbeats 40000000 in
set_option maxRecDepth 100000 in
theorem ceX11_mix {l : Launch} {E : XE} {w : XW} {z : Nat} {Z : XS}  (hL : LayC Z) {x1 : Int32} {x2 : Int32} {X X1 : XD} {r : Int32} (h : fX11_mix Z x1 x2 X = some (r, X1)) : Ct l E w yX11_mix (wsM yX11_mix cX11_mix 10 (some .int)) (rmX 6 0 0) 0 0 [.ref (w.1 0), .int x1, .int x2] z z Z Z X X1 (some (.int r)) := by
  refine ct_of (by decide) (Nat.le_of_ble_eq_true rfl) ?_
  intro p e s m args below meth c hC hr hin hav
  have j109 : ∀ (k37 : Int32 → Int32 → Int32 → Int32 → XD → Option (Int32 × XD)) (hk37 : ∀ (x2 : Int32) (x4 : Int32) (x5 : Int32) (x6 : Int32) (X : XD), k37 x2 x4 x5 x6 X = some (r, X1) → WW p l e (rmX 6 0 0) s m args below meth c 10 (MQ below (XQ E w z Z X1 (some (.int r))) args s 0 0 (A0 E)) E w 0 0 z Z 37 [(0, .ref (w.1 0)), (2, .int x2), (4, .int x4), (5, .int x5), (6, .int x6)] [] X) (k47 : Int32 → Int32 → Int32 → Int32 → Int32 → XD → Option (Int32 × XD)) (hk47 : ∀ (x2 : Int32) (x4 : Int32) (x5 : Int32) (x6 : Int32) (x7 : Int32) (X : XD), k47 x2 x4 x5 x6 x7 X = some (r, X1) → WW p l e (rmX 6 0 0) s m args below meth c 10 (MQ below (XQ E w z Z X1 (some (.int r))) args s 0 0 (A0 E)) E w 0 0 z Z 47 [(0, .ref (w.1 0)), (2, .int x2), (4, .int x4), (5, .int x5), (6, .int x6), (7, .int x7)] [] X), ∀ (x2 : Int32) (x4 : Int32) (x5 : Int32) (x6 : Int32) (x7 : Int32) (X : XD), fX11_mix_109 Z k37 k47 x2 x4 x5 x6 x7 X = some (r, X1) → WW p l e (rmX 6 0 0) s m args below meth c 10 (MQ below (XQ E w z Z X1 (some (.int r))) args s 0 0 (A0 E)) E w 0 0 z Z 109 [(0, .ref (w.1 0)), (2, .int x2), (4, .int x4), (5, .int x5), (6, .int x6), (7, .int x7)] [] X := by
    intro k37 hk37 k47 hk47 x2 x4 x5 x6 x7 X h
    unfold fX11_mix_109 at h
    obtain ⟨y14, ey14⟩ : ∃ q, q = x7 + (1 : Int32) := ⟨_, rfl⟩
    replace h := nm_i h ey14
    refine ww_iinc (pc := 109) hC y14 [(7, .int y14), (0, .ref (w.1 0)), (2, .int x2), (4, .int x4), (5, .int x5), (6, .int x6)] dX11_mix_109 5 rfl (by rw [ey14]; rfl) (by decide) rfl ?_
    refine ww_goto (pc := 112) hC 47 dX11_mix_112 (by decide) ?_
    refine ww_sub [1, 2, 3, 4, 5, 0] rfl ?_
    exact hk47 _ _ _ _ _ _ h
  have j47 : ∀ (k37 : Int32 → Int32 → Int32 → Int32 → XD → Option (Int32 × XD)) (hk37 : ∀ (x2 : Int32) (x4 : Int32) (x5 : Int32) (x6 : Int32) (X : XD), k37 x2 x4 x5 x6 X = some (r, X1) → WW p l e (rmX 6 0 0) s m args below meth c 10 (MQ below (XQ E w z Z X1 (some (.int r))) args s 0 0 (A0 E)) E w 0 0 z Z 37 [(0, .ref (w.1 0)), (2, .int x2), (4, .int x4), (5, .int x5), (6, .int x6)] [] X) (n : Nat), ∀ (x2 : Int32) (x4 : Int32) (x5 : Int32) (x6 : Int32) (x7 : Int32) (X : XD), fX11_mix_47 Z k37 n x2 x4 x5 x6 x7 X = some (r, X1) → WW p l e (rmX 6 0 0) s m args below meth c 10 (MQ below (XQ E w z Z X1 (some (.int r))) args s 0 0 (A0 E)) E w 0 0 z Z 47 [(0, .ref (w.1 0)), (2, .int x2), (4, .int x4), (5, .int x5), (6, .int x6), (7, .int x7)] [] X := by
    intro k37 hk37
    intro n
    induction n with
    | zero =>
      intro x2 x4 x5 x6 x7 X h
      cases (show none = some (r, X1) from h)
    | succ n ih =>
      intro x2 x4 x5 x6 x7 X h
      rw [fX11_mix_47_s] at h
      refine ww_iload (pc := 47) hC dX11_mix_47 5 rfl ?_
      refine ww_bipush (pc := 49) hC (v := (10 : Int32)) dX11_mix_49 (by decide) ?_
      refine ww_iload (pc := 51) hC dX11_mix_51 4 rfl ?_
      refine ww_isub (pc := 53) hC dX11_mix_53 ?_
      refine ww_icmp_gt (pc := 54) hC h 115 dX11_mix_54 (by decide) (fun h => ?_) (fun h => ?_)
      · obtain ⟨y9, ey9⟩ : ∃ q, q = x6 + (1 : Int32) := ⟨_, rfl⟩
        replace h := nm_i h ey9
        refine ww_iinc (pc := 115) hC y9 [(6, .int y9), (0, .ref (w.1 0)), (2, .int x2), (4, .int x4), (5, .int x5), (7, .int x7)] dX11_mix_115 4 rfl (by rw [ey9]; rfl) (by decide) rfl ?_
        refine ww_goto (pc := 118) hC 37 dX11_mix_118 (by decide) ?_
        refine ww_sub [1, 2, 3, 4, 0] rfl ?_
        exact hk37 _ _ _ _ _ h
      · refine ww_bipush (pc := 57) hC (v := (10 : Int32)) dX11_mix_57 (by decide) ?_
        refine ww_iload (pc := 59) hC dX11_mix_59 4 rfl ?_
        refine ww_isub (pc := 61) hC dX11_mix_61 ?_
        refine ww_iload (pc := 62) hC dX11_mix_62 5 rfl ?_
        refine ww_isub (pc := 64) hC dX11_mix_64 ?_
        obtain ⟨y10, ey10⟩ : ∃ q, q = (((10 : Int32)) - x6) - x7 := ⟨_, rfl⟩
        replace h := nm_i h ey10
        refine ww_nmi ey10 ?_
        refine ww_istore (pc := 65) hC [(8, .int y10), (0, .ref (w.1 0)), (2, .int x2), (4, .int x4), (5, .int x5), (6, .int x6), (7, .int x7)] dX11_mix_65  (by decide) rfl ?_
        refine ww_aload_n (pc := 67) hC dX11_mix_67 1 rfl ?_
        refine ww_getR (pc := 68) hC 11 8 139 hL.1 RX11 (by decide) (by decide) rfl (lay_11_8 hL).1 qf_X11_50 rfl dX11_mix_68 ?_
        refine ww_iload (pc := 71) hC dX11_mix_71 5 rfl ?_
        refine ww_iload (pc := 73) hC dX11_mix_73 6 rfl ?_
        refine ww_iload (pc := 75) hC dX11_mix_75 0 rfl ?_
        obtain ⟨r12, h11, h⟩ := bnd_i h
        refine ww_callVi (pc := 77) hC [.int x6, .int x7, .int y10] ((lay_11_8 hL).2).1 ((lay_11_8 hL).2).2 (by decide) (ceX9_leastSum hL ((lay_11_8 hL).2) h11) ql_X11_190 qi_X9_leastSum qs_X9_X9_leastSum qn_X9 qc_X9_leastSum rfl ⟨by decide, by decide, rfl⟩ rfl ⟨Nat.le_of_ble_eq_true rfl, Nat.le_of_ble_eq_true rfl⟩ (by decide) (rest := []) (Nat.le_of_ble_eq_true rfl) dX11_mix_77 ⟨Nat.le_of_ble_eq_true rfl, Nat.le_of_ble_eq_true rfl⟩ rfl ?_
        refine ww_istore (pc := 80) hC [(9, .int r12), (8, .int y10), (0, .ref (w.1 0)), (2, .int x2), (4, .int x4), (5, .int x5), (6, .int x6), (7, .int x7)] dX11_mix_80  (by decide) rfl ?_
        refine ww_iload (pc := 82) hC dX11_mix_82 0 rfl ?_
        refine ww_iload (pc := 84) hC dX11_mix_84 5 rfl ?_
        refine ww_icmp_le (pc := 86) hC h 109 dX11_mix_86 (by decide) (fun h => ?_) (fun h => ?_)
        · refine ww_sub [2, 3, 4, 5, 6, 7] rfl ?_
          exact j109 _ hk37 _ ih _ _ _ _ _ _ h
        · refine ww_iload (pc := 89) hC dX11_mix_89 0 rfl ?_
          refine ww_istore (pc := 91) hC [(5, .int r12), (9, .int r12), (8, .int y10), (0, .ref (w.1 0)), (2, .int x2), (4, .int x4), (6, .int x6), (7, .int x7)] dX11_mix_91  (by decide) rfl ?_
          refine ww_bipush (pc := 93) hC (v := (100 : Int32)) dX11_mix_93 (by decide) ?_
          refine ww_iload (pc := 95) hC dX11_mix_95 6 rfl ?_
          refine ww_imul (pc := 97) hC dX11_mix_97 ?_
          refine ww_bipush (pc := 98) hC (v := (10 : Int32)) dX11_mix_98 (by decide) ?_
          refine ww_iload (pc := 100) hC dX11_mix_100 7 rfl ?_
          refine ww_imul (pc := 102) hC dX11_mix_102 ?_
          refine ww_iadd (pc := 103) hC dX11_mix_103 ?_
          refine ww_iload (pc := 104) hC dX11_mix_104 2 rfl ?_
          refine ww_iadd (pc := 106) hC dX11_mix_106 ?_
          obtain ⟨y13, ey13⟩ : ∃ q, q = ((((100 : Int32)) * x6) + (((10 : Int32)) * x7)) + y10 := ⟨_, rfl⟩
          replace h := nm_i h ey13
          refine ww_nmi ey13 ?_
          refine ww_istore (pc := 107) hC [(4, .int y13), (5, .int r12), (9, .int r12), (8, .int y10), (0, .ref (w.1 0)), (2, .int x2), (6, .int x6), (7, .int x7)] dX11_mix_107  (by decide) rfl ?_
          refine ww_sub [4, 5, 0, 1, 6, 7] rfl ?_
          exact j109 _ hk37 _ ih _ _ _ _ _ _ h
  have j37 : ∀ (n : Nat), ∀ (x2 : Int32) (x4 : Int32) (x5 : Int32) (x6 : Int32) (X : XD), fX11_mix_37 Z n x2 x4 x5 x6 X = some (r, X1) → WW p l e (rmX 6 0 0) s m args below meth c 10 (MQ below (XQ E w z Z X1 (some (.int r))) args s 0 0 (A0 E)) E w 0 0 z Z 37 [(0, .ref (w.1 0)), (2, .int x2), (4, .int x4), (5, .int x5), (6, .int x6)] [] X := by
    intro n
    induction n with
    | zero =>
      intro x2 x4 x5 x6 X h
      cases (show none = some (r, X1) from h)
    | succ n ih =>
      intro x2 x4 x5 x6 X h
      rw [fX11_mix_37_s] at h
      refine ww_iload (pc := 37) hC dX11_mix_37 4 rfl ?_
      refine ww_bipush (pc := 39) hC (v := (10 : Int32)) dX11_mix_39 (by decide) ?_
      refine ww_icmp_gt (pc := 41) hC h 121 dX11_mix_41 (by decide) (fun h => ?_) (fun h => ?_)
      · refine ww_iload_n (pc := 121) hC dX11_mix_121 1 rfl ?_
        refine ww_if_ne (pc := 122) hC h 130 dX11_mix_122 (by decide) (fun h => ?_) (fun h => ?_)
        · refine ww_iload (pc := 130) hC dX11_mix_130 3 rfl ?_
          exact ww_iret (pc := 132) hC hr h dX11_mix_132
        · refine ww_iload (pc := 125) hC dX11_mix_125 2 rfl ?_
          refine ww_goto (pc := 127) hC 132 dX11_mix_127 (by decide) ?_
          exact ww_iret (pc := 132) hC hr h dX11_mix_132
      · refine ww_iconst (pc := 44) hC (v := (0 : Int32)) dX11_mix_44 (by decide) ?_
        refine ww_istore (pc := 45) hC [(7, .int ((0 : Int32))), (0, .ref (w.1 0)), (2, .int x2), (4, .int x4), (5, .int x5), (6, .int x6)] dX11_mix_45  (by decide) rfl ?_
        refine ww_sub [1, 2, 3, 4, 5, 0] rfl ?_
        exact j47 _ ih _ _ _ _ _ _ _ h
  unfold fX11_mix at h
  refine ww_lv (lv' := [(0, .ref (w.1 0)), (1, .int x1), (2, .int x2)]) rfl ?_
  refine ww_aload_n (pc := 0) hC dX11_mix_0 0 rfl ?_
  refine ww_iload_n (pc := 1) hC dX11_mix_1 1 rfl ?_
  obtain ⟨r2, h1, h⟩ := bnd_i h
  rcases r2 with _ | t3
  · replace h := mto_n h
    refine ww_callVn (pc := 2) hC [.int x1] hL.1.1 hL.1.2 (by decide) (ceX11_find hL h1) ql_X11_95 qi_X11_find qs_X11_X11_find qn_X11 qc_X11_find rfl ⟨by decide, by decide, rfl⟩ rfl ⟨Nat.le_of_ble_eq_true rfl, Nat.le_of_ble_eq_true rfl⟩ (by decide) (rest := []) (Nat.le_of_ble_eq_true rfl) dX11_mix_2 ⟨Nat.le_of_ble_eq_true rfl, Nat.le_of_ble_eq_true rfl⟩ rfl ?_
    refine ww_astore_nN (pc := 5) hC [(3, .null), (0, .ref (w.1 0)), (1, .int x1), (2, .int x2)] dX11_mix_5 rfl (by decide) rfl ?_
    refine ww_aload_nN (pc := 6) hC dX11_mix_6 0 rfl ?_
    refine ww_ifnullN (pc := 7) hC 17 dX11_mix_7 (by decide) ?_
    refine ww_iconst (pc := 17) hC (v := (-1 : Int32)) dX11_mix_17 (by decide) ?_
    exact ww_iret (pc := 18) hC hr h dX11_mix_18
  · replace h := mto_s h
    have hkt3 : KS Z t3 := ks_find hL h1
    refine ww_callVr (pc := 2) hC [.int x1] hL.1.1 hL.1.2 (by decide) (ceX11_find hL h1) ql_X11_95 qi_X11_find qs_X11_X11_find qn_X11 qc_X11_find rfl ⟨by decide, by decide, rfl⟩ rfl ⟨Nat.le_of_ble_eq_true rfl, Nat.le_of_ble_eq_true rfl⟩ (by decide) (rest := []) (Nat.le_of_ble_eq_true rfl) dX11_mix_2 ⟨Nat.le_of_ble_eq_true rfl, Nat.le_of_ble_eq_true rfl⟩ rfl ?_
    refine ww_astore_n (pc := 5) hC [(3, .ref (w.1 t3)), (0, .ref (w.1 0)), (1, .int x1), (2, .int x2)] dX11_mix_5 rfl (by decide) rfl ?_
    refine ww_aload_n (pc := 6) hC dX11_mix_6 0 rfl ?_
    refine ww_ifnull (pc := 7) hC dX11_mix_7 ?_
    refine ww_iload_n (pc := 10) hC dX11_mix_10 3 rfl ?_
    obtain ⟨r5, h4, h⟩ := bnd_i h
    refine ww_callSi (pc := 11) hC [.int x2] (ceX11_isHalf hL h4) ql_X11_184 qt_X11_isHalf qn_X11 qc_X11_isHalf ⟨by decide, by decide, rfl⟩ rfl ⟨Nat.le_of_ble_eq_true rfl, Nat.le_of_ble_eq_true rfl⟩ (by decide) (rest := []) (Nat.le_of_ble_eq_true rfl) dX11_mix_11 ⟨Nat.le_of_ble_eq_true rfl, Nat.le_of_ble_eq_true rfl⟩ rfl ?_
    refine ww_if_ne (pc := 14) hC h 19 dX11_mix_14 (by decide) (fun h => ?_) (fun h => ?_)
    · refine ww_aload_n (pc := 19) hC dX11_mix_19 1 rfl ?_
      refine ww_aload_n (pc := 20) hC dX11_mix_20 1 rfl ?_
      refine ww_getR (pc := 21) hC 11 4 47 hL.1 RX11 (by decide) (by decide) rfl (lay_11_4 hL).1 qf_X11_36 rfl dX11_mix_21 ?_
      refine ww_aload_n (pc := 24) hC dX11_mix_24 0 rfl ?_
      obtain ⟨_, X_8, h6, h⟩ := bnw_i h
      refine ww_callVv (pc := 25) hC [.ref (w.1 47), .ref (w.1 t3)] hL.1.1 hL.1.2 (by decide) (ceX11_look hL ((lay_11_4 hL).2) hkt3 h6) ql_X11_116 qi_X11_look qs_X11_X11_look qn_X11 qc_X11_look rfl ⟨by decide, by decide, rfl⟩ rfl ⟨Nat.le_of_ble_eq_true rfl, Nat.le_of_ble_eq_true rfl⟩ (by decide) (rest := []) (Nat.le_of_ble_eq_true rfl) dX11_mix_25 ⟨Nat.le_of_ble_eq_true rfl, Nat.le_of_ble_eq_true rfl⟩ rfl ?_
      refine ww_iconst (pc := 28) hC (v := (0 : Int32)) dX11_mix_28 (by decide) ?_
      refine ww_istore (pc := 29) hC [(4, .int ((0 : Int32))), (3, .ref (w.1 t3)), (0, .ref (w.1 0)), (1, .int x1), (2, .int x2)] dX11_mix_29  (by decide) rfl ?_
      refine ww_iconst (pc := 31) hC (v := (-1 : Int32)) dX11_mix_31 (by decide) ?_
      refine ww_istore (pc := 32) hC [(5, .int ((-1 : Int32))), (4, .int ((0 : Int32))), (3, .ref (w.1 t3)), (0, .ref (w.1 0)), (1, .int x1), (2, .int x2)] dX11_mix_32  (by decide) rfl ?_
      refine ww_iconst (pc := 34) hC (v := (0 : Int32)) dX11_mix_34 (by decide) ?_
      refine ww_istore (pc := 35) hC [(6, .int ((0 : Int32))), (5, .int ((-1 : Int32))), (4, .int ((0 : Int32))), (3, .ref (w.1 t3)), (0, .ref (w.1 0)), (1, .int x1), (2, .int x2)] dX11_mix_35  (by decide) rfl ?_
      refine ww_sub [4, 6, 2, 1, 0] rfl ?_
      exact j37 _ _ _ _ _ _ h
    · refine ww_iconst (pc := 17) hC (v := (-1 : Int32)) dX11_mix_17 (by decide) ?_
      exact ww_iret (pc := 18) hC hr h dX11_mix_18
noncomputable def fX11_line (Z : XS) (x1 : Int32) (X : XD) : Option (Int32 × XD) := if x1 = ((-1 : Int32)) then bnw (fX3_clear Z 52 X) (fun r8 X_9 => some (r8, X_9)) else bnd (fX11_find Z x1 X) (fun r2 => mto r2 (some ((-1 : Int32), X)) (fun t3 => bnw (fX3_add Z 52 x1 X) (fun r5 X_6 => if r5 = 0 then some ((-4 : Int32), X_6) else some (X_6.1 52 1, X_6))))
set_option maxHeartbeats 40000000 in
set_option maxRecDepth 100000 in
theorem ceX11_line {l : Launch} {E : XE} {w : XW} {z : Nat} {Z : XS}  (hL : LayC Z) {x1 : Int32} {X X1 : XD} {r : Int32} (h : fX11_line Z x1 X = some (r, X1)) : Ct l E w yX11_line (wsM yX11_line cX11_line 2 (some .int)) (rmX 2 0 0) 0 0 [.ref (w.1 0), .int x1] z z Z Z X X1 (some (.int r)) := by
  refine ct_of (by decide) (Nat.le_of_ble_eq_true rfl) ?_
  intro p e s m args below meth c hC hr hin hav
  unfold fX11_line at h
  refine ww_lv (lv' := [(0, .ref (w.1 0)), (1, .int x1)]) rfl ?_
  refine ww_iload_n (pc := 0) hC dX11_line_0 1 rfl ?_
  refine ww_iconst (pc := 1) hC (v := (-1 : Int32)) dX11_line_1 (by decide) ?_
  refine ww_icmp_ne (pc := 2) hC h 16 dX11_line_2 (by decide) (fun h => ?_) (fun h => ?_)
  · refine ww_aload_n (pc := 16) hC dX11_line_16 0 rfl ?_
    refine ww_iload_n (pc := 17) hC dX11_line_17 1 rfl ?_
    obtain ⟨r2, h1, h⟩ := bnd_i h
    rcases r2 with _ | t3
    · replace h := mto_n h
      refine ww_callVn (pc := 18) hC [.int x1] hL.1.1 hL.1.2 (by decide) (ceX11_find hL h1) ql_X11_95 qi_X11_find qs_X11_X11_find qn_X11 qc_X11_find rfl ⟨by decide, by decide, rfl⟩ rfl ⟨Nat.le_of_ble_eq_true rfl, Nat.le_of_ble_eq_true rfl⟩ (by decide) (rest := []) (Nat.le_of_ble_eq_true rfl) dX11_line_18 ⟨Nat.le_of_ble_eq_true rfl, Nat.le_of_ble_eq_true rfl⟩ rfl ?_
      refine ww_ifnonnullN (pc := 21) hC dX11_line_21 ?_
      refine ww_iconst (pc := 24) hC (v := (-1 : Int32)) dX11_line_24 (by decide) ?_
      exact ww_iret (pc := 25) hC hr h dX11_line_25
    · replace h := mto_s h
      have hkt3 : KS Z t3 := ks_find hL h1
      refine ww_callVr (pc := 18) hC [.int x1] hL.1.1 hL.1.2 (by decide) (ceX11_find hL h1) ql_X11_95 qi_X11_find qs_X11_X11_find qn_X11 qc_X11_find rfl ⟨by decide, by decide, rfl⟩ rfl ⟨Nat.le_of_ble_eq_true rfl, Nat.le_of_ble_eq_true rfl⟩ (by decide) (rest := []) (Nat.le_of_ble_eq_true rfl) dX11_line_18 ⟨Nat.le_of_ble_eq_true rfl, Nat.le_of_ble_eq_true rfl⟩ rfl ?_
      refine ww_ifnonnull (pc := 21) hC 26 dX11_line_21 (by decide) ?_
      refine ww_aload_n (pc := 26) hC dX11_line_26 0 rfl ?_
      refine ww_getR (pc := 27) hC 11 4 47 hL.1 RX11 (by decide) (by decide) rfl (lay_11_4 hL).1 qf_X11_36 rfl dX11_line_27 ?_
      refine ww_getR (pc := 30) hC 6 8 52 ((lay_11_4 hL).2) RX6 (by decide) (by decide) rfl (lay_6_8 hL ((lay_11_4 hL).2)).1 qf_X11_194 rfl dX11_line_30 ?_
      refine ww_iload_n (pc := 33) hC dX11_line_33 1 rfl ?_
      obtain ⟨r5, X_6, h4, h⟩ := bnw_i h
      refine ww_callVi (pc := 34) hC [.int x1] ((lay_6_8 hL ((lay_11_4 hL).2)).2).1 ((lay_6_8 hL ((lay_11_4 hL).2)).2).2 (by decide) (ceX3_add hL ((lay_6_8 hL ((lay_11_4 hL).2)).2) h4) ql_X11_142 qi_X3_add qs_X3_X3_add qn_X3 qc_X3_add rfl ⟨by decide, by decide, rfl⟩ rfl ⟨Nat.le_of_ble_eq_true rfl, Nat.le_of_ble_eq_true rfl⟩ (by decide) (rest := []) (Nat.le_of_ble_eq_true rfl) dX11_line_34 ⟨Nat.le_of_ble_eq_true rfl, Nat.le_of_ble_eq_true rfl⟩ rfl ?_
      refine ww_if_eq (pc := 37) hC h 53 dX11_line_37 (by decide) (fun h => ?_) (fun h => ?_)
      · refine ww_bipush (pc := 53) hC (v := (-4 : Int32)) dX11_line_53 (by decide) ?_
        exact ww_iret (pc := 55) hC hr h dX11_line_55
      · refine ww_aload_n (pc := 40) hC dX11_line_40 0 rfl ?_
        refine ww_getR (pc := 41) hC 11 4 47 hL.1 RX11 (by decide) (by decide) rfl (lay_11_4 hL).1 qf_X11_36 rfl dX11_line_41 ?_
        refine ww_getR (pc := 44) hC 6 8 52 ((lay_11_4 hL).2) RX6 (by decide) (by decide) rfl (lay_6_8 hL ((lay_11_4 hL).2)).1 qf_X11_194 rfl dX11_line_44 ?_
        refine ww_getI (pc := 47) hC 3 1 ((lay_6_8 hL ((lay_11_4 hL).2)).2) RX3 (by decide) (by decide) rfl qf_X11_145 (Or.inl rfl) dX11_line_47 ?_
        refine ww_goto (pc := 50) hC 55 dX11_line_50 (by decide) ?_
        exact ww_iret (pc := 55) hC hr h dX11_line_55
  · refine ww_aload_n (pc := 5) hC dX11_line_5 0 rfl ?_
    refine ww_getR (pc := 6) hC 11 4 47 hL.1 RX11 (by decide) (by decide) rfl (lay_11_4 hL).1 qf_X11_36 rfl dX11_line_6 ?_
    refine ww_getR (pc := 9) hC 6 8 52 ((lay_11_4 hL).2) RX6 (by decide) (by decide) rfl (lay_6_8 hL ((lay_11_4 hL).2)).1 qf_X11_194 rfl dX11_line_9 ?_
    obtain ⟨r8, X_9, h7, h⟩ := bnw_i h
    refine ww_callVi (pc := 12) hC [] ((lay_6_8 hL ((lay_11_4 hL).2)).2).1 ((lay_6_8 hL ((lay_11_4 hL).2)).2).2 (by decide) (ceX3_clear hL ((lay_6_8 hL ((lay_11_4 hL).2)).2) h7) ql_X11_155 qi_X3_clear qs_X3_X3_clear qn_X3 qc_X3_clear rfl ⟨by decide, by decide, rfl⟩ rfl ⟨Nat.le_of_ble_eq_true rfl, Nat.le_of_ble_eq_true rfl⟩ (by decide) (rest := []) (Nat.le_of_ble_eq_true rfl) dX11_line_12 ⟨Nat.le_of_ble_eq_true rfl, Nat.le_of_ble_eq_true rfl⟩ rfl ?_
    exact ww_iret (pc := 15) hC hr h dX11_line_15
noncomputable def fX11_hundreds_4 (Z : XS) (n : Nat) : Int32 → Int64 → Int32 → XD → Option Int64 := Nat.rec (motive := fun _ => Int32 → Int64 → Int32 → XD → Option Int64) (fun _ _ _ _ => none) (fun _ f => fun x0 x1 x3 X => if x0 ≤ x3 then some x1 else nm (x1 * ((100 : Int64))) (fun y1 => nm (x3 + (1 : Int32)) (fun y2 => f x0 y1 y2 X))) n
theorem fX11_hundreds_4_s (Z : XS) (n : Nat) (x0 : Int32) (x1 : Int64) (x3 : Int32) (X : XD) : fX11_hundreds_4 Z (n + 1) x0 x1 x3 X = if x0 ≤ x3 then some x1 else nm (x1 * ((100 : Int64))) (fun y1 => nm (x3 + (1 : Int32)) (fun y2 => (fX11_hundreds_4 Z n) x0 y1 y2 X)) := rfl
noncomputable def fX11_hundreds (Z : XS) (x0 : Int32) (X : XD) : Option Int64 := fX11_hundreds_4 Z FU x0 ((1 : Int64)) ((0 : Int32)) X
set_option maxHeartbeats 40000000 in
set_option maxRecDepth 100000 in
theorem ceX11_hundreds {l : Launch} {E : XE} {w : XW} {z : Nat} {Z : XS}  (hL : LayC Z) {x0 : Int32} {X : XD} {r : Int64} (h : fX11_hundreds Z x0 X = some r) : Ct l E w yX11_hundreds (wsM yX11_hundreds cX11_hundreds 4 (some .long)) (rmX 1 0 0) 0 0 [.int x0] z z Z Z X X (some (.long r)) := by
  refine ct_of (by decide) (Nat.le_of_ble_eq_true rfl) ?_
  intro p e s m args below meth c hC hr hin hav
  have j4 : ∀ (n : Nat), ∀ (x0 : Int32) (x1 : Int64) (x3 : Int32), fX11_hundreds_4 Z n x0 x1 x3 X = some r → WW p l e (rmX 1 0 0) s m args below meth c 4 (MQ below (XQ E w z Z X (some (.long r))) args s 0 0 (A0 E)) E w 0 0 z Z 4 [(0, .int x0), (1, .long x1), (3, .int x3)] [] X := by
    intro n
    induction n with
    | zero =>
      intro x0 x1 x3 h
      cases (show none = some r from h)
    | succ n ih =>
      intro x0 x1 x3 h
      rw [fX11_hundreds_4_s] at h
      refine ww_iload_n (pc := 4) hC dX11_hundreds_4 2 rfl ?_
      refine ww_iload_n (pc := 5) hC dX11_hundreds_5 0 rfl ?_
      refine ww_icmp_ge (pc := 6) hC h 21 dX11_hundreds_6 (by decide) (fun h => ?_) (fun h => ?_)
      · refine ww_lload_n (pc := 21) hC dX11_hundreds_21 1 rfl ?_
        exact ww_lret (pc := 22) hC hr (ret_r h) dX11_hundreds_22
      · refine ww_lload_n (pc := 9) hC dX11_hundreds_9 1 rfl ?_
        refine ww_ldc2 (pc := 10) hC (v := (100 : Int64)) dX11_hundreds_10 qg_X11_350 ?_
        refine ww_lmul (pc := 13) hC dX11_hundreds_13 ?_
        obtain ⟨y1, ey1⟩ : ∃ q, q = x1 * ((100 : Int64)) := ⟨_, rfl⟩
        replace h := nm_i h ey1
        refine ww_nml ey1 ?_
        refine ww_lstore_n (pc := 14) hC [(1, .long y1), (0, .int x0), (3, .int x3)] dX11_hundreds_14 rfl (by decide) rfl ?_
        obtain ⟨y2, ey2⟩ : ∃ q, q = x3 + (1 : Int32) := ⟨_, rfl⟩
        replace h := nm_i h ey2
        refine ww_iinc (pc := 15) hC y2 [(3, .int y2), (1, .long y1), (0, .int x0)] dX11_hundreds_15 2 rfl (by rw [ey2]; rfl) (by decide) rfl ?_
        refine ww_goto (pc := 18) hC 4 dX11_hundreds_18 (by decide) ?_
        refine ww_sub [2, 1, 0] rfl ?_
        exact ih _ _ _ h
  unfold fX11_hundreds at h
  refine ww_lv (lv' := [(0, .int x0)]) rfl ?_
  refine ww_lconst (pc := 0) hC (v := (1 : Int64)) dX11_hundreds_0 (by decide) ?_
  refine ww_lstore_n (pc := 1) hC [(1, .long ((1 : Int64))), (0, .int x0)] dX11_hundreds_1 rfl (by decide) rfl ?_
  refine ww_iconst (pc := 2) hC (v := (0 : Int32)) dX11_hundreds_2 (by decide) ?_
  refine ww_istore_n (pc := 3) hC [(3, .int ((0 : Int32))), (1, .long ((1 : Int64))), (0, .int x0)] dX11_hundreds_3 rfl (by decide) rfl ?_
  refine ww_sub [2, 1, 0] rfl ?_
  exact j4 _ _ _ _ h
noncomputable def fX11_lowest_45 (Z : XS) (x0 : Int64) (x2 : Int64) (x4 : Int32) (x5 : Int64) (X : XD) : Option Int64 := if (lg_cmp x5 ((0 : Int64))) = 0 then some ((-9223372036854775808 : Int64)) else if x4 = 0 then gnzl x5 (some (x0 / x5)) else gnzl x5 (some (x2 / x5))
noncomputable def fX11_lowest_9 (Z : XS) (n : Nat) : Int64 → Int64 → Int32 → Int64 → Int64 → Int32 → XD → Option Int64 := Nat.rec (motive := fun _ => Int64 → Int64 → Int32 → Int64 → Int64 → Int32 → XD → Option Int64) (fun _ _ _ _ _ _ _ => none) (fun _ f => fun x0 x2 x4 x5 x7 x9 X => if ((1000 : Int32)) ≤ x9 then fX11_lowest_45 Z x0 x2 x4 x5 X else if (lg_cmp x7 ((0 : Int64))) = 0 then fX11_lowest_45 Z x0 x2 x4 x5 X else gnzl x7 (nm (x5 - x5 / x7 * x7) (fun y2 => nm (x9 + (1 : Int32)) (fun y3 => f x0 x2 x4 x7 y2 y3 X)))) n
theorem fX11_lowest_9_s (Z : XS) (n : Nat) (x0 : Int64) (x2 : Int64) (x4 : Int32) (x5 : Int64) (x7 : Int64) (x9 : Int32) (X : XD) : fX11_lowest_9 Z (n + 1) x0 x2 x4 x5 x7 x9 X = if ((1000 : Int32)) ≤ x9 then fX11_lowest_45 Z x0 x2 x4 x5 X else if (lg_cmp x7 ((0 : Int64))) = 0 then fX11_lowest_45 Z x0 x2 x4 x5 X else gnzl x7 (nm (x5 - x5 / x7 * x7) (fun y2 => nm (x9 + (1 : Int32)) (fun y3 => (fX11_lowest_9 Z n) x0 x2 x4 x7 y2 y3 X))) := rfl
noncomputable def fX11_lowest (Z : XS) (x0 : Int64) (x2 : Int64) (x4 : Int32) (X : XD) : Option Int64 := fX11_lowest_9 Z FU x0 x2 x4 x0 x2 ((0 : Int32)) X
set_option maxHeartbeats 40000000 in
set_option maxRecDepth 100000 in
theorem ceX11_lowest {l : Launch} {E : XE} {w : XW} {z : Nat} {Z : XS}  (hL : LayC Z) {x0 : Int64} {x2 : Int64} {x4 : Int32} {X : XD} {r : Int64} (h : fX11_lowest Z x0 x2 x4 X = some r) : Ct l E w yX11_lowest (wsM yX11_lowest cX11_lowest 12 (some .long)) (rmX 1 0 0) 0 0 [.long x0, .long x2, .int x4] z z Z Z X X (some (.long r)) := by
  refine ct_of (by decide) (Nat.le_of_ble_eq_true rfl) ?_
  intro p e s m args below meth c hC hr hin hav
  have j45 : ∀ (x0 : Int64) (x2 : Int64) (x4 : Int32) (x5 : Int64), fX11_lowest_45 Z x0 x2 x4 x5 X = some r → WW p l e (rmX 1 0 0) s m args below meth c 12 (MQ below (XQ E w z Z X (some (.long r))) args s 0 0 (A0 E)) E w 0 0 z Z 45 [(0, .long x0), (2, .long x2), (4, .int x4), (5, .long x5)] [] X := by
    intro x0 x2 x4 x5 h
    unfold fX11_lowest_45 at h
    refine ww_lload (pc := 45) hC dX11_lowest_45 3 rfl ?_
    refine ww_lconst (pc := 47) hC (v := (0 : Int64)) dX11_lowest_47 (by decide) ?_
    refine ww_lcmp (pc := 48) hC dX11_lowest_48 ?_
    refine ww_if_ne (pc := 49) hC h 56 dX11_lowest_49 (by decide) (fun h => ?_) (fun h => ?_)
    · refine ww_iload (pc := 56) hC dX11_lowest_56 2 rfl ?_
      refine ww_if_ne (pc := 58) hC h 65 dX11_lowest_58 (by decide) (fun h => ?_) (fun h => ?_)
      · refine ww_lload_n (pc := 65) hC dX11_lowest_65 1 rfl ?_
        refine ww_lload (pc := 66) hC dX11_lowest_66 3 rfl ?_
        obtain ⟨hz4, h⟩ := gnzl_i h
        refine ww_ldiv (pc := 68) hC dX11_lowest_68 hz4 ?_
        exact ww_lret (pc := 69) hC hr (ret_r h) dX11_lowest_69
      · refine ww_lload_n (pc := 61) hC dX11_lowest_61 0 rfl ?_
        refine ww_goto (pc := 62) hC 66 dX11_lowest_62 (by decide) ?_
        refine ww_lload (pc := 66) hC dX11_lowest_66 3 rfl ?_
        obtain ⟨hz5, h⟩ := gnzl_i h
        refine ww_ldiv (pc := 68) hC dX11_lowest_68 hz5 ?_
        exact ww_lret (pc := 69) hC hr (ret_r h) dX11_lowest_69
    · refine ww_ldc2 (pc := 52) hC (v := (-9223372036854775808 : Int64)) dX11_lowest_52 qg_X11_197 ?_
      exact ww_lret (pc := 55) hC hr (ret_r h) dX11_lowest_55
  have j9 : ∀ (n : Nat), ∀ (x0 : Int64) (x2 : Int64) (x4 : Int32) (x5 : Int64) (x7 : Int64) (x9 : Int32), fX11_lowest_9 Z n x0 x2 x4 x5 x7 x9 X = some r → WW p l e (rmX 1 0 0) s m args below meth c 12 (MQ below (XQ E w z Z X (some (.long r))) args s 0 0 (A0 E)) E w 0 0 z Z 9 [(0, .long x0), (2, .long x2), (4, .int x4), (5, .long x5), (7, .long x7), (9, .int x9)] [] X := by
    intro n
    induction n with
    | zero =>
      intro x0 x2 x4 x5 x7 x9 h
      cases (show none = some r from h)
    | succ n ih =>
      intro x0 x2 x4 x5 x7 x9 h
      rw [fX11_lowest_9_s] at h
      refine ww_iload (pc := 9) hC dX11_lowest_9 5 rfl ?_
      refine ww_sipush (pc := 11) hC (v := (1000 : Int32)) dX11_lowest_11 (by decide) ?_
      refine ww_icmp_ge (pc := 14) hC h 45 dX11_lowest_14 (by decide) (fun h => ?_) (fun h => ?_)
      · refine ww_sub [0, 1, 2, 3] rfl ?_
        exact j45 _ _ _ _ h
      · refine ww_lload (pc := 17) hC dX11_lowest_17 4 rfl ?_
        refine ww_lconst (pc := 19) hC (v := (0 : Int64)) dX11_lowest_19 (by decide) ?_
        refine ww_lcmp (pc := 20) hC dX11_lowest_20 ?_
        refine ww_if_eq (pc := 21) hC h 45 dX11_lowest_21 (by decide) (fun h => ?_) (fun h => ?_)
        · refine ww_sub [0, 1, 2, 3] rfl ?_
          exact j45 _ _ _ _ h
        · refine ww_lload (pc := 24) hC dX11_lowest_24 3 rfl ?_
          refine ww_lload (pc := 26) hC dX11_lowest_26 4 rfl ?_
          obtain ⟨hz1, h⟩ := gnzl_i h
          refine ww_lrem (pc := 28) hC dX11_lowest_28 hz1 ?_
          obtain ⟨y2, ey2⟩ : ∃ q, q = x5 - x5 / x7 * x7 := ⟨_, rfl⟩
          replace h := nm_i h ey2
          refine ww_nml ey2 ?_
          refine ww_lstore (pc := 29) hC [(10, .long y2), (0, .long x0), (2, .long x2), (4, .int x4), (5, .long x5), (7, .long x7), (9, .int x9)] dX11_lowest_29  (by decide) rfl ?_
          refine ww_lload (pc := 31) hC dX11_lowest_31 5 rfl ?_
          refine ww_lstore (pc := 33) hC [(5, .long x7), (10, .long y2), (0, .long x0), (2, .long x2), (4, .int x4), (7, .long x7), (9, .int x9)] dX11_lowest_33  (by decide) rfl ?_
          refine ww_lload (pc := 35) hC dX11_lowest_35 1 rfl ?_
          refine ww_lstore (pc := 37) hC [(7, .long y2), (5, .long x7), (10, .long y2), (0, .long x0), (2, .long x2), (4, .int x4), (9, .int x9)] dX11_lowest_37  (by decide) rfl ?_
          obtain ⟨y3, ey3⟩ : ∃ q, q = x9 + (1 : Int32) := ⟨_, rfl⟩
          replace h := nm_i h ey3
          refine ww_iinc (pc := 39) hC y3 [(9, .int y3), (7, .long y2), (5, .long x7), (10, .long y2), (0, .long x0), (2, .long x2), (4, .int x4)] dX11_lowest_39 6 rfl (by rw [ey3]; rfl) (by decide) rfl ?_
          refine ww_goto (pc := 42) hC 9 dX11_lowest_42 (by decide) ?_
          refine ww_sub [4, 5, 6, 2, 1, 0] rfl ?_
          exact ih _ _ _ _ _ _ h
  unfold fX11_lowest at h
  refine ww_lv (lv' := [(0, .long x0), (2, .long x2), (4, .int x4)]) rfl ?_
  refine ww_lload_n (pc := 0) hC dX11_lowest_0 0 rfl ?_
  refine ww_lstore (pc := 1) hC [(5, .long x0), (0, .long x0), (2, .long x2), (4, .int x4)] dX11_lowest_1  (by decide) rfl ?_
  refine ww_lload_n (pc := 3) hC dX11_lowest_3 2 rfl ?_
  refine ww_lstore (pc := 4) hC [(7, .long x2), (5, .long x0), (0, .long x0), (2, .long x2), (4, .int x4)] dX11_lowest_4  (by decide) rfl ?_
  refine ww_iconst (pc := 6) hC (v := (0 : Int32)) dX11_lowest_6 (by decide) ?_
  refine ww_istore (pc := 7) hC [(9, .int ((0 : Int32))), (7, .long x2), (5, .long x0), (0, .long x0), (2, .long x2), (4, .int x4)] dX11_lowest_7  (by decide) rfl ?_
  refine ww_sub [3, 4, 5, 2, 1, 0] rfl ?_
  exact j9 _ _ _ _ _ _ _ h
noncomputable def fJ7_fill_d0a16_6 (Z : XS) (a0 : Nat) (n : Nat) : Int64 → Int32 → Int32 → XD → Option (Unit × XD) := Nat.rec (motive := fun _ => Int64 → Int32 → Int32 → XD → Option (Unit × XD)) (fun _ _ _ _ => none) (fun _ f => fun x1 x3 x4 X => if x4 ≤ x3 then some ((), X) else gin x3 (sL Z a0) (nm (wJ X a0 (x3).toNatClampNeg x1) (fun X_2 => nm (x3 + (1 : Int32)) (fun y3 => f x1 y3 x4 X_2)))) n
theorem fJ7_fill_d0a16_6_s (Z : XS) (a0 : Nat) (n : Nat) (x1 : Int64) (x3 : Int32) (x4 : Int32) (X : XD) : fJ7_fill_d0a16_6 Z a0 (n + 1) x1 x3 x4 X = if x4 ≤ x3 then some ((), X) else gin x3 (sL Z a0) (nm (wJ X a0 (x3).toNatClampNeg x1) (fun X_2 => nm (x3 + (1 : Int32)) (fun y3 => (fJ7_fill_d0a16_6 Z a0 n) x1 y3 x4 X_2))) := rfl
noncomputable def fJ7_fill_d0a16 (Z : XS) (a0 : Nat) (x1 : Int64) (X : XD) : Option (Unit × XD) := nm (Int32.ofNat (sL Z a0)) (fun y1 => fJ7_fill_d0a16_6 Z a0 FU x1 ((0 : Int32)) y1 X)
set_option maxHeartbeats 40000000 in
set_option maxRecDepth 100000 in
theorem ceJ7_fill_d0a16 {l : Launch} {E : XE} {w : XW} {z : Nat} {Z : XS}  {a0 : Nat} (h_a0 : KA Z a0 14 (sL Z a0)) {x1 : Int64} {X X1 : XD} {r : Unit} (h : fJ7_fill_d0a16 Z a0 x1 X = some (r, X1)) : Ct l E w yJ7_fill_d0a16 (wsM yJ7_fill_d0a16 cJ7_fill_d0a16 5 none) (rmX 1 0 0) 0 0 [.ref (w.1 a0), .long x1] z z Z Z X X1 none := by
  refine ct_of (by decide) (Nat.le_of_ble_eq_true rfl) ?_
  intro p e s m args below meth c hC hr hin hav
  have j6 : ∀ (n : Nat), ∀ (x1 : Int64) (x3 : Int32) (x4 : Int32) (X : XD), fJ7_fill_d0a16_6 Z a0 n x1 x3 x4 X = some (r, X1) → WW p l e (rmX 1 0 0) s m args below meth c 5 (MQ below (XQ E w z Z X1 none) args s 0 0 (A0 E)) E w 0 0 z Z 6 [(0, .ref (w.1 a0)), (1, .long x1), (3, .int x3), (4, .int x4)] [] X := by
    intro n
    induction n with
    | zero =>
      intro x1 x3 x4 X h
      cases (show none = some (r, X1) from h)
    | succ n ih =>
      intro x1 x3 x4 X h
      rw [fJ7_fill_d0a16_6_s] at h
      refine ww_iload_n (pc := 6) hC dJ7_fill_d0a16_6 2 rfl ?_
      refine ww_iload (pc := 7) hC dJ7_fill_d0a16_7 3 rfl ?_
      refine ww_icmp_ge (pc := 9) hC h 22 dJ7_fill_d0a16_9 (by decide) (fun h => ?_) (fun h => ?_)
      · exact ww_vret (pc := 22) hC hr h dJ7_fill_d0a16_22
      · refine ww_aload_n (pc := 12) hC dJ7_fill_d0a16_12 0 rfl ?_
        refine ww_iload_n (pc := 13) hC dJ7_fill_d0a16_13 2 rfl ?_
        refine ww_lload_n (pc := 14) hC dJ7_fill_d0a16_14 1 rfl ?_
        refine ww_last (pc := 15) hC h_a0 h dJ7_fill_d0a16_15 (fun h => ?_)
        obtain ⟨X_2, eX_2⟩ : ∃ q, q = wJ X a0 (x3).toNatClampNeg x1 := ⟨_, rfl⟩
        replace h := nm_i h eX_2
        refine ww_nmX eX_2 ?_
        obtain ⟨y3, ey3⟩ : ∃ q, q = x3 + (1 : Int32) := ⟨_, rfl⟩
        replace h := nm_i h ey3
        refine ww_iinc (pc := 16) hC y3 [(3, .int y3), (0, .ref (w.1 a0)), (1, .long x1), (4, .int x4)] dJ7_fill_d0a16_16 2 rfl (by rw [ey3]; rfl) (by decide) rfl ?_
        refine ww_goto (pc := 19) hC 6 dJ7_fill_d0a16_19 (by decide) ?_
        refine ww_sub [1, 2, 0, 3] rfl ?_
        exact ih _ _ _ _ h
  unfold fJ7_fill_d0a16 at h
  refine ww_lv (lv' := [(0, .ref (w.1 a0)), (1, .long x1)]) rfl ?_
  refine ww_iconst (pc := 0) hC (v := (0 : Int32)) dJ7_fill_d0a16_0 (by decide) ?_
  refine ww_istore_n (pc := 1) hC [(3, .int ((0 : Int32))), (0, .ref (w.1 a0)), (1, .long x1)] dJ7_fill_d0a16_1 rfl (by decide) rfl ?_
  refine ww_aload_n (pc := 2) hC dJ7_fill_d0a16_2 1 rfl ?_
  refine ww_alen (pc := 3) hC (Int32.ofNat (sL Z a0)) h_a0 (by decide) (by decide) rfl dJ7_fill_d0a16_3 ?_
  obtain ⟨y1, ey1⟩ : ∃ q, q = Int32.ofNat (sL Z a0) := ⟨_, rfl⟩
  replace h := nm_i h ey1
  refine ww_nmi ey1 ?_
  refine ww_istore (pc := 4) hC [(4, .int y1), (3, .int ((0 : Int32))), (0, .ref (w.1 a0)), (1, .long x1)] dJ7_fill_d0a16_4  (by decide) rfl ?_
  refine ww_sub [2, 3, 1, 0] rfl ?_
  exact j6 _ _ _ _ _ h
noncomputable def fX11_supposed (Z : XS) (X : XD) : Option (Unit × XD) := gin ((0 : Int32)) 5 (bnw (fX6_takeRound Z (74 + 13 * ((0 : Int32)).toNatClampNeg) 47 X) (fun _ X_4 => some ((), X_4)))
set_option maxHeartbeats 40000000 in
set_option maxRecDepth 100000 in
theorem ceX11_supposed {l : Launch} {E : XE} {w : XW} {z : Nat} {Z : XS}  (hL : LayC Z) {X X1 : XD} {r : Unit} (h : fX11_supposed Z X = some (r, X1)) : Ct l E w yX11_supposed (wsM yX11_supposed cX11_supposed 2 (some (.object "FootKeeper$Table"))) (rmX 2 0 0) 0 0 [.ref (w.1 0)] z z Z Z X X1 (some (.ref (w.1 74))) := by
  refine ct_of (by decide) (Nat.le_of_ble_eq_true rfl) ?_
  intro p e s m args below meth c hC hr hin hav
  unfold fX11_supposed at h
  refine ww_lv (lv' := [(0, .ref (w.1 0))]) rfl ?_
  refine ww_aload_n (pc := 0) hC dX11_supposed_0 0 rfl ?_
  refine ww_getR (pc := 1) hC 11 7 73 hL.1 RX11 (by decide) (by decide) rfl (lay_11_7 hL).1 qf_X11_43 rfl dX11_supposed_1 ?_
  refine ww_iconst (pc := 4) hC (v := (0 : Int32)) dX11_supposed_4 (by decide) ?_
  have hin1 := (gin_i h).1
  refine ww_aald (pc := 5) hC (74 + 13 * ((0 : Int32)).toNatClampNeg) ((lay_11_7 hL).2) (by decide) (by decide) h (fun q => (lay_el18 hL q).1) dX11_supposed_5 (fun h => ?_)
  refine ww_astore_n (pc := 6) hC [(1, .ref (w.1 (74 + 13 * ((0 : Int32)).toNatClampNeg))), (0, .ref (w.1 0))] dX11_supposed_6 rfl (by decide) rfl ?_
  refine ww_aload_n (pc := 7) hC dX11_supposed_7 0 rfl ?_
  refine ww_aload_n (pc := 8) hC dX11_supposed_8 1 rfl ?_
  refine ww_getR (pc := 9) hC 11 4 47 hL.1 RX11 (by decide) (by decide) rfl (lay_11_4 hL).1 qf_X11_36 rfl dX11_supposed_9 ?_
  obtain ⟨_, X_4, h2, h⟩ := bnw_i h
  refine ww_callVv (pc := 12) hC [.ref (w.1 47)] ((lay_el18 hL hin1).2).1 ((lay_el18 hL hin1).2).2 (by decide) (ceX6_takeRound hL ((lay_el18 hL hin1).2) ((lay_11_4 hL).2) h2) ql_X11_328 qi_X6_takeRound qs_X6_X6_takeRound qn_X6 qc_X6_takeRound rfl ⟨by decide, by decide, rfl⟩ rfl ⟨Nat.le_of_ble_eq_true rfl, Nat.le_of_ble_eq_true rfl⟩ (by decide) (rest := []) (Nat.le_of_ble_eq_true rfl) dX11_supposed_12 ⟨Nat.le_of_ble_eq_true rfl, Nat.le_of_ble_eq_true rfl⟩ rfl ?_
  refine ww_aload_n (pc := 15) hC dX11_supposed_15 0 rfl ?_
  exact ww_aret (pc := 16) hC hr (Or.inl ⟨_, rfl⟩) (Or.inr ⟨_, rfl⟩) rfl (Prod.mk.inj (Option.some.inj h)).2 dX11_supposed_16
noncomputable def fX11_beginReckoning (Z : XS) (X : XD) : Option (Unit × XD) := bnw (fJ7_fill_d0a16 Z 153 ((0 : Int64)) X) (fun _ X_3 => bnw (fX11_supposed Z X_3) (fun _ X_6 => some ((), X_6)))
set_option maxHeartbeats 40000000 in
set_option maxRecDepth 100000 in
theorem ceX11_beginReckoning {l : Launch} {E : XE} {w : XW} {z : Nat} {Z : XS}  (hL : LayC Z) {X X1 : XD} {r : Unit} (h : fX11_beginReckoning Z X = some (r, X1)) : Ct l E w yX11_beginReckoning (wsM yX11_beginReckoning cX11_beginReckoning 1 none) (rmX 3 0 0) 0 0 [.ref (w.1 0)] z z Z Z X X1 none := by
  refine ct_of (by decide) (Nat.le_of_ble_eq_true rfl) ?_
  intro p e s m args below meth c hC hr hin hav
  unfold fX11_beginReckoning at h
  refine ww_lv (lv' := [(0, .ref (w.1 0))]) rfl ?_
  refine ww_aload_n (pc := 0) hC dX11_beginReckoning_0 0 rfl ?_
  refine ww_getR (pc := 1) hC 11 13 153 hL.1 RX11 (by decide) (by decide) rfl (lay_11_13 hL).1 qf_X11_75 rfl dX11_beginReckoning_1 ?_
  refine ww_lconst (pc := 4) hC (v := (0 : Int64)) dX11_beginReckoning_4 (by decide) ?_
  obtain ⟨_, X_3, h1, h⟩ := bnw_i h
  refine ww_callSv (pc := 5) hC [.ref (w.1 153), .long ((0 : Int64))] (ceJ7_fill_d0a16 ⟨((lay_11_13 hL).2).1, ((lay_11_13 hL).2).2.1, rfl⟩ h1) ql_X11_276 qt_J7_fill_d0a16 qn_J7 qc_J7_fill_d0a16 ⟨by decide, by decide, rfl⟩ rfl ⟨Nat.le_of_ble_eq_true rfl, Nat.le_of_ble_eq_true rfl⟩ (by decide) (rest := []) (Nat.le_of_ble_eq_true rfl) dX11_beginReckoning_5 ⟨Nat.le_of_ble_eq_true rfl, Nat.le_of_ble_eq_true rfl⟩ rfl ?_
  refine ww_aload_n (pc := 8) hC dX11_beginReckoning_8 0 rfl ?_
  obtain ⟨_, X_6, h4, h⟩ := bnw_i h
  refine ww_callVr (pc := 9) hC [] hL.1.1 hL.1.2 (by decide) (ceX11_supposed hL h4) ql_X11_219 qi_X11_supposed qs_X11_X11_supposed qn_X11 qc_X11_supposed rfl ⟨by decide, by decide, rfl⟩ rfl ⟨Nat.le_of_ble_eq_true rfl, Nat.le_of_ble_eq_true rfl⟩ (by decide) (rest := []) (Nat.le_of_ble_eq_true rfl) dX11_beginReckoning_9 ⟨Nat.le_of_ble_eq_true rfl, Nat.le_of_ble_eq_true rfl⟩ rfl ?_
  refine ww_pop (pc := 12) hC dX11_beginReckoning_12 rfl ?_
  exact ww_vret (pc := 13) hC hr h dX11_beginReckoning_13
noncomputable def fX11_arrange_5 (Z : XS) (n : Nat) : Int32 → Int32 → Int32 → Int32 → XD → Option (Int32 × XD) := Nat.rec (motive := fun _ => Int32 → Int32 → Int32 → Int32 → XD → Option (Int32 × XD)) (fun _ _ _ _ _ => none) (fun _ f => fun x1 x2 x3 x4 X => if x2 ≤ x4 then some ((1 : Int32), X) else if ((4 : Int32)) ≤ x4 then some ((1 : Int32), X) else nm ((x1 >>> ((((2 : Int32)) * ((x2 - ((1 : Int32))) - x4)) &&& 31)) &&& ((3 : Int32))) (fun y1 => if x2 ≤ y1 then some ((0 : Int32), X) else if ((x3 >>> (y1 &&& 31)) &&& ((1 : Int32))) = ((1 : Int32)) then some ((0 : Int32), X) else nm (x3 ||| (((1 : Int32)) <<< (y1 &&& 31))) (fun y2 => gin x4 4 (nm (wI X 155 (x4).toNatClampNeg y1) (fun X_3 => nm (x4 + (1 : Int32)) (fun y4 => f x1 x2 y2 y4 X_3)))))) n
theorem fX11_arrange_5_s (Z : XS) (n : Nat) (x1 : Int32) (x2 : Int32) (x3 : Int32) (x4 : Int32) (X : XD) : fX11_arrange_5 Z (n + 1) x1 x2 x3 x4 X = if x2 ≤ x4 then some ((1 : Int32), X) else if ((4 : Int32)) ≤ x4 then some ((1 : Int32), X) else nm ((x1 >>> ((((2 : Int32)) * ((x2 - ((1 : Int32))) - x4)) &&& 31)) &&& ((3 : Int32))) (fun y1 => if x2 ≤ y1 then some ((0 : Int32), X) else if ((x3 >>> (y1 &&& 31)) &&& ((1 : Int32))) = ((1 : Int32)) then some ((0 : Int32), X) else nm (x3 ||| (((1 : Int32)) <<< (y1 &&& 31))) (fun y2 => gin x4 4 (nm (wI X 155 (x4).toNatClampNeg y1) (fun X_3 => nm (x4 + (1 : Int32)) (fun y4 => (fX11_arrange_5 Z n) x1 x2 y2 y4 X_3))))) := rfl
noncomputable def fX11_arrange (Z : XS) (x1 : Int32) (x2 : Int32) (X : XD) : Option (Int32 × XD) := fX11_arrange_5 Z FU x1 x2 ((0 : Int32)) ((0 : Int32)) X
set_option maxHeartbeats 40000000 in
set_option maxRecDepth 100000 in
theorem ceX11_arrange {l : Launch} {E : XE} {w : XW} {z : Nat} {Z : XS}  (hL : LayC Z) {x1 : Int32} {x2 : Int32} {X X1 : XD} {r : Int32} (h : fX11_arrange Z x1 x2 X = some (r, X1)) : Ct l E w yX11_arrange (wsM yX11_arrange cX11_arrange 6 (some .boolean)) (rmX 1 0 0) 0 0 [.ref (w.1 0), .int x1, .int x2] z z Z Z X X1 (some (.int r)) := by
  refine ct_of (by decide) (Nat.le_of_ble_eq_true rfl) ?_
  intro p e s m args below meth c hC hr hin hav
  have j5 : ∀ (n : Nat), ∀ (x1 : Int32) (x2 : Int32) (x3 : Int32) (x4 : Int32) (X : XD), fX11_arrange_5 Z n x1 x2 x3 x4 X = some (r, X1) → WW p l e (rmX 1 0 0) s m args below meth c 6 (MQ below (XQ E w z Z X1 (some (.int r))) args s 0 0 (A0 E)) E w 0 0 z Z 5 [(0, .ref (w.1 0)), (1, .int x1), (2, .int x2), (3, .int x3), (4, .int x4)] [] X := by
    intro n
    induction n with
    | zero =>
      intro x1 x2 x3 x4 X h
      cases (show none = some (r, X1) from h)
    | succ n ih =>
      intro x1 x2 x3 x4 X h
      rw [fX11_arrange_5_s] at h
      refine ww_iload (pc := 5) hC dX11_arrange_5 4 rfl ?_
      refine ww_iload_n (pc := 7) hC dX11_arrange_7 2 rfl ?_
      refine ww_icmp_ge (pc := 8) hC h 75 dX11_arrange_8 (by decide) (fun h => ?_) (fun h => ?_)
      · refine ww_iconst (pc := 75) hC (v := (1 : Int32)) dX11_arrange_75 (by decide) ?_
        exact ww_zret (pc := 76) hC hr rfl h dX11_arrange_76
      · refine ww_iload (pc := 11) hC dX11_arrange_11 4 rfl ?_
        refine ww_aload_n (pc := 13) hC dX11_arrange_13 0 rfl ?_
        refine ww_getR (pc := 14) hC 11 15 155 hL.1 RX11 (by decide) (by decide) rfl (lay_11_15 hL).1 qf_X11_82 rfl dX11_arrange_14 ?_
        refine ww_alen (pc := 17) hC ((4 : Int32)) ((lay_11_15 hL).2) (by decide) (by decide) rfl dX11_arrange_17 ?_
        refine ww_icmp_ge (pc := 18) hC h 75 dX11_arrange_18 (by decide) (fun h => ?_) (fun h => ?_)
        · refine ww_iconst (pc := 75) hC (v := (1 : Int32)) dX11_arrange_75 (by decide) ?_
          exact ww_zret (pc := 76) hC hr rfl h dX11_arrange_76
        · refine ww_iload_n (pc := 21) hC dX11_arrange_21 1 rfl ?_
          refine ww_iconst (pc := 22) hC (v := (2 : Int32)) dX11_arrange_22 (by decide) ?_
          refine ww_iload_n (pc := 23) hC dX11_arrange_23 2 rfl ?_
          refine ww_iconst (pc := 24) hC (v := (1 : Int32)) dX11_arrange_24 (by decide) ?_
          refine ww_isub (pc := 25) hC dX11_arrange_25 ?_
          refine ww_iload (pc := 26) hC dX11_arrange_26 4 rfl ?_
          refine ww_isub (pc := 28) hC dX11_arrange_28 ?_
          refine ww_imul (pc := 29) hC dX11_arrange_29 ?_
          refine ww_ishr (pc := 30) hC dX11_arrange_30 ?_
          refine ww_iconst (pc := 31) hC (v := (3 : Int32)) dX11_arrange_31 (by decide) ?_
          refine ww_iand (pc := 32) hC dX11_arrange_32 ?_
          obtain ⟨y1, ey1⟩ : ∃ q, q = (x1 >>> ((((2 : Int32)) * ((x2 - ((1 : Int32))) - x4)) &&& 31)) &&& ((3 : Int32)) := ⟨_, rfl⟩
          replace h := nm_i h ey1
          refine ww_nmi ey1 ?_
          refine ww_istore (pc := 33) hC [(5, .int y1), (0, .ref (w.1 0)), (1, .int x1), (2, .int x2), (3, .int x3), (4, .int x4)] dX11_arrange_33  (by decide) rfl ?_
          refine ww_iload (pc := 35) hC dX11_arrange_35 0 rfl ?_
          refine ww_iload_n (pc := 37) hC dX11_arrange_37 3 rfl ?_
          refine ww_icmp_ge (pc := 38) hC h 51 dX11_arrange_38 (by decide) (fun h => ?_) (fun h => ?_)
          · refine ww_iconst (pc := 51) hC (v := (0 : Int32)) dX11_arrange_51 (by decide) ?_
            exact ww_zret (pc := 52) hC hr rfl h dX11_arrange_52
          · refine ww_iload_n (pc := 41) hC dX11_arrange_41 4 rfl ?_
            refine ww_iload (pc := 42) hC dX11_arrange_42 0 rfl ?_
            refine ww_ishr (pc := 44) hC dX11_arrange_44 ?_
            refine ww_iconst (pc := 45) hC (v := (1 : Int32)) dX11_arrange_45 (by decide) ?_
            refine ww_iand (pc := 46) hC dX11_arrange_46 ?_
            refine ww_iconst (pc := 47) hC (v := (1 : Int32)) dX11_arrange_47 (by decide) ?_
            refine ww_icmp_ne (pc := 48) hC h 53 dX11_arrange_48 (by decide) (fun h => ?_) (fun h => ?_)
            · refine ww_iload_n (pc := 53) hC dX11_arrange_53 4 rfl ?_
              refine ww_iconst (pc := 54) hC (v := (1 : Int32)) dX11_arrange_54 (by decide) ?_
              refine ww_iload (pc := 55) hC dX11_arrange_55 0 rfl ?_
              refine ww_ishl (pc := 57) hC dX11_arrange_57 ?_
              refine ww_ior (pc := 58) hC dX11_arrange_58 ?_
              obtain ⟨y2, ey2⟩ : ∃ q, q = x3 ||| (((1 : Int32)) <<< (y1 &&& 31)) := ⟨_, rfl⟩
              replace h := nm_i h ey2
              refine ww_nmi ey2 ?_
              refine ww_istore_n (pc := 59) hC [(3, .int y2), (5, .int y1), (0, .ref (w.1 0)), (1, .int x1), (2, .int x2), (4, .int x4)] dX11_arrange_59 rfl (by decide) rfl ?_
              refine ww_aload_n (pc := 60) hC dX11_arrange_60 2 rfl ?_
              refine ww_getR (pc := 61) hC 11 15 155 hL.1 RX11 (by decide) (by decide) rfl (lay_11_15 hL).1 qf_X11_82 rfl dX11_arrange_61 ?_
              refine ww_iload (pc := 64) hC dX11_arrange_64 5 rfl ?_
              refine ww_iload (pc := 66) hC dX11_arrange_66 1 rfl ?_
              refine ww_iast (pc := 68) hC ((lay_11_15 hL).2) h dX11_arrange_68 (fun h => ?_)
              obtain ⟨X_3, eX_3⟩ : ∃ q, q = wI X 155 (x4).toNatClampNeg y1 := ⟨_, rfl⟩
              replace h := nm_i h eX_3
              refine ww_nmX eX_3 ?_
              obtain ⟨y4, ey4⟩ : ∃ q, q = x4 + (1 : Int32) := ⟨_, rfl⟩
              replace h := nm_i h ey4
              refine ww_iinc (pc := 69) hC y4 [(4, .int y4), (3, .int y2), (5, .int y1), (0, .ref (w.1 0)), (1, .int x1), (2, .int x2)] dX11_arrange_69 5 rfl (by rw [ey4]; rfl) (by decide) rfl ?_
              refine ww_goto (pc := 72) hC 5 dX11_arrange_72 (by decide) ?_
              refine ww_sub [3, 4, 5, 1, 0] rfl ?_
              exact ih _ _ _ _ _ h
            · refine ww_iconst (pc := 51) hC (v := (0 : Int32)) dX11_arrange_51 (by decide) ?_
              exact ww_zret (pc := 52) hC hr rfl h dX11_arrange_52
  unfold fX11_arrange at h
  refine ww_lv (lv' := [(0, .ref (w.1 0)), (1, .int x1), (2, .int x2)]) rfl ?_
  refine ww_iconst (pc := 0) hC (v := (0 : Int32)) dX11_arrange_0 (by decide) ?_
  refine ww_istore_n (pc := 1) hC [(3, .int ((0 : Int32))), (0, .ref (w.1 0)), (1, .int x1), (2, .int x2)] dX11_arrange_1 rfl (by decide) rfl ?_
  refine ww_iconst (pc := 2) hC (v := (0 : Int32)) dX11_arrange_2 (by decide) ?_
  refine ww_istore (pc := 3) hC [(4, .int ((0 : Int32))), (3, .int ((0 : Int32))), (0, .ref (w.1 0)), (1, .int x1), (2, .int x2)] dX11_arrange_3  (by decide) rfl ?_
  refine ww_sub [2, 3, 4, 1, 0] rfl ?_
  exact j5 _ _ _ _ _ _ h
noncomputable def fX11_moreThanHalf_33 (Z : XS) (k5 : Int32 → Int64 → Int32 → XD → Option Int64) (x1 : Int32) (x2 : Int64) (x4 : Int32) (X : XD) : Option Int64 := nm (x4 + (1 : Int32)) (fun y2 => k5 x1 x2 y2 X)
noncomputable def fX11_moreThanHalf_5 (Z : XS) (n : Nat) : Int32 → Int64 → Int32 → XD → Option Int64 := Nat.rec (motive := fun _ => Int32 → Int64 → Int32 → XD → Option Int64) (fun _ _ _ _ => none) (fun _ f => fun x1 x2 x4 X => if ((5 : Int32)) ≤ x4 then some x2 else if (((2 : Int32)) * x4) ≤ x1 then fX11_moreThanHalf_33 Z (f) x1 x2 x4 X else gin x4 5 (nm (x2 + (X.2 153 (x4).toNatClampNeg)) (fun y1 => fX11_moreThanHalf_33 Z (f) x1 y1 x4 X))) n
theorem fX11_moreThanHalf_5_s (Z : XS) (n : Nat) (x1 : Int32) (x2 : Int64) (x4 : Int32) (X : XD) : fX11_moreThanHalf_5 Z (n + 1) x1 x2 x4 X = if ((5 : Int32)) ≤ x4 then some x2 else if (((2 : Int32)) * x4) ≤ x1 then fX11_moreThanHalf_33 Z ((fX11_moreThanHalf_5 Z n)) x1 x2 x4 X else gin x4 5 (nm (x2 + (X.2 153 (x4).toNatClampNeg)) (fun y1 => fX11_moreThanHalf_33 Z ((fX11_moreThanHalf_5 Z n)) x1 y1 x4 X)) := rfl
noncomputable def fX11_moreThanHalf (Z : XS) (x1 : Int32) (X : XD) : Option Int64 := fX11_moreThanHalf_5 Z FU x1 ((0 : Int64)) ((0 : Int32)) X
set_option maxHeartbeats 40000000 in
set_option maxRecDepth 100000 in
theorem ceX11_moreThanHalf {l : Launch} {E : XE} {w : XW} {z : Nat} {Z : XS}  (hL : LayC Z) {x1 : Int32} {X : XD} {r : Int64} (h : fX11_moreThanHalf Z x1 X = some r) : Ct l E w yX11_moreThanHalf (wsM yX11_moreThanHalf cX11_moreThanHalf 5 (some .long)) (rmX 1 0 0) 0 0 [.ref (w.1 0), .int x1] z z Z Z X X (some (.long r)) := by
  refine ct_of (by decide) (Nat.le_of_ble_eq_true rfl) ?_
  intro p e s m args below meth c hC hr hin hav
  have j33 : ∀ (k5 : Int32 → Int64 → Int32 → XD → Option Int64) (hk5 : ∀ (x1 : Int32) (x2 : Int64) (x4 : Int32), k5 x1 x2 x4 X = some r → WW p l e (rmX 1 0 0) s m args below meth c 5 (MQ below (XQ E w z Z X (some (.long r))) args s 0 0 (A0 E)) E w 0 0 z Z 5 [(0, .ref (w.1 0)), (1, .int x1), (2, .long x2), (4, .int x4)] [] X), ∀ (x1 : Int32) (x2 : Int64) (x4 : Int32), fX11_moreThanHalf_33 Z k5 x1 x2 x4 X = some r → WW p l e (rmX 1 0 0) s m args below meth c 5 (MQ below (XQ E w z Z X (some (.long r))) args s 0 0 (A0 E)) E w 0 0 z Z 33 [(0, .ref (w.1 0)), (1, .int x1), (2, .long x2), (4, .int x4)] [] X := by
    intro k5 hk5 x1 x2 x4 h
    unfold fX11_moreThanHalf_33 at h
    obtain ⟨y2, ey2⟩ : ∃ q, q = x4 + (1 : Int32) := ⟨_, rfl⟩
    replace h := nm_i h ey2
    refine ww_iinc (pc := 33) hC y2 [(4, .int y2), (0, .ref (w.1 0)), (1, .int x1), (2, .long x2)] dX11_moreThanHalf_33 3 rfl (by rw [ey2]; rfl) (by decide) rfl ?_
    refine ww_goto (pc := 36) hC 5 dX11_moreThanHalf_36 (by decide) ?_
    refine ww_sub [1, 2, 3, 0] rfl ?_
    exact hk5 _ _ _ h
  have j5 : ∀ (n : Nat), ∀ (x1 : Int32) (x2 : Int64) (x4 : Int32), fX11_moreThanHalf_5 Z n x1 x2 x4 X = some r → WW p l e (rmX 1 0 0) s m args below meth c 5 (MQ below (XQ E w z Z X (some (.long r))) args s 0 0 (A0 E)) E w 0 0 z Z 5 [(0, .ref (w.1 0)), (1, .int x1), (2, .long x2), (4, .int x4)] [] X := by
    intro n
    induction n with
    | zero =>
      intro x1 x2 x4 h
      cases (show none = some r from h)
    | succ n ih =>
      intro x1 x2 x4 h
      rw [fX11_moreThanHalf_5_s] at h
      refine ww_iload (pc := 5) hC dX11_moreThanHalf_5 3 rfl ?_
      refine ww_aload_n (pc := 7) hC dX11_moreThanHalf_7 0 rfl ?_
      refine ww_getR (pc := 8) hC 11 13 153 hL.1 RX11 (by decide) (by decide) rfl (lay_11_13 hL).1 qf_X11_75 rfl dX11_moreThanHalf_8 ?_
      refine ww_alen (pc := 11) hC ((5 : Int32)) ((lay_11_13 hL).2) (by decide) (by decide) rfl dX11_moreThanHalf_11 ?_
      refine ww_icmp_ge (pc := 12) hC h 39 dX11_moreThanHalf_12 (by decide) (fun h => ?_) (fun h => ?_)
      · refine ww_lload_n (pc := 39) hC dX11_moreThanHalf_39 2 rfl ?_
        exact ww_lret (pc := 40) hC hr (ret_r h) dX11_moreThanHalf_40
      · refine ww_iconst (pc := 15) hC (v := (2 : Int32)) dX11_moreThanHalf_15 (by decide) ?_
        refine ww_iload (pc := 16) hC dX11_moreThanHalf_16 3 rfl ?_
        refine ww_imul (pc := 18) hC dX11_moreThanHalf_18 ?_
        refine ww_iload_n (pc := 19) hC dX11_moreThanHalf_19 1 rfl ?_
        refine ww_icmp_le (pc := 20) hC h 33 dX11_moreThanHalf_20 (by decide) (fun h => ?_) (fun h => ?_)
        · refine ww_sub [0, 1, 2, 3] rfl ?_
          exact j33 _ ih _ _ _ h
        · refine ww_lload_n (pc := 23) hC dX11_moreThanHalf_23 2 rfl ?_
          refine ww_aload_n (pc := 24) hC dX11_moreThanHalf_24 0 rfl ?_
          refine ww_getR (pc := 25) hC 11 13 153 hL.1 RX11 (by decide) (by decide) rfl (lay_11_13 hL).1 qf_X11_75 rfl dX11_moreThanHalf_25 ?_
          refine ww_iload (pc := 28) hC dX11_moreThanHalf_28 3 rfl ?_
          refine ww_lald (pc := 30) hC ((lay_11_13 hL).2) h dX11_moreThanHalf_30 (fun h => ?_)
          refine ww_ladd (pc := 31) hC dX11_moreThanHalf_31 ?_
          obtain ⟨y1, ey1⟩ : ∃ q, q = x2 + (X.2 153 (x4).toNatClampNeg) := ⟨_, rfl⟩
          replace h := nm_i h ey1
          refine ww_nml ey1 ?_
          refine ww_lstore_n (pc := 32) hC [(2, .long y1), (0, .ref (w.1 0)), (1, .int x1), (4, .int x4)] dX11_moreThanHalf_32 rfl (by decide) rfl ?_
          refine ww_sub [1, 2, 0, 3] rfl ?_
          exact j33 _ ih _ _ _ h
  unfold fX11_moreThanHalf at h
  refine ww_lv (lv' := [(0, .ref (w.1 0)), (1, .int x1)]) rfl ?_
  refine ww_lconst (pc := 0) hC (v := (0 : Int64)) dX11_moreThanHalf_0 (by decide) ?_
  refine ww_lstore_n (pc := 1) hC [(2, .long ((0 : Int64))), (0, .ref (w.1 0)), (1, .int x1)] dX11_moreThanHalf_1 rfl (by decide) rfl ?_
  refine ww_iconst (pc := 2) hC (v := (0 : Int32)) dX11_moreThanHalf_2 (by decide) ?_
  refine ww_istore (pc := 3) hC [(4, .int ((0 : Int32))), (2, .long ((0 : Int64))), (0, .ref (w.1 0)), (1, .int x1)] dX11_moreThanHalf_3  (by decide) rfl ?_
  refine ww_sub [2, 3, 1, 0] rfl ?_
  exact j5 _ _ _ _ h
noncomputable def fX11_reckonOthers_31 (Z : XS) (k17 : Int32 → Int32 → Int32 → XD → Option (Unit × XD)) (n : Nat) : Int32 → Int32 → Int32 → Int32 → XD → Option (Unit × XD) := Nat.rec (motive := fun _ => Int32 → Int32 → Int32 → Int32 → XD → Option (Unit × XD)) (fun _ _ _ _ _ => none) (fun _ f => fun x1 x2 x3 x4 X => if x4 ≤ 0 then gin ((0 : Int32)) 5 (gin ((0 : Int32)) 5 (nm (wJ X 154 ((0 : Int32)).toNatClampNeg ((X.2 154 ((0 : Int32)).toNatClampNeg) * ((((100 : Int32)) - x1).toInt64))) (fun X_6 => nm (x3 + (1 : Int32)) (fun y7 => k17 x1 x2 y7 X_6)))) else gin x4 5 (gin (x4 - ((1 : Int32))) 5 (gin x4 5 (nm (wJ X 154 (x4).toNatClampNeg (((X.2 154 (x4).toNatClampNeg) * ((((100 : Int32)) - x1).toInt64)) + ((X.2 154 (x4 - ((1 : Int32))).toNatClampNeg) * x1.toInt64))) (fun X_8 => nm (x4 + (-1 : Int32)) (fun y9 => f x1 x2 x3 y9 X_8)))))) n
theorem fX11_reckonOthers_31_s (Z : XS) (k17 : Int32 → Int32 → Int32 → XD → Option (Unit × XD)) (n : Nat) (x1 : Int32) (x2 : Int32) (x3 : Int32) (x4 : Int32) (X : XD) : fX11_reckonOthers_31 Z k17 (n + 1) x1 x2 x3 x4 X = if x4 ≤ 0 then gin ((0 : Int32)) 5 (gin ((0 : Int32)) 5 (nm (wJ X 154 ((0 : Int32)).toNatClampNeg ((X.2 154 ((0 : Int32)).toNatClampNeg) * ((((100 : Int32)) - x1).toInt64))) (fun X_6 => nm (x3 + (1 : Int32)) (fun y7 => k17 x1 x2 y7 X_6)))) else gin x4 5 (gin (x4 - ((1 : Int32))) 5 (gin x4 5 (nm (wJ X 154 (x4).toNatClampNeg (((X.2 154 (x4).toNatClampNeg) * ((((100 : Int32)) - x1).toInt64)) + ((X.2 154 (x4 - ((1 : Int32))).toNatClampNeg) * x1.toInt64))) (fun X_8 => nm (x4 + (-1 : Int32)) (fun y9 => (fX11_reckonOthers_31 Z k17 n) x1 x2 x3 y9 X_8))))) := rfl
noncomputable def fX11_reckonOthers_17 (Z : XS) (n : Nat) : Int32 → Int32 → Int32 → XD → Option (Unit × XD) := Nat.rec (motive := fun _ => Int32 → Int32 → Int32 → XD → Option (Unit × XD)) (fun _ _ _ _ => none) (fun _ f => fun x1 x2 x3 X => if x2 ≤ x3 then some ((), X) else nm (((5 : Int32)) - ((1 : Int32))) (fun y5 => fX11_reckonOthers_31 Z (f) FU x1 x2 x3 y5 X)) n
theorem fX11_reckonOthers_17_s (Z : XS) (n : Nat) (x1 : Int32) (x2 : Int32) (x3 : Int32) (X : XD) : fX11_reckonOthers_17 Z (n + 1) x1 x2 x3 X = if x2 ≤ x3 then some ((), X) else nm (((5 : Int32)) - ((1 : Int32))) (fun y5 => fX11_reckonOthers_31 Z ((fX11_reckonOthers_17 Z n)) FU x1 x2 x3 y5 X) := rfl
noncomputable def fX11_reckonOthers (Z : XS) (x1 : Int32) (x2 : Int32) (X : XD) : Option (Unit × XD) := bnw (fJ7_fill_d0a16 Z 154 ((0 : Int64)) X) (fun _ X_3 => gin ((0 : Int32)) 5 (nm (wJ X_3 154 ((0 : Int32)).toNatClampNeg ((1 : Int64))) (fun X_4 => fX11_reckonOthers_17 Z FU x1 x2 ((0 : Int32)) X_4)))
set_option maxHeartbeats 40000000 in
set_option maxRecDepth 100000 in
theorem ceX11_reckonOthers {l : Launch} {E : XE} {w : XW} {z : Nat} {Z : XS}  (hL : LayC Z) {x1 : Int32} {x2 : Int32} {X X1 : XD} {r : Unit} (h : fX11_reckonOthers Z x1 x2 X = some (r, X1)) : Ct l E w yX11_reckonOthers (wsM yX11_reckonOthers cX11_reckonOthers 5 none) (rmX 2 0 0) 0 0 [.ref (w.1 0), .int x1, .int x2] z z Z Z X X1 none := by
  refine ct_of (by decide) (Nat.le_of_ble_eq_true rfl) ?_
  intro p e s m args below meth c hC hr hin hav
  have j31 : ∀ (k17 : Int32 → Int32 → Int32 → XD → Option (Unit × XD)) (hk17 : ∀ (x1 : Int32) (x2 : Int32) (x3 : Int32) (X : XD), k17 x1 x2 x3 X = some (r, X1) → WW p l e (rmX 2 0 0) s m args below meth c 5 (MQ below (XQ E w z Z X1 none) args s 0 0 (A0 E)) E w 0 0 z Z 17 [(0, .ref (w.1 0)), (1, .int x1), (2, .int x2), (3, .int x3)] [] X) (n : Nat), ∀ (x1 : Int32) (x2 : Int32) (x3 : Int32) (x4 : Int32) (X : XD), fX11_reckonOthers_31 Z k17 n x1 x2 x3 x4 X = some (r, X1) → WW p l e (rmX 2 0 0) s m args below meth c 5 (MQ below (XQ E w z Z X1 none) args s 0 0 (A0 E)) E w 0 0 z Z 31 [(0, .ref (w.1 0)), (1, .int x1), (2, .int x2), (3, .int x3), (4, .int x4)] [] X := by
    intro k17 hk17
    intro n
    induction n with
    | zero =>
      intro x1 x2 x3 x4 X h
      cases (show none = some (r, X1) from h)
    | succ n ih =>
      intro x1 x2 x3 x4 X h
      rw [fX11_reckonOthers_31_s] at h
      refine ww_iload (pc := 31) hC dX11_reckonOthers_31 4 rfl ?_
      refine ww_if_le (pc := 33) hC h 75 dX11_reckonOthers_33 (by decide) (fun h => ?_) (fun h => ?_)
      · refine ww_aload_n (pc := 75) hC dX11_reckonOthers_75 0 rfl ?_
        refine ww_getR (pc := 76) hC 11 14 154 hL.1 RX11 (by decide) (by decide) rfl (lay_11_14 hL).1 qf_X11_79 rfl dX11_reckonOthers_76 ?_
        refine ww_iconst (pc := 79) hC (v := (0 : Int32)) dX11_reckonOthers_79 (by decide) ?_
        refine ww_dup2_11 (pc := 80) hC dX11_reckonOthers_80 rfl rfl ?_
        refine ww_lald (pc := 81) hC ((lay_11_14 hL).2) h dX11_reckonOthers_81 (fun h => ?_)
        refine ww_bipush (pc := 82) hC (v := (100 : Int32)) dX11_reckonOthers_82 (by decide) ?_
        refine ww_iload_n (pc := 84) hC dX11_reckonOthers_84 1 rfl ?_
        refine ww_isub (pc := 85) hC dX11_reckonOthers_85 ?_
        refine ww_i2l (pc := 86) hC dX11_reckonOthers_86 ?_
        refine ww_lmul (pc := 87) hC dX11_reckonOthers_87 ?_
        refine ww_last (pc := 88) hC ((lay_11_14 hL).2) h dX11_reckonOthers_88 (fun h => ?_)
        obtain ⟨X_6, eX_6⟩ : ∃ q, q = wJ X 154 ((0 : Int32)).toNatClampNeg ((X.2 154 ((0 : Int32)).toNatClampNeg) * ((((100 : Int32)) - x1).toInt64)) := ⟨_, rfl⟩
        replace h := nm_i h eX_6
        refine ww_nmX eX_6 ?_
        obtain ⟨y7, ey7⟩ : ∃ q, q = x3 + (1 : Int32) := ⟨_, rfl⟩
        replace h := nm_i h ey7
        refine ww_iinc (pc := 89) hC y7 [(3, .int y7), (0, .ref (w.1 0)), (1, .int x1), (2, .int x2), (4, .int x4)] dX11_reckonOthers_89 3 rfl (by rw [ey7]; rfl) (by decide) rfl ?_
        refine ww_goto (pc := 92) hC 17 dX11_reckonOthers_92 (by decide) ?_
        refine ww_sub [1, 2, 3, 0] rfl ?_
        exact hk17 _ _ _ _ h
      · refine ww_aload_n (pc := 36) hC dX11_reckonOthers_36 0 rfl ?_
        refine ww_getR (pc := 37) hC 11 14 154 hL.1 RX11 (by decide) (by decide) rfl (lay_11_14 hL).1 qf_X11_79 rfl dX11_reckonOthers_37 ?_
        refine ww_iload (pc := 40) hC dX11_reckonOthers_40 4 rfl ?_
        refine ww_aload_n (pc := 42) hC dX11_reckonOthers_42 0 rfl ?_
        refine ww_getR (pc := 43) hC 11 14 154 hL.1 RX11 (by decide) (by decide) rfl (lay_11_14 hL).1 qf_X11_79 rfl dX11_reckonOthers_43 ?_
        refine ww_iload (pc := 46) hC dX11_reckonOthers_46 4 rfl ?_
        refine ww_lald (pc := 48) hC ((lay_11_14 hL).2) h dX11_reckonOthers_48 (fun h => ?_)
        refine ww_bipush (pc := 49) hC (v := (100 : Int32)) dX11_reckonOthers_49 (by decide) ?_
        refine ww_iload_n (pc := 51) hC dX11_reckonOthers_51 1 rfl ?_
        refine ww_isub (pc := 52) hC dX11_reckonOthers_52 ?_
        refine ww_i2l (pc := 53) hC dX11_reckonOthers_53 ?_
        refine ww_lmul (pc := 54) hC dX11_reckonOthers_54 ?_
        refine ww_aload_n (pc := 55) hC dX11_reckonOthers_55 0 rfl ?_
        refine ww_getR (pc := 56) hC 11 14 154 hL.1 RX11 (by decide) (by decide) rfl (lay_11_14 hL).1 qf_X11_79 rfl dX11_reckonOthers_56 ?_
        refine ww_iload (pc := 59) hC dX11_reckonOthers_59 4 rfl ?_
        refine ww_iconst (pc := 61) hC (v := (1 : Int32)) dX11_reckonOthers_61 (by decide) ?_
        refine ww_isub (pc := 62) hC dX11_reckonOthers_62 ?_
        refine ww_lald (pc := 63) hC ((lay_11_14 hL).2) h dX11_reckonOthers_63 (fun h => ?_)
        refine ww_iload_n (pc := 64) hC dX11_reckonOthers_64 1 rfl ?_
        refine ww_i2l (pc := 65) hC dX11_reckonOthers_65 ?_
        refine ww_lmul (pc := 66) hC dX11_reckonOthers_66 ?_
        refine ww_ladd (pc := 67) hC dX11_reckonOthers_67 ?_
        refine ww_last (pc := 68) hC ((lay_11_14 hL).2) h dX11_reckonOthers_68 (fun h => ?_)
        obtain ⟨X_8, eX_8⟩ : ∃ q, q = wJ X 154 (x4).toNatClampNeg (((X.2 154 (x4).toNatClampNeg) * ((((100 : Int32)) - x1).toInt64)) + ((X.2 154 (x4 - ((1 : Int32))).toNatClampNeg) * x1.toInt64)) := ⟨_, rfl⟩
        replace h := nm_i h eX_8
        refine ww_nmX eX_8 ?_
        obtain ⟨y9, ey9⟩ : ∃ q, q = x4 + (-1 : Int32) := ⟨_, rfl⟩
        replace h := nm_i h ey9
        refine ww_iinc (pc := 69) hC y9 [(4, .int y9), (0, .ref (w.1 0)), (1, .int x1), (2, .int x2), (3, .int x3)] dX11_reckonOthers_69 4 rfl (by rw [ey9]; rfl) (by decide) rfl ?_
        refine ww_goto (pc := 72) hC 31 dX11_reckonOthers_72 (by decide) ?_
        refine ww_sub [1, 2, 3, 4, 0] rfl ?_
        exact ih _ _ _ _ _ h
  have j17 : ∀ (n : Nat), ∀ (x1 : Int32) (x2 : Int32) (x3 : Int32) (X : XD), fX11_reckonOthers_17 Z n x1 x2 x3 X = some (r, X1) → WW p l e (rmX 2 0 0) s m args below meth c 5 (MQ below (XQ E w z Z X1 none) args s 0 0 (A0 E)) E w 0 0 z Z 17 [(0, .ref (w.1 0)), (1, .int x1), (2, .int x2), (3, .int x3)] [] X := by
    intro n
    induction n with
    | zero =>
      intro x1 x2 x3 X h
      cases (show none = some (r, X1) from h)
    | succ n ih =>
      intro x1 x2 x3 X h
      rw [fX11_reckonOthers_17_s] at h
      refine ww_iload_n (pc := 17) hC dX11_reckonOthers_17 3 rfl ?_
      refine ww_iload_n (pc := 18) hC dX11_reckonOthers_18 2 rfl ?_
      refine ww_icmp_ge (pc := 19) hC h 95 dX11_reckonOthers_19 (by decide) (fun h => ?_) (fun h => ?_)
      · exact ww_vret (pc := 95) hC hr h dX11_reckonOthers_95
      · refine ww_aload_n (pc := 22) hC dX11_reckonOthers_22 0 rfl ?_
        refine ww_getR (pc := 23) hC 11 14 154 hL.1 RX11 (by decide) (by decide) rfl (lay_11_14 hL).1 qf_X11_79 rfl dX11_reckonOthers_23 ?_
        refine ww_alen (pc := 26) hC ((5 : Int32)) ((lay_11_14 hL).2) (by decide) (by decide) rfl dX11_reckonOthers_26 ?_
        refine ww_iconst (pc := 27) hC (v := (1 : Int32)) dX11_reckonOthers_27 (by decide) ?_
        refine ww_isub (pc := 28) hC dX11_reckonOthers_28 ?_
        obtain ⟨y5, ey5⟩ : ∃ q, q = ((5 : Int32)) - ((1 : Int32)) := ⟨_, rfl⟩
        replace h := nm_i h ey5
        refine ww_nmi ey5 ?_
        refine ww_istore (pc := 29) hC [(4, .int y5), (0, .ref (w.1 0)), (1, .int x1), (2, .int x2), (3, .int x3)] dX11_reckonOthers_29  (by decide) rfl ?_
        refine ww_sub [1, 2, 3, 4, 0] rfl ?_
        exact j31 _ ih _ _ _ _ _ _ h
  unfold fX11_reckonOthers at h
  refine ww_lv (lv' := [(0, .ref (w.1 0)), (1, .int x1), (2, .int x2)]) rfl ?_
  refine ww_aload_n (pc := 0) hC dX11_reckonOthers_0 0 rfl ?_
  refine ww_getR (pc := 1) hC 11 14 154 hL.1 RX11 (by decide) (by decide) rfl (lay_11_14 hL).1 qf_X11_79 rfl dX11_reckonOthers_1 ?_
  refine ww_lconst (pc := 4) hC (v := (0 : Int64)) dX11_reckonOthers_4 (by decide) ?_
  obtain ⟨_, X_3, h1, h⟩ := bnw_i h
  refine ww_callSv (pc := 5) hC [.ref (w.1 154), .long ((0 : Int64))] (ceJ7_fill_d0a16 ⟨((lay_11_14 hL).2).1, ((lay_11_14 hL).2).2.1, rfl⟩ h1) ql_X11_276 qt_J7_fill_d0a16 qn_J7 qc_J7_fill_d0a16 ⟨by decide, by decide, rfl⟩ rfl ⟨Nat.le_of_ble_eq_true rfl, Nat.le_of_ble_eq_true rfl⟩ (by decide) (rest := []) (Nat.le_of_ble_eq_true rfl) dX11_reckonOthers_5 ⟨Nat.le_of_ble_eq_true rfl, Nat.le_of_ble_eq_true rfl⟩ rfl ?_
  refine ww_aload_n (pc := 8) hC dX11_reckonOthers_8 0 rfl ?_
  refine ww_getR (pc := 9) hC 11 14 154 hL.1 RX11 (by decide) (by decide) rfl (lay_11_14 hL).1 qf_X11_79 rfl dX11_reckonOthers_9 ?_
  refine ww_iconst (pc := 12) hC (v := (0 : Int32)) dX11_reckonOthers_12 (by decide) ?_
  refine ww_lconst (pc := 13) hC (v := (1 : Int64)) dX11_reckonOthers_13 (by decide) ?_
  refine ww_last (pc := 14) hC ((lay_11_14 hL).2) h dX11_reckonOthers_14 (fun h => ?_)
  obtain ⟨X_4, eX_4⟩ : ∃ q, q = wJ X_3 154 ((0 : Int32)).toNatClampNeg ((1 : Int64)) := ⟨_, rfl⟩
  replace h := nm_i h eX_4
  refine ww_nmX eX_4 ?_
  refine ww_iconst (pc := 15) hC (v := (0 : Int32)) dX11_reckonOthers_15 (by decide) ?_
  refine ww_istore_n (pc := 16) hC [(3, .int ((0 : Int32))), (0, .ref (w.1 0)), (1, .int x1), (2, .int x2)] dX11_reckonOthers_16 rfl (by decide) rfl ?_
  refine ww_sub [1, 2, 3, 0] rfl ?_
  exact j17 _ _ _ _ _ h
