noncomputable def fX11_worth (Z : XS) (x1 : Int32) (X : XD) : Option (Int32 × XD) := bnd (fX11_find Z x1 X) (fun r2 => mto r2 (some ((-1001 : Int32), X)) (fun t3 => bnw (fX11_look Z 47 t3 X) (fun _ X_6 => bnd (fV_X4_side Z t3 139 47 X_6) (fun r8 => bnd (fX9_chanceBy Z 139 r8 ((1 : Int32)) X_6) (fun r10 => bnd (fX9_chanceBy Z 139 r8 (X_6.1 139 2) X_6) (fun r12 => some (r10 - r12, X_6)))))))
set_option maxHeartbeats 40000000 in
set_option maxRecDepth 100000 in
theorem ceX11_worth {l : Launch} {E : XE} {w : XW} {z : Nat} {Z : XS}  (hL : LayC Z) {x1 : Int32} {X X1 : XD} {r : Int32} (h : fX11_worth Z x1 X = some (r, X1)) : Ct l E w yX11_worth (wsM yX11_worth cX11_worth 4 (some .int)) (rmX 6 0 0) 0 0 [.ref (w.1 0), .int x1] z z Z Z X X1 (some (.int r)) := by
  refine ct_of (by decide) (Nat.le_of_ble_eq_true rfl) ?_
  intro p e s m args below meth c hC hr hin hav
  unfold fX11_worth at h
  refine ww_lv (lv' := [(0, .ref (w.1 0)), (1, .int x1)]) rfl ?_
  refine ww_aload_n (pc := 0) hC dX11_worth_0 0 rfl ?_
  refine ww_iload_n (pc := 1) hC dX11_worth_1 1 rfl ?_
  obtain ⟨r2, h1, h⟩ := bnd_i h
  rcases r2 with _ | t3
  · replace h := mto_n h
    refine ww_callVn (pc := 2) hC [.int x1] hL.1.1 hL.1.2 (by decide) (ceX11_find hL h1) ql_X11_95 qi_X11_find qs_X11_X11_find qn_X11 qc_X11_find rfl ⟨by decide, by decide, rfl⟩ rfl ⟨Nat.le_of_ble_eq_true rfl, Nat.le_of_ble_eq_true rfl⟩ (by decide) (rest := []) (Nat.le_of_ble_eq_true rfl) dX11_worth_2 ⟨Nat.le_of_ble_eq_true rfl, Nat.le_of_ble_eq_true rfl⟩ rfl ?_
    refine ww_astore_nN (pc := 5) hC [(2, .null), (0, .ref (w.1 0)), (1, .int x1)] dX11_worth_5 rfl (by decide) rfl ?_
    refine ww_aload_nN (pc := 6) hC dX11_worth_6 0 rfl ?_
    refine ww_ifnonnullN (pc := 7) hC dX11_worth_7 ?_
    refine ww_sipush (pc := 10) hC (v := (-1001 : Int32)) dX11_worth_10 (by decide) ?_
    exact ww_iret (pc := 13) hC hr h dX11_worth_13
  · replace h := mto_s h
    have hkt3 : KS Z t3 := ks_find hL h1
    refine ww_callVr (pc := 2) hC [.int x1] hL.1.1 hL.1.2 (by decide) (ceX11_find hL h1) ql_X11_95 qi_X11_find qs_X11_X11_find qn_X11 qc_X11_find rfl ⟨by decide, by decide, rfl⟩ rfl ⟨Nat.le_of_ble_eq_true rfl, Nat.le_of_ble_eq_true rfl⟩ (by decide) (rest := []) (Nat.le_of_ble_eq_true rfl) dX11_worth_2 ⟨Nat.le_of_ble_eq_true rfl, Nat.le_of_ble_eq_true rfl⟩ rfl ?_
    refine ww_astore_n (pc := 5) hC [(2, .ref (w.1 t3)), (0, .ref (w.1 0)), (1, .int x1)] dX11_worth_5 rfl (by decide) rfl ?_
    refine ww_aload_n (pc := 6) hC dX11_worth_6 0 rfl ?_
    refine ww_ifnonnull (pc := 7) hC 14 dX11_worth_7 (by decide) ?_
    refine ww_aload_n (pc := 14) hC dX11_worth_14 1 rfl ?_
    refine ww_aload_n (pc := 15) hC dX11_worth_15 1 rfl ?_
    refine ww_getR (pc := 16) hC 11 4 47 hL.1 RX11 (by decide) (by decide) rfl (lay_11_4 hL).1 qf_X11_36 rfl dX11_worth_16 ?_
    refine ww_aload_n (pc := 19) hC dX11_worth_19 0 rfl ?_
    obtain ⟨_, X_6, h4, h⟩ := bnw_i h
    refine ww_callVv (pc := 20) hC [.ref (w.1 47), .ref (w.1 t3)] hL.1.1 hL.1.2 (by decide) (ceX11_look hL ((lay_11_4 hL).2) hkt3 h4) ql_X11_116 qi_X11_look qs_X11_X11_look qn_X11 qc_X11_look rfl ⟨by decide, by decide, rfl⟩ rfl ⟨Nat.le_of_ble_eq_true rfl, Nat.le_of_ble_eq_true rfl⟩ (by decide) (rest := []) (Nat.le_of_ble_eq_true rfl) dX11_worth_20 ⟨Nat.le_of_ble_eq_true rfl, Nat.le_of_ble_eq_true rfl⟩ rfl ?_
    refine ww_aload_n (pc := 23) hC dX11_worth_23 0 rfl ?_
    refine ww_aload_n (pc := 24) hC dX11_worth_24 1 rfl ?_
    refine ww_getR (pc := 25) hC 11 8 139 hL.1 RX11 (by decide) (by decide) rfl (lay_11_8 hL).1 qf_X11_50 rfl dX11_worth_25 ?_
    refine ww_aload_n (pc := 28) hC dX11_worth_28 1 rfl ?_
    refine ww_getR (pc := 29) hC 11 4 47 hL.1 RX11 (by decide) (by decide) rfl (lay_11_4 hL).1 qf_X11_36 rfl dX11_worth_29 ?_
    obtain ⟨r8, h7, h⟩ := bnd_i h
    refine vd_X4_side (pc := 32) hC hL hkt3 ((lay_11_8 hL).2) ((lay_11_4 hL).2) h7 ql_X11_173 ⟨Nat.le_of_ble_eq_true rfl, Nat.le_of_ble_eq_true rfl⟩ (Nat.le_of_ble_eq_true rfl) dX11_worth_32 ⟨Nat.le_of_ble_eq_true rfl, Nat.le_of_ble_eq_true rfl⟩ ?_
    refine ww_istore_n (pc := 35) hC [(3, .int r8), (2, .ref (w.1 t3)), (0, .ref (w.1 0)), (1, .int x1)] dX11_worth_35 rfl (by decide) rfl ?_
    refine ww_aload_n (pc := 36) hC dX11_worth_36 2 rfl ?_
    refine ww_getR (pc := 37) hC 11 8 139 hL.1 RX11 (by decide) (by decide) rfl (lay_11_8 hL).1 qf_X11_50 rfl dX11_worth_37 ?_
    refine ww_iload_n (pc := 40) hC dX11_worth_40 0 rfl ?_
    refine ww_iconst (pc := 41) hC (v := (1 : Int32)) dX11_worth_41 (by decide) ?_
    obtain ⟨r10, h9, h⟩ := bnd_i h
    refine ww_callVi (pc := 42) hC [.int r8, .int ((1 : Int32))] ((lay_11_8 hL).2).1 ((lay_11_8 hL).2).2 (by decide) (ceX9_chanceBy hL ((lay_11_8 hL).2) h9) ql_X11_167 qi_X9_chanceBy qs_X9_X9_chanceBy qn_X9 qc_X9_chanceBy rfl ⟨by decide, by decide, rfl⟩ rfl ⟨Nat.le_of_ble_eq_true rfl, Nat.le_of_ble_eq_true rfl⟩ (by decide) (rest := []) (Nat.le_of_ble_eq_true rfl) dX11_worth_42 ⟨Nat.le_of_ble_eq_true rfl, Nat.le_of_ble_eq_true rfl⟩ rfl ?_
    refine ww_aload_n (pc := 45) hC dX11_worth_45 2 rfl ?_
    refine ww_getR (pc := 46) hC 11 8 139 hL.1 RX11 (by decide) (by decide) rfl (lay_11_8 hL).1 qf_X11_50 rfl dX11_worth_46 ?_
    refine ww_iload_n (pc := 49) hC dX11_worth_49 0 rfl ?_
    refine ww_aload_n (pc := 50) hC dX11_worth_50 2 rfl ?_
    refine ww_getR (pc := 51) hC 11 8 139 hL.1 RX11 (by decide) (by decide) rfl (lay_11_8 hL).1 qf_X11_50 rfl dX11_worth_51 ?_
    refine ww_getI (pc := 54) hC 9 2 ((lay_11_8 hL).2) RX9 (by decide) (by decide) rfl qf_X11_177 (Or.inl rfl) dX11_worth_54 ?_
    obtain ⟨r12, h11, h⟩ := bnd_i h
    refine ww_callVi (pc := 57) hC [.int r8, .int (X_6.1 139 2)] ((lay_11_8 hL).2).1 ((lay_11_8 hL).2).2 (by decide) (ceX9_chanceBy hL ((lay_11_8 hL).2) h11) ql_X11_167 qi_X9_chanceBy qs_X9_X9_chanceBy qn_X9 qc_X9_chanceBy rfl ⟨by decide, by decide, rfl⟩ rfl ⟨Nat.le_of_ble_eq_true rfl, Nat.le_of_ble_eq_true rfl⟩ (by decide) (rest := [.int r10]) (Nat.le_of_ble_eq_true rfl) dX11_worth_57 ⟨Nat.le_of_ble_eq_true rfl, Nat.le_of_ble_eq_true rfl⟩ rfl ?_
    refine ww_isub (pc := 60) hC dX11_worth_60 ?_
    exact ww_iret (pc := 61) hC hr h dX11_worth_61
noncomputable def fX11_stop (Z : XS) (x1 : Int32) (X : XD) : Option (Int32 × XD) := bnd (fX11_find Z x1 X) (fun r2 => mto r2 (some ((-1001 : Int32), X)) (fun t3 => bnw (fX11_look Z 47 t3 X) (fun _ X_6 => bnd (fV_X4_side Z t3 139 47 X_6) (fun r8 => bnd (fX9_sideAway Z 139 X_6) (fun r10 => bnd (fX9_chanceBy Z 139 r10 (X_6.1 139 2) X_6) (fun r12 => bnd (fX9_chanceBy Z 139 r8 (X_6.1 139 2) X_6) (fun r14 => some (r12 - r14, X_6))))))))
set_option maxHeartbeats 40000000 in
set_option maxRecDepth 100000 in
theorem ceX11_stop {l : Launch} {E : XE} {w : XW} {z : Nat} {Z : XS}  (hL : LayC Z) {x1 : Int32} {X X1 : XD} {r : Int32} (h : fX11_stop Z x1 X = some (r, X1)) : Ct l E w yX11_stop (wsM yX11_stop cX11_stop 4 (some .int)) (rmX 6 0 0) 0 0 [.ref (w.1 0), .int x1] z z Z Z X X1 (some (.int r)) := by
  refine ct_of (by decide) (Nat.le_of_ble_eq_true rfl) ?_
  intro p e s m args below meth c hC hr hin hav
  unfold fX11_stop at h
  refine ww_lv (lv' := [(0, .ref (w.1 0)), (1, .int x1)]) rfl ?_
  refine ww_aload_n (pc := 0) hC dX11_stop_0 0 rfl ?_
  refine ww_iload_n (pc := 1) hC dX11_stop_1 1 rfl ?_
  obtain ⟨r2, h1, h⟩ := bnd_i h
  rcases r2 with _ | t3
  · replace h := mto_n h
    refine ww_callVn (pc := 2) hC [.int x1] hL.1.1 hL.1.2 (by decide) (ceX11_find hL h1) ql_X11_95 qi_X11_find qs_X11_X11_find qn_X11 qc_X11_find rfl ⟨by decide, by decide, rfl⟩ rfl ⟨Nat.le_of_ble_eq_true rfl, Nat.le_of_ble_eq_true rfl⟩ (by decide) (rest := []) (Nat.le_of_ble_eq_true rfl) dX11_stop_2 ⟨Nat.le_of_ble_eq_true rfl, Nat.le_of_ble_eq_true rfl⟩ rfl ?_
    refine ww_astore_nN (pc := 5) hC [(2, .null), (0, .ref (w.1 0)), (1, .int x1)] dX11_stop_5 rfl (by decide) rfl ?_
    refine ww_aload_nN (pc := 6) hC dX11_stop_6 0 rfl ?_
    refine ww_ifnonnullN (pc := 7) hC dX11_stop_7 ?_
    refine ww_sipush (pc := 10) hC (v := (-1001 : Int32)) dX11_stop_10 (by decide) ?_
    exact ww_iret (pc := 13) hC hr h dX11_stop_13
  · replace h := mto_s h
    have hkt3 : KS Z t3 := ks_find hL h1
    refine ww_callVr (pc := 2) hC [.int x1] hL.1.1 hL.1.2 (by decide) (ceX11_find hL h1) ql_X11_95 qi_X11_find qs_X11_X11_find qn_X11 qc_X11_find rfl ⟨by decide, by decide, rfl⟩ rfl ⟨Nat.le_of_ble_eq_true rfl, Nat.le_of_ble_eq_true rfl⟩ (by decide) (rest := []) (Nat.le_of_ble_eq_true rfl) dX11_stop_2 ⟨Nat.le_of_ble_eq_true rfl, Nat.le_of_ble_eq_true rfl⟩ rfl ?_
    refine ww_astore_n (pc := 5) hC [(2, .ref (w.1 t3)), (0, .ref (w.1 0)), (1, .int x1)] dX11_stop_5 rfl (by decide) rfl ?_
    refine ww_aload_n (pc := 6) hC dX11_stop_6 0 rfl ?_
    refine ww_ifnonnull (pc := 7) hC 14 dX11_stop_7 (by decide) ?_
    refine ww_aload_n (pc := 14) hC dX11_stop_14 1 rfl ?_
    refine ww_aload_n (pc := 15) hC dX11_stop_15 1 rfl ?_
    refine ww_getR (pc := 16) hC 11 4 47 hL.1 RX11 (by decide) (by decide) rfl (lay_11_4 hL).1 qf_X11_36 rfl dX11_stop_16 ?_
    refine ww_aload_n (pc := 19) hC dX11_stop_19 0 rfl ?_
    obtain ⟨_, X_6, h4, h⟩ := bnw_i h
    refine ww_callVv (pc := 20) hC [.ref (w.1 47), .ref (w.1 t3)] hL.1.1 hL.1.2 (by decide) (ceX11_look hL ((lay_11_4 hL).2) hkt3 h4) ql_X11_116 qi_X11_look qs_X11_X11_look qn_X11 qc_X11_look rfl ⟨by decide, by decide, rfl⟩ rfl ⟨Nat.le_of_ble_eq_true rfl, Nat.le_of_ble_eq_true rfl⟩ (by decide) (rest := []) (Nat.le_of_ble_eq_true rfl) dX11_stop_20 ⟨Nat.le_of_ble_eq_true rfl, Nat.le_of_ble_eq_true rfl⟩ rfl ?_
    refine ww_aload_n (pc := 23) hC dX11_stop_23 0 rfl ?_
    refine ww_aload_n (pc := 24) hC dX11_stop_24 1 rfl ?_
    refine ww_getR (pc := 25) hC 11 8 139 hL.1 RX11 (by decide) (by decide) rfl (lay_11_8 hL).1 qf_X11_50 rfl dX11_stop_25 ?_
    refine ww_aload_n (pc := 28) hC dX11_stop_28 1 rfl ?_
    refine ww_getR (pc := 29) hC 11 4 47 hL.1 RX11 (by decide) (by decide) rfl (lay_11_4 hL).1 qf_X11_36 rfl dX11_stop_29 ?_
    obtain ⟨r8, h7, h⟩ := bnd_i h
    refine vd_X4_side (pc := 32) hC hL hkt3 ((lay_11_8 hL).2) ((lay_11_4 hL).2) h7 ql_X11_173 ⟨Nat.le_of_ble_eq_true rfl, Nat.le_of_ble_eq_true rfl⟩ (Nat.le_of_ble_eq_true rfl) dX11_stop_32 ⟨Nat.le_of_ble_eq_true rfl, Nat.le_of_ble_eq_true rfl⟩ ?_
    refine ww_istore_n (pc := 35) hC [(3, .int r8), (2, .ref (w.1 t3)), (0, .ref (w.1 0)), (1, .int x1)] dX11_stop_35 rfl (by decide) rfl ?_
    refine ww_aload_n (pc := 36) hC dX11_stop_36 2 rfl ?_
    refine ww_getR (pc := 37) hC 11 8 139 hL.1 RX11 (by decide) (by decide) rfl (lay_11_8 hL).1 qf_X11_50 rfl dX11_stop_37 ?_
    refine ww_aload_n (pc := 40) hC dX11_stop_40 2 rfl ?_
    refine ww_getR (pc := 41) hC 11 8 139 hL.1 RX11 (by decide) (by decide) rfl (lay_11_8 hL).1 qf_X11_50 rfl dX11_stop_41 ?_
    obtain ⟨r10, h9, h⟩ := bnd_i h
    refine ww_callVi (pc := 44) hC [] ((lay_11_8 hL).2).1 ((lay_11_8 hL).2).2 (by decide) (ceX9_sideAway hL ((lay_11_8 hL).2) h9) ql_X11_216 qi_X9_sideAway qs_X9_X9_sideAway qn_X9 qc_X9_sideAway rfl ⟨by decide, by decide, rfl⟩ rfl ⟨Nat.le_of_ble_eq_true rfl, Nat.le_of_ble_eq_true rfl⟩ (by decide) (rest := [.ref (w.1 139)]) (Nat.le_of_ble_eq_true rfl) dX11_stop_44 ⟨Nat.le_of_ble_eq_true rfl, Nat.le_of_ble_eq_true rfl⟩ rfl ?_
    refine ww_aload_n (pc := 47) hC dX11_stop_47 2 rfl ?_
    refine ww_getR (pc := 48) hC 11 8 139 hL.1 RX11 (by decide) (by decide) rfl (lay_11_8 hL).1 qf_X11_50 rfl dX11_stop_48 ?_
    refine ww_getI (pc := 51) hC 9 2 ((lay_11_8 hL).2) RX9 (by decide) (by decide) rfl qf_X11_177 (Or.inl rfl) dX11_stop_51 ?_
    obtain ⟨r12, h11, h⟩ := bnd_i h
    refine ww_callVi (pc := 54) hC [.int r10, .int (X_6.1 139 2)] ((lay_11_8 hL).2).1 ((lay_11_8 hL).2).2 (by decide) (ceX9_chanceBy hL ((lay_11_8 hL).2) h11) ql_X11_167 qi_X9_chanceBy qs_X9_X9_chanceBy qn_X9 qc_X9_chanceBy rfl ⟨by decide, by decide, rfl⟩ rfl ⟨Nat.le_of_ble_eq_true rfl, Nat.le_of_ble_eq_true rfl⟩ (by decide) (rest := []) (Nat.le_of_ble_eq_true rfl) dX11_stop_54 ⟨Nat.le_of_ble_eq_true rfl, Nat.le_of_ble_eq_true rfl⟩ rfl ?_
    refine ww_aload_n (pc := 57) hC dX11_stop_57 2 rfl ?_
    refine ww_getR (pc := 58) hC 11 8 139 hL.1 RX11 (by decide) (by decide) rfl (lay_11_8 hL).1 qf_X11_50 rfl dX11_stop_58 ?_
    refine ww_iload_n (pc := 61) hC dX11_stop_61 0 rfl ?_
    refine ww_aload_n (pc := 62) hC dX11_stop_62 2 rfl ?_
    refine ww_getR (pc := 63) hC 11 8 139 hL.1 RX11 (by decide) (by decide) rfl (lay_11_8 hL).1 qf_X11_50 rfl dX11_stop_63 ?_
    refine ww_getI (pc := 66) hC 9 2 ((lay_11_8 hL).2) RX9 (by decide) (by decide) rfl qf_X11_177 (Or.inl rfl) dX11_stop_66 ?_
    obtain ⟨r14, h13, h⟩ := bnd_i h
    refine ww_callVi (pc := 69) hC [.int r8, .int (X_6.1 139 2)] ((lay_11_8 hL).2).1 ((lay_11_8 hL).2).2 (by decide) (ceX9_chanceBy hL ((lay_11_8 hL).2) h13) ql_X11_167 qi_X9_chanceBy qs_X9_X9_chanceBy qn_X9 qc_X9_chanceBy rfl ⟨by decide, by decide, rfl⟩ rfl ⟨Nat.le_of_ble_eq_true rfl, Nat.le_of_ble_eq_true rfl⟩ (by decide) (rest := [.int r12]) (Nat.le_of_ble_eq_true rfl) dX11_stop_69 ⟨Nat.le_of_ble_eq_true rfl, Nat.le_of_ble_eq_true rfl⟩ rfl ?_
    refine ww_isub (pc := 72) hC dX11_stop_72 ?_
    exact ww_iret (pc := 73) hC hr h dX11_stop_73
noncomputable def fX11_forget_96 (Z : XS) (k34 : Int32 → Int32 → Nat → Int32 → Int32 → Int32 → XD → Option (Int32 × XD)) (x1 : Int32) (x2 : Int32) (tL3 : Nat) (x5 : Int32) (x6 : Int32) (x7 : Int32) (X : XD) : Option (Int32 × XD) := nm (x7 + (1 : Int32)) (fun y19 => k34 x1 x2 tL3 x5 x6 y19 X)
noncomputable def fX11_forget_34 (Z : XS) (n : Nat) : Int32 → Int32 → Nat → Int32 → Int32 → Int32 → XD → Option (Int32 × XD) := Nat.rec (motive := fun _ => Int32 → Int32 → Nat → Int32 → Int32 → Int32 → XD → Option (Int32 × XD)) (fun _ _ _ _ _ _ _ => none) (fun _ f => fun x1 x2 tL3 x5 x6 x7 X => if ((3 : Int32)) < x7 then if x2 = 0 then some (x5, X) else some (x6, X) else bnw (fX6_setLast Z 74 x1 x7 X) (fun _ X_11 => bnw (fX11_look Z 74 tL3 X_11) (fun _ X_14 => bnd (fV_X4_side Z tL3 139 74 X_14) (fun r16 => bnd (fX9_chanceBy Z 139 r16 (X_14.1 139 2) X_14) (fun r18 => if r18 ≤ x6 then fX11_forget_96 Z (f) x1 x2 tL3 x5 x6 x7 X_14 else fX11_forget_96 Z (f) x1 x2 tL3 x7 r18 x7 X_14))))) n
theorem fX11_forget_34_s (Z : XS) (n : Nat) (x1 : Int32) (x2 : Int32) (tL3 : Nat) (x5 : Int32) (x6 : Int32) (x7 : Int32) (X : XD) : fX11_forget_34 Z (n + 1) x1 x2 tL3 x5 x6 x7 X = if ((3 : Int32)) < x7 then if x2 = 0 then some (x5, X) else some (x6, X) else bnw (fX6_setLast Z 74 x1 x7 X) (fun _ X_11 => bnw (fX11_look Z 74 tL3 X_11) (fun _ X_14 => bnd (fV_X4_side Z tL3 139 74 X_14) (fun r16 => bnd (fX9_chanceBy Z 139 r16 (X_14.1 139 2) X_14) (fun r18 => if r18 ≤ x6 then fX11_forget_96 Z ((fX11_forget_34 Z n)) x1 x2 tL3 x5 x6 x7 X_14 else fX11_forget_96 Z ((fX11_forget_34 Z n)) x1 x2 tL3 x7 r18 x7 X_14)))) := rfl
noncomputable def fX11_forget (Z : XS) (x1 : Int32) (x2 : Int32) (X : XD) : Option (Int32 × XD) := bnd (fX11_find Z x1 X) (fun r2 => mto r2 (some ((-1 : Int32), X)) (fun t3 => bnd (fX11_isHalf Z x2 X) (fun r5 => if r5 = 0 then some ((-1 : Int32), X) else bnw (fX11_supposed Z X) (fun _ X_8 => fX11_forget_34 Z FU x1 x2 t3 ((0 : Int32)) ((-1 : Int32)) ((0 : Int32)) X_8))))
set_option maxHeartbeats 40000000 in
set_option maxRecDepth 100000 in
theorem ceX11_forget {l : Launch} {E : XE} {w : XW} {z : Nat} {Z : XS}  (hL : LayC Z) {x1 : Int32} {x2 : Int32} {X X1 : XD} {r : Int32} (h : fX11_forget Z x1 x2 X = some (r, X1)) : Ct l E w yX11_forget (wsM yX11_forget cX11_forget 9 (some .int)) (rmX 6 0 0) 0 0 [.ref (w.1 0), .int x1, .int x2] z z Z Z X X1 (some (.int r)) := by
  refine ct_of (by decide) (Nat.le_of_ble_eq_true rfl) ?_
  intro p e s m args below meth c hC hr hin hav
  have j96 : ∀ (k34 : Int32 → Int32 → Nat → Int32 → Int32 → Int32 → XD → Option (Int32 × XD)) (hk34 : ∀ (x1 : Int32) (x2 : Int32) (tL3 : Nat) (h_tL3 : KS Z tL3) (x5 : Int32) (x6 : Int32) (x7 : Int32) (X : XD), k34 x1 x2 tL3 x5 x6 x7 X = some (r, X1) → WW p l e (rmX 6 0 0) s m args below meth c 9 (MQ below (XQ E w z Z X1 (some (.int r))) args s 0 0 (A0 E)) E w 0 0 z Z 34 [(0, .ref (w.1 0)), (1, .int x1), (2, .int x2), (3, .ref (w.1 tL3)), (4, .ref (w.1 74)), (5, .int x5), (6, .int x6), (7, .int x7)] [] X), ∀ (x1 : Int32) (x2 : Int32) (tL3 : Nat) (h_tL3 : KS Z tL3) (x5 : Int32) (x6 : Int32) (x7 : Int32) (X : XD), fX11_forget_96 Z k34 x1 x2 tL3 x5 x6 x7 X = some (r, X1) → WW p l e (rmX 6 0 0) s m args below meth c 9 (MQ below (XQ E w z Z X1 (some (.int r))) args s 0 0 (A0 E)) E w 0 0 z Z 96 [(0, .ref (w.1 0)), (1, .int x1), (2, .int x2), (3, .ref (w.1 tL3)), (4, .ref (w.1 74)), (5, .int x5), (6, .int x6), (7, .int x7)] [] X := by
    intro k34 hk34 x1 x2 tL3 h_tL3 x5 x6 x7 X h
    unfold fX11_forget_96 at h
    obtain ⟨y19, ey19⟩ : ∃ q, q = x7 + (1 : Int32) := ⟨_, rfl⟩
    replace h := nm_i h ey19
    refine ww_iinc (pc := 96) hC y19 [(7, .int y19), (0, .ref (w.1 0)), (1, .int x1), (2, .int x2), (3, .ref (w.1 tL3)), (4, .ref (w.1 74)), (5, .int x5), (6, .int x6)] dX11_forget_96 7 rfl (by rw [ey19]; rfl) (by decide) rfl ?_
    refine ww_goto (pc := 99) hC 34 dX11_forget_99 (by decide) ?_
    refine ww_sub [1, 2, 3, 4, 5, 6, 7, 0] rfl ?_
    exact hk34 _ _ _ h_tL3 _ _ _ _ h
  have j34 : ∀ (n : Nat), ∀ (x1 : Int32) (x2 : Int32) (tL3 : Nat) (h_tL3 : KS Z tL3) (x5 : Int32) (x6 : Int32) (x7 : Int32) (X : XD), fX11_forget_34 Z n x1 x2 tL3 x5 x6 x7 X = some (r, X1) → WW p l e (rmX 6 0 0) s m args below meth c 9 (MQ below (XQ E w z Z X1 (some (.int r))) args s 0 0 (A0 E)) E w 0 0 z Z 34 [(0, .ref (w.1 0)), (1, .int x1), (2, .int x2), (3, .ref (w.1 tL3)), (4, .ref (w.1 74)), (5, .int x5), (6, .int x6), (7, .int x7)] [] X := by
    intro n
    induction n with
    | zero =>
      intro x1 x2 tL3 h_tL3 x5 x6 x7 X h
      cases (show none = some (r, X1) from h)
    | succ n ih =>
      intro x1 x2 tL3 h_tL3 x5 x6 x7 X h
      rw [fX11_forget_34_s] at h
      refine ww_iload (pc := 34) hC dX11_forget_34 7 rfl ?_
      refine ww_iconst (pc := 36) hC (v := (3 : Int32)) dX11_forget_36 (by decide) ?_
      refine ww_icmp_gt (pc := 37) hC h 102 dX11_forget_37 (by decide) (fun h => ?_) (fun h => ?_)
      · refine ww_iload_n (pc := 102) hC dX11_forget_102 2 rfl ?_
        refine ww_if_ne (pc := 103) hC h 111 dX11_forget_103 (by decide) (fun h => ?_) (fun h => ?_)
        · refine ww_iload (pc := 111) hC dX11_forget_111 6 rfl ?_
          exact ww_iret (pc := 113) hC hr h dX11_forget_113
        · refine ww_iload (pc := 106) hC dX11_forget_106 5 rfl ?_
          refine ww_goto (pc := 108) hC 113 dX11_forget_108 (by decide) ?_
          exact ww_iret (pc := 113) hC hr h dX11_forget_113
      · refine ww_aload (pc := 40) hC dX11_forget_40 4 rfl ?_
        refine ww_iload_n (pc := 42) hC dX11_forget_42 1 rfl ?_
        refine ww_iload (pc := 43) hC dX11_forget_43 7 rfl ?_
        obtain ⟨_, X_11, h9, h⟩ := bnw_i h
        refine ww_callVv (pc := 45) hC [.int x1, .int x7] ((lay_kX11_supposed hL)).1 ((lay_kX11_supposed hL)).2 (by decide) (ceX6_setLast hL ((lay_kX11_supposed hL)) h9) ql_X11_124 qi_X6_setLast qs_X6_X6_setLast qn_X6 qc_X6_setLast rfl ⟨by decide, by decide, rfl⟩ rfl ⟨Nat.le_of_ble_eq_true rfl, Nat.le_of_ble_eq_true rfl⟩ (by decide) (rest := []) (Nat.le_of_ble_eq_true rfl) dX11_forget_45 ⟨Nat.le_of_ble_eq_true rfl, Nat.le_of_ble_eq_true rfl⟩ rfl ?_
        refine ww_aload_n (pc := 48) hC dX11_forget_48 0 rfl ?_
        refine ww_aload (pc := 49) hC dX11_forget_49 4 rfl ?_
        refine ww_aload_n (pc := 51) hC dX11_forget_51 3 rfl ?_
        obtain ⟨_, X_14, h12, h⟩ := bnw_i h
        refine ww_callVv (pc := 52) hC [.ref (w.1 74), .ref (w.1 tL3)] hL.1.1 hL.1.2 (by decide) (ceX11_look hL ((lay_kX11_supposed hL)) h_tL3 h12) ql_X11_116 qi_X11_look qs_X11_X11_look qn_X11 qc_X11_look rfl ⟨by decide, by decide, rfl⟩ rfl ⟨Nat.le_of_ble_eq_true rfl, Nat.le_of_ble_eq_true rfl⟩ (by decide) (rest := []) (Nat.le_of_ble_eq_true rfl) dX11_forget_52 ⟨Nat.le_of_ble_eq_true rfl, Nat.le_of_ble_eq_true rfl⟩ rfl ?_
        refine ww_aload_n (pc := 55) hC dX11_forget_55 0 rfl ?_
        refine ww_getR (pc := 56) hC 11 8 139 hL.1 RX11 (by decide) (by decide) rfl (lay_11_8 hL).1 qf_X11_50 rfl dX11_forget_56 ?_
        refine ww_aload_n (pc := 59) hC dX11_forget_59 3 rfl ?_
        refine ww_aload_n (pc := 60) hC dX11_forget_60 0 rfl ?_
        refine ww_getR (pc := 61) hC 11 8 139 hL.1 RX11 (by decide) (by decide) rfl (lay_11_8 hL).1 qf_X11_50 rfl dX11_forget_61 ?_
        refine ww_aload (pc := 64) hC dX11_forget_64 4 rfl ?_
        obtain ⟨r16, h15, h⟩ := bnd_i h
        refine vd_X4_side (pc := 66) hC hL h_tL3 ((lay_11_8 hL).2) ((lay_kX11_supposed hL)) h15 ql_X11_173 ⟨Nat.le_of_ble_eq_true rfl, Nat.le_of_ble_eq_true rfl⟩ (Nat.le_of_ble_eq_true rfl) dX11_forget_66 ⟨Nat.le_of_ble_eq_true rfl, Nat.le_of_ble_eq_true rfl⟩ ?_
        refine ww_aload_n (pc := 69) hC dX11_forget_69 0 rfl ?_
        refine ww_getR (pc := 70) hC 11 8 139 hL.1 RX11 (by decide) (by decide) rfl (lay_11_8 hL).1 qf_X11_50 rfl dX11_forget_70 ?_
        refine ww_getI (pc := 73) hC 9 2 ((lay_11_8 hL).2) RX9 (by decide) (by decide) rfl qf_X11_177 (Or.inl rfl) dX11_forget_73 ?_
        obtain ⟨r18, h17, h⟩ := bnd_i h
        refine ww_callVi (pc := 76) hC [.int r16, .int (X_14.1 139 2)] ((lay_11_8 hL).2).1 ((lay_11_8 hL).2).2 (by decide) (ceX9_chanceBy hL ((lay_11_8 hL).2) h17) ql_X11_167 qi_X9_chanceBy qs_X9_X9_chanceBy qn_X9 qc_X9_chanceBy rfl ⟨by decide, by decide, rfl⟩ rfl ⟨Nat.le_of_ble_eq_true rfl, Nat.le_of_ble_eq_true rfl⟩ (by decide) (rest := []) (Nat.le_of_ble_eq_true rfl) dX11_forget_76 ⟨Nat.le_of_ble_eq_true rfl, Nat.le_of_ble_eq_true rfl⟩ rfl ?_
        refine ww_istore (pc := 79) hC [(8, .int r18), (0, .ref (w.1 0)), (1, .int x1), (2, .int x2), (3, .ref (w.1 tL3)), (4, .ref (w.1 74)), (5, .int x5), (6, .int x6), (7, .int x7)] dX11_forget_79  (by decide) rfl ?_
        refine ww_iload (pc := 81) hC dX11_forget_81 0 rfl ?_
        refine ww_iload (pc := 83) hC dX11_forget_83 7 rfl ?_
        refine ww_icmp_le (pc := 85) hC h 96 dX11_forget_85 (by decide) (fun h => ?_) (fun h => ?_)
        · refine ww_sub [1, 2, 3, 4, 5, 6, 7, 8] rfl ?_
          exact j96 _ ih _ _ _ h_tL3 _ _ _ _ h
        · refine ww_iload (pc := 88) hC dX11_forget_88 0 rfl ?_
          refine ww_istore (pc := 90) hC [(6, .int r18), (8, .int r18), (0, .ref (w.1 0)), (1, .int x1), (2, .int x2), (3, .ref (w.1 tL3)), (4, .ref (w.1 74)), (5, .int x5), (7, .int x7)] dX11_forget_90  (by decide) rfl ?_
          refine ww_iload (pc := 92) hC dX11_forget_92 8 rfl ?_
          refine ww_istore (pc := 94) hC [(5, .int x7), (6, .int r18), (8, .int r18), (0, .ref (w.1 0)), (1, .int x1), (2, .int x2), (3, .ref (w.1 tL3)), (4, .ref (w.1 74)), (7, .int x7)] dX11_forget_94  (by decide) rfl ?_
          refine ww_sub [3, 4, 5, 6, 7, 0, 1, 8] rfl ?_
          exact j96 _ ih _ _ _ h_tL3 _ _ _ _ h
  unfold fX11_forget at h
  refine ww_lv (lv' := [(0, .ref (w.1 0)), (1, .int x1), (2, .int x2)]) rfl ?_
  refine ww_aload_n (pc := 0) hC dX11_forget_0 0 rfl ?_
  refine ww_iload_n (pc := 1) hC dX11_forget_1 1 rfl ?_
  obtain ⟨r2, h1, h⟩ := bnd_i h
  rcases r2 with _ | t3
  · replace h := mto_n h
    refine ww_callVn (pc := 2) hC [.int x1] hL.1.1 hL.1.2 (by decide) (ceX11_find hL h1) ql_X11_95 qi_X11_find qs_X11_X11_find qn_X11 qc_X11_find rfl ⟨by decide, by decide, rfl⟩ rfl ⟨Nat.le_of_ble_eq_true rfl, Nat.le_of_ble_eq_true rfl⟩ (by decide) (rest := []) (Nat.le_of_ble_eq_true rfl) dX11_forget_2 ⟨Nat.le_of_ble_eq_true rfl, Nat.le_of_ble_eq_true rfl⟩ rfl ?_
    refine ww_astore_nN (pc := 5) hC [(3, .null), (0, .ref (w.1 0)), (1, .int x1), (2, .int x2)] dX11_forget_5 rfl (by decide) rfl ?_
    refine ww_aload_nN (pc := 6) hC dX11_forget_6 0 rfl ?_
    refine ww_ifnullN (pc := 7) hC 17 dX11_forget_7 (by decide) ?_
    refine ww_iconst (pc := 17) hC (v := (-1 : Int32)) dX11_forget_17 (by decide) ?_
    exact ww_iret (pc := 18) hC hr h dX11_forget_18
  · replace h := mto_s h
    have hkt3 : KS Z t3 := ks_find hL h1
    refine ww_callVr (pc := 2) hC [.int x1] hL.1.1 hL.1.2 (by decide) (ceX11_find hL h1) ql_X11_95 qi_X11_find qs_X11_X11_find qn_X11 qc_X11_find rfl ⟨by decide, by decide, rfl⟩ rfl ⟨Nat.le_of_ble_eq_true rfl, Nat.le_of_ble_eq_true rfl⟩ (by decide) (rest := []) (Nat.le_of_ble_eq_true rfl) dX11_forget_2 ⟨Nat.le_of_ble_eq_true rfl, Nat.le_of_ble_eq_true rfl⟩ rfl ?_
    refine ww_astore_n (pc := 5) hC [(3, .ref (w.1 t3)), (0, .ref (w.1 0)), (1, .int x1), (2, .int x2)] dX11_forget_5 rfl (by decide) rfl ?_
    refine ww_aload_n (pc := 6) hC dX11_forget_6 0 rfl ?_
    refine ww_ifnull (pc := 7) hC dX11_forget_7 ?_
    refine ww_iload_n (pc := 10) hC dX11_forget_10 3 rfl ?_
    obtain ⟨r5, h4, h⟩ := bnd_i h
    refine ww_callSi (pc := 11) hC [.int x2] (ceX11_isHalf hL h4) ql_X11_184 qt_X11_isHalf qn_X11 qc_X11_isHalf ⟨by decide, by decide, rfl⟩ rfl ⟨Nat.le_of_ble_eq_true rfl, Nat.le_of_ble_eq_true rfl⟩ (by decide) (rest := []) (Nat.le_of_ble_eq_true rfl) dX11_forget_11 ⟨Nat.le_of_ble_eq_true rfl, Nat.le_of_ble_eq_true rfl⟩ rfl ?_
    refine ww_if_ne (pc := 14) hC h 19 dX11_forget_14 (by decide) (fun h => ?_) (fun h => ?_)
    · refine ww_aload_n (pc := 19) hC dX11_forget_19 1 rfl ?_
      obtain ⟨_, X_8, h6, h⟩ := bnw_i h
      refine ww_callVr (pc := 20) hC [] hL.1.1 hL.1.2 (by decide) (ceX11_supposed hL h6) ql_X11_219 qi_X11_supposed qs_X11_X11_supposed qn_X11 qc_X11_supposed rfl ⟨by decide, by decide, rfl⟩ rfl ⟨Nat.le_of_ble_eq_true rfl, Nat.le_of_ble_eq_true rfl⟩ (by decide) (rest := []) (Nat.le_of_ble_eq_true rfl) dX11_forget_20 ⟨Nat.le_of_ble_eq_true rfl, Nat.le_of_ble_eq_true rfl⟩ rfl ?_
      refine ww_astore (pc := 23) hC [(4, .ref (w.1 74)), (3, .ref (w.1 t3)), (0, .ref (w.1 0)), (1, .int x1), (2, .int x2)] dX11_forget_23  (by decide) rfl ?_
      refine ww_iconst (pc := 25) hC (v := (0 : Int32)) dX11_forget_25 (by decide) ?_
      refine ww_istore (pc := 26) hC [(5, .int ((0 : Int32))), (4, .ref (w.1 74)), (3, .ref (w.1 t3)), (0, .ref (w.1 0)), (1, .int x1), (2, .int x2)] dX11_forget_26  (by decide) rfl ?_
      refine ww_iconst (pc := 28) hC (v := (-1 : Int32)) dX11_forget_28 (by decide) ?_
      refine ww_istore (pc := 29) hC [(6, .int ((-1 : Int32))), (5, .int ((0 : Int32))), (4, .ref (w.1 74)), (3, .ref (w.1 t3)), (0, .ref (w.1 0)), (1, .int x1), (2, .int x2)] dX11_forget_29  (by decide) rfl ?_
      refine ww_iconst (pc := 31) hC (v := (0 : Int32)) dX11_forget_31 (by decide) ?_
      refine ww_istore (pc := 32) hC [(7, .int ((0 : Int32))), (6, .int ((-1 : Int32))), (5, .int ((0 : Int32))), (4, .ref (w.1 74)), (3, .ref (w.1 t3)), (0, .ref (w.1 0)), (1, .int x1), (2, .int x2)] dX11_forget_32  (by decide) rfl ?_
      refine ww_sub [5, 6, 7, 4, 3, 2, 1, 0] rfl ?_
      exact j34 _ _ _ _ hkt3 _ _ _ _ h
    · refine ww_iconst (pc := 17) hC (v := (-1 : Int32)) dX11_forget_17 (by decide) ?_
      exact ww_iret (pc := 18) hC hr h dX11_forget_18
noncomputable def fX11_caught_77 (Z : XS) (k37 : Int32 → Int32 → Nat → Int32 → Int32 → XD → Option (Int32 × XD)) (x1 : Int32) (x2 : Int32) (tL3 : Nat) (x5 : Int32) (x6 : Int32) (x7 : Int32) (X : XD) : Option (Int32 × XD) := bnw (fX6_addShot Z 74 x1 x7 ((0 : Int32)) X) (fun _ X_15 => nm (x6 + (1 : Int32)) (fun y16 => k37 x1 x2 tL3 x5 y16 X_15))
noncomputable def fX11_caught_37 (Z : XS) (n : Nat) : Int32 → Int32 → Nat → Int32 → Int32 → XD → Option (Int32 × XD) := Nat.rec (motive := fun _ => Int32 → Int32 → Nat → Int32 → Int32 → XD → Option (Int32 × XD)) (fun _ _ _ _ _ _ => none) (fun _ f => fun x1 x2 tL3 x5 x6 X => if x2 ≤ x6 then some (x5, X) else bnw (fX11_look Z 74 tL3 X) (fun _ X_9 => bnd (fV_X4_side Z tL3 139 74 X_9) (fun r11 => if r11 = (X_9.1 139 2) then nm (x5 + (1 : Int32)) (fun y12 => fX11_caught_77 Z (f) x1 x2 tL3 y12 x6 r11 X_9) else fX11_caught_77 Z (f) x1 x2 tL3 x5 x6 r11 X_9))) n
theorem fX11_caught_37_s (Z : XS) (n : Nat) (x1 : Int32) (x2 : Int32) (tL3 : Nat) (x5 : Int32) (x6 : Int32) (X : XD) : fX11_caught_37 Z (n + 1) x1 x2 tL3 x5 x6 X = if x2 ≤ x6 then some (x5, X) else bnw (fX11_look Z 74 tL3 X) (fun _ X_9 => bnd (fV_X4_side Z tL3 139 74 X_9) (fun r11 => if r11 = (X_9.1 139 2) then nm (x5 + (1 : Int32)) (fun y12 => fX11_caught_77 Z ((fX11_caught_37 Z n)) x1 x2 tL3 y12 x6 r11 X_9) else fX11_caught_77 Z ((fX11_caught_37 Z n)) x1 x2 tL3 x5 x6 r11 X_9)) := rfl
noncomputable def fX11_caught (Z : XS) (x1 : Int32) (x2 : Int32) (X : XD) : Option (Int32 × XD) := bnd (fX11_find Z x1 X) (fun r2 => mto r2 (some ((-1 : Int32), X)) (fun t3 => if x2 < 0 then some ((-2 : Int32), X) else if x2 ≤ ((20 : Int32)) then bnw (fX11_supposed Z X) (fun _ X_6 => fX11_caught_37 Z FU x1 x2 t3 ((0 : Int32)) ((0 : Int32)) X_6) else some ((-2 : Int32), X)))
set_option maxHeartbeats 40000000 in
set_option maxRecDepth 100000 in
theorem ceX11_caught {l : Launch} {E : XE} {w : XW} {z : Nat} {Z : XS}  (hL : LayC Z) {x1 : Int32} {x2 : Int32} {X X1 : XD} {r : Int32} (h : fX11_caught Z x1 x2 X = some (r, X1)) : Ct l E w yX11_caught (wsM yX11_caught cX11_caught 8 (some .int)) (rmX 6 0 0) 0 0 [.ref (w.1 0), .int x1, .int x2] z z Z Z X X1 (some (.int r)) := by
  refine ct_of (by decide) (Nat.le_of_ble_eq_true rfl) ?_
  intro p e s m args below meth c hC hr hin hav
  have j77 : ∀ (k37 : Int32 → Int32 → Nat → Int32 → Int32 → XD → Option (Int32 × XD)) (hk37 : ∀ (x1 : Int32) (x2 : Int32) (tL3 : Nat) (h_tL3 : KS Z tL3) (x5 : Int32) (x6 : Int32) (X : XD), k37 x1 x2 tL3 x5 x6 X = some (r, X1) → WW p l e (rmX 6 0 0) s m args below meth c 8 (MQ below (XQ E w z Z X1 (some (.int r))) args s 0 0 (A0 E)) E w 0 0 z Z 37 [(0, .ref (w.1 0)), (1, .int x1), (2, .int x2), (3, .ref (w.1 tL3)), (4, .ref (w.1 74)), (5, .int x5), (6, .int x6)] [] X), ∀ (x1 : Int32) (x2 : Int32) (tL3 : Nat) (h_tL3 : KS Z tL3) (x5 : Int32) (x6 : Int32) (x7 : Int32) (X : XD), fX11_caught_77 Z k37 x1 x2 tL3 x5 x6 x7 X = some (r, X1) → WW p l e (rmX 6 0 0) s m args below meth c 8 (MQ below (XQ E w z Z X1 (some (.int r))) args s 0 0 (A0 E)) E w 0 0 z Z 77 [(0, .ref (w.1 0)), (1, .int x1), (2, .int x2), (3, .ref (w.1 tL3)), (4, .ref (w.1 74)), (5, .int x5), (6, .int x6), (7, .int x7)] [] X := by
    intro k37 hk37 x1 x2 tL3 h_tL3 x5 x6 x7 X h
    unfold fX11_caught_77 at h
    refine ww_aload (pc := 77) hC dX11_caught_77 4 rfl ?_
    refine ww_iload_n (pc := 79) hC dX11_caught_79 1 rfl ?_
    refine ww_iload (pc := 80) hC dX11_caught_80 7 rfl ?_
    refine ww_iconst (pc := 82) hC (v := (0 : Int32)) dX11_caught_82 (by decide) ?_
    obtain ⟨_, X_15, h13, h⟩ := bnw_i h
    refine ww_callVv (pc := 83) hC [.int x1, .int x7, .int ((0 : Int32))] ((lay_kX11_supposed hL)).1 ((lay_kX11_supposed hL)).2 (by decide) (ceX6_addShot hL ((lay_kX11_supposed hL)) h13) ql_X11_180 qi_X6_addShot qs_X6_X6_addShot qn_X6 qc_X6_addShot rfl ⟨by decide, by decide, rfl⟩ rfl ⟨Nat.le_of_ble_eq_true rfl, Nat.le_of_ble_eq_true rfl⟩ (by decide) (rest := []) (Nat.le_of_ble_eq_true rfl) dX11_caught_83 ⟨Nat.le_of_ble_eq_true rfl, Nat.le_of_ble_eq_true rfl⟩ rfl ?_
    obtain ⟨y16, ey16⟩ : ∃ q, q = x6 + (1 : Int32) := ⟨_, rfl⟩
    replace h := nm_i h ey16
    refine ww_iinc (pc := 86) hC y16 [(6, .int y16), (0, .ref (w.1 0)), (1, .int x1), (2, .int x2), (3, .ref (w.1 tL3)), (4, .ref (w.1 74)), (5, .int x5), (7, .int x7)] dX11_caught_86 6 rfl (by rw [ey16]; rfl) (by decide) rfl ?_
    refine ww_goto (pc := 89) hC 37 dX11_caught_89 (by decide) ?_
    refine ww_sub [1, 2, 3, 4, 5, 6, 0] rfl ?_
    exact hk37 _ _ _ h_tL3 _ _ _ h
  have j37 : ∀ (n : Nat), ∀ (x1 : Int32) (x2 : Int32) (tL3 : Nat) (h_tL3 : KS Z tL3) (x5 : Int32) (x6 : Int32) (X : XD), fX11_caught_37 Z n x1 x2 tL3 x5 x6 X = some (r, X1) → WW p l e (rmX 6 0 0) s m args below meth c 8 (MQ below (XQ E w z Z X1 (some (.int r))) args s 0 0 (A0 E)) E w 0 0 z Z 37 [(0, .ref (w.1 0)), (1, .int x1), (2, .int x2), (3, .ref (w.1 tL3)), (4, .ref (w.1 74)), (5, .int x5), (6, .int x6)] [] X := by
    intro n
    induction n with
    | zero =>
      intro x1 x2 tL3 h_tL3 x5 x6 X h
      cases (show none = some (r, X1) from h)
    | succ n ih =>
      intro x1 x2 tL3 h_tL3 x5 x6 X h
      rw [fX11_caught_37_s] at h
      refine ww_iload (pc := 37) hC dX11_caught_37 6 rfl ?_
      refine ww_iload_n (pc := 39) hC dX11_caught_39 2 rfl ?_
      refine ww_icmp_ge (pc := 40) hC h 92 dX11_caught_40 (by decide) (fun h => ?_) (fun h => ?_)
      · refine ww_iload (pc := 92) hC dX11_caught_92 5 rfl ?_
        exact ww_iret (pc := 94) hC hr h dX11_caught_94
      · refine ww_aload_n (pc := 43) hC dX11_caught_43 0 rfl ?_
        refine ww_aload (pc := 44) hC dX11_caught_44 4 rfl ?_
        refine ww_aload_n (pc := 46) hC dX11_caught_46 3 rfl ?_
        obtain ⟨_, X_9, h7, h⟩ := bnw_i h
        refine ww_callVv (pc := 47) hC [.ref (w.1 74), .ref (w.1 tL3)] hL.1.1 hL.1.2 (by decide) (ceX11_look hL ((lay_kX11_supposed hL)) h_tL3 h7) ql_X11_116 qi_X11_look qs_X11_X11_look qn_X11 qc_X11_look rfl ⟨by decide, by decide, rfl⟩ rfl ⟨Nat.le_of_ble_eq_true rfl, Nat.le_of_ble_eq_true rfl⟩ (by decide) (rest := []) (Nat.le_of_ble_eq_true rfl) dX11_caught_47 ⟨Nat.le_of_ble_eq_true rfl, Nat.le_of_ble_eq_true rfl⟩ rfl ?_
        refine ww_aload_n (pc := 50) hC dX11_caught_50 3 rfl ?_
        refine ww_aload_n (pc := 51) hC dX11_caught_51 0 rfl ?_
        refine ww_getR (pc := 52) hC 11 8 139 hL.1 RX11 (by decide) (by decide) rfl (lay_11_8 hL).1 qf_X11_50 rfl dX11_caught_52 ?_
        refine ww_aload (pc := 55) hC dX11_caught_55 4 rfl ?_
        obtain ⟨r11, h10, h⟩ := bnd_i h
        refine vd_X4_side (pc := 57) hC hL h_tL3 ((lay_11_8 hL).2) ((lay_kX11_supposed hL)) h10 ql_X11_173 ⟨Nat.le_of_ble_eq_true rfl, Nat.le_of_ble_eq_true rfl⟩ (Nat.le_of_ble_eq_true rfl) dX11_caught_57 ⟨Nat.le_of_ble_eq_true rfl, Nat.le_of_ble_eq_true rfl⟩ ?_
        refine ww_istore (pc := 60) hC [(7, .int r11), (0, .ref (w.1 0)), (1, .int x1), (2, .int x2), (3, .ref (w.1 tL3)), (4, .ref (w.1 74)), (5, .int x5), (6, .int x6)] dX11_caught_60  (by decide) rfl ?_
        refine ww_iload (pc := 62) hC dX11_caught_62 0 rfl ?_
        refine ww_aload_n (pc := 64) hC dX11_caught_64 1 rfl ?_
        refine ww_getR (pc := 65) hC 11 8 139 hL.1 RX11 (by decide) (by decide) rfl (lay_11_8 hL).1 qf_X11_50 rfl dX11_caught_65 ?_
        refine ww_getI (pc := 68) hC 9 2 ((lay_11_8 hL).2) RX9 (by decide) (by decide) rfl qf_X11_177 (Or.inl rfl) dX11_caught_68 ?_
        refine ww_icmp_ne (pc := 71) hC h 77 dX11_caught_71 (by decide) (fun h => ?_) (fun h => ?_)
        · refine ww_sub [1, 2, 3, 4, 5, 6, 7, 0] rfl ?_
          exact j77 _ ih _ _ _ h_tL3 _ _ _ _ h
        · obtain ⟨y12, ey12⟩ : ∃ q, q = x5 + (1 : Int32) := ⟨_, rfl⟩
          replace h := nm_i h ey12
          refine ww_iinc (pc := 74) hC y12 [(5, .int y12), (7, .int r11), (0, .ref (w.1 0)), (1, .int x1), (2, .int x2), (3, .ref (w.1 tL3)), (4, .ref (w.1 74)), (6, .int x6)] dX11_caught_74 6 rfl (by rw [ey12]; rfl) (by decide) rfl ?_
          refine ww_sub [2, 3, 4, 5, 6, 0, 7, 1] rfl ?_
          exact j77 _ ih _ _ _ h_tL3 _ _ _ _ h
  unfold fX11_caught at h
  refine ww_lv (lv' := [(0, .ref (w.1 0)), (1, .int x1), (2, .int x2)]) rfl ?_
  refine ww_aload_n (pc := 0) hC dX11_caught_0 0 rfl ?_
  refine ww_iload_n (pc := 1) hC dX11_caught_1 1 rfl ?_
  obtain ⟨r2, h1, h⟩ := bnd_i h
  rcases r2 with _ | t3
  · replace h := mto_n h
    refine ww_callVn (pc := 2) hC [.int x1] hL.1.1 hL.1.2 (by decide) (ceX11_find hL h1) ql_X11_95 qi_X11_find qs_X11_X11_find qn_X11 qc_X11_find rfl ⟨by decide, by decide, rfl⟩ rfl ⟨Nat.le_of_ble_eq_true rfl, Nat.le_of_ble_eq_true rfl⟩ (by decide) (rest := []) (Nat.le_of_ble_eq_true rfl) dX11_caught_2 ⟨Nat.le_of_ble_eq_true rfl, Nat.le_of_ble_eq_true rfl⟩ rfl ?_
    refine ww_astore_nN (pc := 5) hC [(3, .null), (0, .ref (w.1 0)), (1, .int x1), (2, .int x2)] dX11_caught_5 rfl (by decide) rfl ?_
    refine ww_aload_nN (pc := 6) hC dX11_caught_6 0 rfl ?_
    refine ww_ifnonnullN (pc := 7) hC dX11_caught_7 ?_
    refine ww_iconst (pc := 10) hC (v := (-1 : Int32)) dX11_caught_10 (by decide) ?_
    exact ww_iret (pc := 11) hC hr h dX11_caught_11
  · replace h := mto_s h
    have hkt3 : KS Z t3 := ks_find hL h1
    refine ww_callVr (pc := 2) hC [.int x1] hL.1.1 hL.1.2 (by decide) (ceX11_find hL h1) ql_X11_95 qi_X11_find qs_X11_X11_find qn_X11 qc_X11_find rfl ⟨by decide, by decide, rfl⟩ rfl ⟨Nat.le_of_ble_eq_true rfl, Nat.le_of_ble_eq_true rfl⟩ (by decide) (rest := []) (Nat.le_of_ble_eq_true rfl) dX11_caught_2 ⟨Nat.le_of_ble_eq_true rfl, Nat.le_of_ble_eq_true rfl⟩ rfl ?_
    refine ww_astore_n (pc := 5) hC [(3, .ref (w.1 t3)), (0, .ref (w.1 0)), (1, .int x1), (2, .int x2)] dX11_caught_5 rfl (by decide) rfl ?_
    refine ww_aload_n (pc := 6) hC dX11_caught_6 0 rfl ?_
    refine ww_ifnonnull (pc := 7) hC 12 dX11_caught_7 (by decide) ?_
    refine ww_iload_n (pc := 12) hC dX11_caught_12 3 rfl ?_
    refine ww_if_lt (pc := 13) hC h 22 dX11_caught_13 (by decide) (fun h => ?_) (fun h => ?_)
    · refine ww_bipush (pc := 22) hC (v := (-2 : Int32)) dX11_caught_22 (by decide) ?_
      exact ww_iret (pc := 24) hC hr h dX11_caught_24
    · refine ww_iload_n (pc := 16) hC dX11_caught_16 3 rfl ?_
      refine ww_bipush (pc := 17) hC (v := (20 : Int32)) dX11_caught_17 (by decide) ?_
      refine ww_icmp_le (pc := 19) hC h 25 dX11_caught_19 (by decide) (fun h => ?_) (fun h => ?_)
      · refine ww_aload_n (pc := 25) hC dX11_caught_25 1 rfl ?_
        obtain ⟨_, X_6, h4, h⟩ := bnw_i h
        refine ww_callVr (pc := 26) hC [] hL.1.1 hL.1.2 (by decide) (ceX11_supposed hL h4) ql_X11_219 qi_X11_supposed qs_X11_X11_supposed qn_X11 qc_X11_supposed rfl ⟨by decide, by decide, rfl⟩ rfl ⟨Nat.le_of_ble_eq_true rfl, Nat.le_of_ble_eq_true rfl⟩ (by decide) (rest := []) (Nat.le_of_ble_eq_true rfl) dX11_caught_26 ⟨Nat.le_of_ble_eq_true rfl, Nat.le_of_ble_eq_true rfl⟩ rfl ?_
        refine ww_astore (pc := 29) hC [(4, .ref (w.1 74)), (3, .ref (w.1 t3)), (0, .ref (w.1 0)), (1, .int x1), (2, .int x2)] dX11_caught_29  (by decide) rfl ?_
        refine ww_iconst (pc := 31) hC (v := (0 : Int32)) dX11_caught_31 (by decide) ?_
        refine ww_istore (pc := 32) hC [(5, .int ((0 : Int32))), (4, .ref (w.1 74)), (3, .ref (w.1 t3)), (0, .ref (w.1 0)), (1, .int x1), (2, .int x2)] dX11_caught_32  (by decide) rfl ?_
        refine ww_iconst (pc := 34) hC (v := (0 : Int32)) dX11_caught_34 (by decide) ?_
        refine ww_istore (pc := 35) hC [(6, .int ((0 : Int32))), (5, .int ((0 : Int32))), (4, .ref (w.1 74)), (3, .ref (w.1 t3)), (0, .ref (w.1 0)), (1, .int x1), (2, .int x2)] dX11_caught_35  (by decide) rfl ?_
        refine ww_sub [4, 5, 6, 3, 2, 1, 0] rfl ?_
        exact j37 _ _ _ _ hkt3 _ _ _ h
      · refine ww_bipush (pc := 22) hC (v := (-2 : Int32)) dX11_caught_22 (by decide) ?_
        exact ww_iret (pc := 24) hC hr h dX11_caught_24
noncomputable def fX11_see (Z : XS) (x1 : Int32) (X : XD) : Option (Int32 × XD) := if x1 = ((-1 : Int32)) then bnw (fX3_clear Z 54 X) (fun r7 X_8 => some (r7, X_8)) else bnd (fX11_isSide Z x1 X) (fun r2 => if r2 = 0 then some ((-1 : Int32), X) else bnw (fX3_add Z 54 x1 X) (fun r4 X_5 => if r4 = 0 then some ((-4 : Int32), X_5) else some (X_5.1 54 1, X_5)))
set_option maxHeartbeats 40000000 in
set_option maxRecDepth 100000 in
theorem ceX11_see {l : Launch} {E : XE} {w : XW} {z : Nat} {Z : XS}  (hL : LayC Z) {x1 : Int32} {X X1 : XD} {r : Int32} (h : fX11_see Z x1 X = some (r, X1)) : Ct l E w yX11_see (wsM yX11_see cX11_see 2 (some .int)) (rmX 2 0 0) 0 0 [.ref (w.1 0), .int x1] z z Z Z X X1 (some (.int r)) := by
  refine ct_of (by decide) (Nat.le_of_ble_eq_true rfl) ?_
  intro p e s m args below meth c hC hr hin hav
  unfold fX11_see at h
  refine ww_lv (lv' := [(0, .ref (w.1 0)), (1, .int x1)]) rfl ?_
  refine ww_iload_n (pc := 0) hC dX11_see_0 1 rfl ?_
  refine ww_iconst (pc := 1) hC (v := (-1 : Int32)) dX11_see_1 (by decide) ?_
  refine ww_icmp_ne (pc := 2) hC h 16 dX11_see_2 (by decide) (fun h => ?_) (fun h => ?_)
  · refine ww_iload_n (pc := 16) hC dX11_see_16 1 rfl ?_
    obtain ⟨r2, h1, h⟩ := bnd_i h
    refine ww_callSi (pc := 17) hC [.int x1] (ceX11_isSide hL h1) ql_X11_128 qt_X11_isSide qn_X11 qc_X11_isSide ⟨by decide, by decide, rfl⟩ rfl ⟨Nat.le_of_ble_eq_true rfl, Nat.le_of_ble_eq_true rfl⟩ (by decide) (rest := []) (Nat.le_of_ble_eq_true rfl) dX11_see_17 ⟨Nat.le_of_ble_eq_true rfl, Nat.le_of_ble_eq_true rfl⟩ rfl ?_
    refine ww_if_ne (pc := 20) hC h 25 dX11_see_20 (by decide) (fun h => ?_) (fun h => ?_)
    · refine ww_aload_n (pc := 25) hC dX11_see_25 0 rfl ?_
      refine ww_getR (pc := 26) hC 11 4 47 hL.1 RX11 (by decide) (by decide) rfl (lay_11_4 hL).1 qf_X11_36 rfl dX11_see_26 ?_
      refine ww_getR (pc := 29) hC 6 9 54 ((lay_11_4 hL).2) RX6 (by decide) (by decide) rfl (lay_6_9 hL ((lay_11_4 hL).2)).1 qf_X11_223 rfl dX11_see_29 ?_
      refine ww_iload_n (pc := 32) hC dX11_see_32 1 rfl ?_
      obtain ⟨r4, X_5, h3, h⟩ := bnw_i h
      refine ww_callVi (pc := 33) hC [.int x1] ((lay_6_9 hL ((lay_11_4 hL).2)).2).1 ((lay_6_9 hL ((lay_11_4 hL).2)).2).2 (by decide) (ceX3_add hL ((lay_6_9 hL ((lay_11_4 hL).2)).2) h3) ql_X11_142 qi_X3_add qs_X3_X3_add qn_X3 qc_X3_add rfl ⟨by decide, by decide, rfl⟩ rfl ⟨Nat.le_of_ble_eq_true rfl, Nat.le_of_ble_eq_true rfl⟩ (by decide) (rest := []) (Nat.le_of_ble_eq_true rfl) dX11_see_33 ⟨Nat.le_of_ble_eq_true rfl, Nat.le_of_ble_eq_true rfl⟩ rfl ?_
      refine ww_if_eq (pc := 36) hC h 52 dX11_see_36 (by decide) (fun h => ?_) (fun h => ?_)
      · refine ww_bipush (pc := 52) hC (v := (-4 : Int32)) dX11_see_52 (by decide) ?_
        exact ww_iret (pc := 54) hC hr h dX11_see_54
      · refine ww_aload_n (pc := 39) hC dX11_see_39 0 rfl ?_
        refine ww_getR (pc := 40) hC 11 4 47 hL.1 RX11 (by decide) (by decide) rfl (lay_11_4 hL).1 qf_X11_36 rfl dX11_see_40 ?_
        refine ww_getR (pc := 43) hC 6 9 54 ((lay_11_4 hL).2) RX6 (by decide) (by decide) rfl (lay_6_9 hL ((lay_11_4 hL).2)).1 qf_X11_223 rfl dX11_see_43 ?_
        refine ww_getI (pc := 46) hC 3 1 ((lay_6_9 hL ((lay_11_4 hL).2)).2) RX3 (by decide) (by decide) rfl qf_X11_145 (Or.inl rfl) dX11_see_46 ?_
        refine ww_goto (pc := 49) hC 54 dX11_see_49 (by decide) ?_
        exact ww_iret (pc := 54) hC hr h dX11_see_54
    · refine ww_iconst (pc := 23) hC (v := (-1 : Int32)) dX11_see_23 (by decide) ?_
      exact ww_iret (pc := 24) hC hr h dX11_see_24
  · refine ww_aload_n (pc := 5) hC dX11_see_5 0 rfl ?_
    refine ww_getR (pc := 6) hC 11 4 47 hL.1 RX11 (by decide) (by decide) rfl (lay_11_4 hL).1 qf_X11_36 rfl dX11_see_6 ?_
    refine ww_getR (pc := 9) hC 6 9 54 ((lay_11_4 hL).2) RX6 (by decide) (by decide) rfl (lay_6_9 hL ((lay_11_4 hL).2)).1 qf_X11_223 rfl dX11_see_9 ?_
    obtain ⟨r7, X_8, h6, h⟩ := bnw_i h
    refine ww_callVi (pc := 12) hC [] ((lay_6_9 hL ((lay_11_4 hL).2)).2).1 ((lay_6_9 hL ((lay_11_4 hL).2)).2).2 (by decide) (ceX3_clear hL ((lay_6_9 hL ((lay_11_4 hL).2)).2) h6) ql_X11_155 qi_X3_clear qs_X3_X3_clear qn_X3 qc_X3_clear rfl ⟨by decide, by decide, rfl⟩ rfl ⟨Nat.le_of_ble_eq_true rfl, Nat.le_of_ble_eq_true rfl⟩ (by decide) (rest := []) (Nat.le_of_ble_eq_true rfl) dX11_see_12 ⟨Nat.le_of_ble_eq_true rfl, Nat.le_of_ble_eq_true rfl⟩ rfl ?_
    exact ww_iret (pc := 15) hC hr h dX11_see_15
noncomputable def fX11_goesAsSeen_7 (Z : XS) (a1 : Nat) (n : Nat) : Int32 → XD → Option (Int32 × XD) := Nat.rec (motive := fun _ => Int32 → XD → Option (Int32 × XD)) (fun _ _ => none) (fun _ f => fun x3 X => if (X.1 54 1) ≤ x3 then some ((1 : Int32), X) else bnw (fX11_look Z 74 a1 X) (fun _ X_6 => bnd (fV_X4_side Z a1 139 74 X_6) (fun r8 => bnd (fX3_at Z 54 x3 X_6) (fun r10 => if r8 = r10 then bnw (fX6_addShot Z 74 (X_6.1 a1 0) r8 ((0 : Int32)) X_6) (fun _ X_13 => nm (x3 + (1 : Int32)) (fun y14 => f y14 X_13)) else some ((0 : Int32), X_6))))) n
theorem fX11_goesAsSeen_7_s (Z : XS) (a1 : Nat) (n : Nat) (x3 : Int32) (X : XD) : fX11_goesAsSeen_7 Z a1 (n + 1) x3 X = if (X.1 54 1) ≤ x3 then some ((1 : Int32), X) else bnw (fX11_look Z 74 a1 X) (fun _ X_6 => bnd (fV_X4_side Z a1 139 74 X_6) (fun r8 => bnd (fX3_at Z 54 x3 X_6) (fun r10 => if r8 = r10 then bnw (fX6_addShot Z 74 (X_6.1 a1 0) r8 ((0 : Int32)) X_6) (fun _ X_13 => nm (x3 + (1 : Int32)) (fun y14 => (fX11_goesAsSeen_7 Z a1 n) y14 X_13)) else some ((0 : Int32), X_6)))) := rfl
noncomputable def fX11_goesAsSeen (Z : XS) (a1 : Nat) (X : XD) : Option (Int32 × XD) := bnw (fX11_supposed Z X) (fun _ X_3 => fX11_goesAsSeen_7 Z a1 FU ((0 : Int32)) X_3)
set_option maxHeartbeats 40000000 in
set_option maxRecDepth 100000 in
theorem ceX11_goesAsSeen {l : Launch} {E : XE} {w : XW} {z : Nat} {Z : XS}  (hL : LayC Z) {a1 : Nat} (h_a1 : KS Z a1) {X X1 : XD} {r : Int32} (h : fX11_goesAsSeen Z a1 X = some (r, X1)) : Ct l E w yX11_goesAsSeen (wsM yX11_goesAsSeen cX11_goesAsSeen 5 (some .boolean)) (rmX 6 0 0) 0 0 [.ref (w.1 0), .ref (w.1 a1)] z z Z Z X X1 (some (.int r)) := by
  refine ct_of (by decide) (Nat.le_of_ble_eq_true rfl) ?_
  intro p e s m args below meth c hC hr hin hav
  have j7 : ∀ (n : Nat), ∀ (x3 : Int32) (X : XD), fX11_goesAsSeen_7 Z a1 n x3 X = some (r, X1) → WW p l e (rmX 6 0 0) s m args below meth c 5 (MQ below (XQ E w z Z X1 (some (.int r))) args s 0 0 (A0 E)) E w 0 0 z Z 7 [(0, .ref (w.1 0)), (1, .ref (w.1 a1)), (2, .ref (w.1 74)), (3, .int x3)] [] X := by
    intro n
    induction n with
    | zero =>
      intro x3 X h
      cases (show none = some (r, X1) from h)
    | succ n ih =>
      intro x3 X h
      rw [fX11_goesAsSeen_7_s] at h
      refine ww_iload_n (pc := 7) hC dX11_goesAsSeen_7 3 rfl ?_
      refine ww_aload_n (pc := 8) hC dX11_goesAsSeen_8 0 rfl ?_
      refine ww_getR (pc := 9) hC 11 4 47 hL.1 RX11 (by decide) (by decide) rfl (lay_11_4 hL).1 qf_X11_36 rfl dX11_goesAsSeen_9 ?_
      refine ww_getR (pc := 12) hC 6 9 54 ((lay_11_4 hL).2) RX6 (by decide) (by decide) rfl (lay_6_9 hL ((lay_11_4 hL).2)).1 qf_X11_223 rfl dX11_goesAsSeen_12 ?_
      refine ww_getI (pc := 15) hC 3 1 ((lay_6_9 hL ((lay_11_4 hL).2)).2) RX3 (by decide) (by decide) rfl qf_X11_145 (Or.inl rfl) dX11_goesAsSeen_15 ?_
      refine ww_icmp_ge (pc := 18) hC h 73 dX11_goesAsSeen_18 (by decide) (fun h => ?_) (fun h => ?_)
      · refine ww_iconst (pc := 73) hC (v := (1 : Int32)) dX11_goesAsSeen_73 (by decide) ?_
        exact ww_zret (pc := 74) hC hr rfl h dX11_goesAsSeen_74
      · refine ww_aload_n (pc := 21) hC dX11_goesAsSeen_21 0 rfl ?_
        refine ww_aload_n (pc := 22) hC dX11_goesAsSeen_22 2 rfl ?_
        refine ww_aload_n (pc := 23) hC dX11_goesAsSeen_23 1 rfl ?_
        obtain ⟨_, X_6, h4, h⟩ := bnw_i h
        refine ww_callVv (pc := 24) hC [.ref (w.1 74), .ref (w.1 a1)] hL.1.1 hL.1.2 (by decide) (ceX11_look hL ((lay_kX11_supposed hL)) h_a1 h4) ql_X11_116 qi_X11_look qs_X11_X11_look qn_X11 qc_X11_look rfl ⟨by decide, by decide, rfl⟩ rfl ⟨Nat.le_of_ble_eq_true rfl, Nat.le_of_ble_eq_true rfl⟩ (by decide) (rest := []) (Nat.le_of_ble_eq_true rfl) dX11_goesAsSeen_24 ⟨Nat.le_of_ble_eq_true rfl, Nat.le_of_ble_eq_true rfl⟩ rfl ?_
        refine ww_aload_n (pc := 27) hC dX11_goesAsSeen_27 1 rfl ?_
        refine ww_aload_n (pc := 28) hC dX11_goesAsSeen_28 0 rfl ?_
        refine ww_getR (pc := 29) hC 11 8 139 hL.1 RX11 (by decide) (by decide) rfl (lay_11_8 hL).1 qf_X11_50 rfl dX11_goesAsSeen_29 ?_
        refine ww_aload_n (pc := 32) hC dX11_goesAsSeen_32 2 rfl ?_
        obtain ⟨r8, h7, h⟩ := bnd_i h
        refine vd_X4_side (pc := 33) hC hL h_a1 ((lay_11_8 hL).2) ((lay_kX11_supposed hL)) h7 ql_X11_173 ⟨Nat.le_of_ble_eq_true rfl, Nat.le_of_ble_eq_true rfl⟩ (Nat.le_of_ble_eq_true rfl) dX11_goesAsSeen_33 ⟨Nat.le_of_ble_eq_true rfl, Nat.le_of_ble_eq_true rfl⟩ ?_
        refine ww_istore (pc := 36) hC [(4, .int r8), (0, .ref (w.1 0)), (1, .ref (w.1 a1)), (2, .ref (w.1 74)), (3, .int x3)] dX11_goesAsSeen_36  (by decide) rfl ?_
        refine ww_iload (pc := 38) hC dX11_goesAsSeen_38 0 rfl ?_
        refine ww_aload_n (pc := 40) hC dX11_goesAsSeen_40 1 rfl ?_
        refine ww_getR (pc := 41) hC 11 4 47 hL.1 RX11 (by decide) (by decide) rfl (lay_11_4 hL).1 qf_X11_36 rfl dX11_goesAsSeen_41 ?_
        refine ww_getR (pc := 44) hC 6 9 54 ((lay_11_4 hL).2) RX6 (by decide) (by decide) rfl (lay_6_9 hL ((lay_11_4 hL).2)).1 qf_X11_223 rfl dX11_goesAsSeen_44 ?_
        refine ww_iload_n (pc := 47) hC dX11_goesAsSeen_47 4 rfl ?_
        obtain ⟨r10, h9, h⟩ := bnd_i h
        refine ww_callVi (pc := 48) hC [.int x3] ((lay_6_9 hL ((lay_11_4 hL).2)).2).1 ((lay_6_9 hL ((lay_11_4 hL).2)).2).2 (by decide) (ceX3_at hL ((lay_6_9 hL ((lay_11_4 hL).2)).2) h9) ql_X11_238 qi_X3_at qs_X3_X3_at qn_X3 qc_X3_at rfl ⟨by decide, by decide, rfl⟩ rfl ⟨Nat.le_of_ble_eq_true rfl, Nat.le_of_ble_eq_true rfl⟩ (by decide) (rest := [.int r8]) (Nat.le_of_ble_eq_true rfl) dX11_goesAsSeen_48 ⟨Nat.le_of_ble_eq_true rfl, Nat.le_of_ble_eq_true rfl⟩ rfl ?_
        refine ww_icmp_eq (pc := 51) hC h 56 dX11_goesAsSeen_51 (by decide) (fun h => ?_) (fun h => ?_)
        · refine ww_aload_n (pc := 56) hC dX11_goesAsSeen_56 3 rfl ?_
          refine ww_aload_n (pc := 57) hC dX11_goesAsSeen_57 2 rfl ?_
          refine ww_getS (pc := 58) hC 0 (by decide) h_a1 RX4 "number" rfl qf_X11_241 (Or.inl rfl) dX11_goesAsSeen_58 ?_
          refine ww_iload (pc := 61) hC dX11_goesAsSeen_61 0 rfl ?_
          refine ww_iconst (pc := 63) hC (v := (0 : Int32)) dX11_goesAsSeen_63 (by decide) ?_
          obtain ⟨_, X_13, h11, h⟩ := bnw_i h
          refine ww_callVv (pc := 64) hC [.int (X_6.1 a1 0), .int r8, .int ((0 : Int32))] ((lay_kX11_supposed hL)).1 ((lay_kX11_supposed hL)).2 (by decide) (ceX6_addShot hL ((lay_kX11_supposed hL)) h11) ql_X11_180 qi_X6_addShot qs_X6_X6_addShot qn_X6 qc_X6_addShot rfl ⟨by decide, by decide, rfl⟩ rfl ⟨Nat.le_of_ble_eq_true rfl, Nat.le_of_ble_eq_true rfl⟩ (by decide) (rest := []) (Nat.le_of_ble_eq_true rfl) dX11_goesAsSeen_64 ⟨Nat.le_of_ble_eq_true rfl, Nat.le_of_ble_eq_true rfl⟩ rfl ?_
          obtain ⟨y14, ey14⟩ : ∃ q, q = x3 + (1 : Int32) := ⟨_, rfl⟩
          replace h := nm_i h ey14
          refine ww_iinc (pc := 67) hC y14 [(3, .int y14), (4, .int r8), (0, .ref (w.1 0)), (1, .ref (w.1 a1)), (2, .ref (w.1 74))] dX11_goesAsSeen_67 4 rfl (by rw [ey14]; rfl) (by decide) rfl ?_
          refine ww_goto (pc := 70) hC 7 dX11_goesAsSeen_70 (by decide) ?_
          refine ww_sub [2, 3, 4, 0] rfl ?_
          exact ih _ _ h
        · refine ww_iconst (pc := 54) hC (v := (0 : Int32)) dX11_goesAsSeen_54 (by decide) ?_
          exact ww_zret (pc := 55) hC hr rfl h dX11_goesAsSeen_55
  unfold fX11_goesAsSeen at h
  refine ww_lv (lv' := [(0, .ref (w.1 0)), (1, .ref (w.1 a1))]) rfl ?_
  refine ww_aload_n (pc := 0) hC dX11_goesAsSeen_0 0 rfl ?_
  obtain ⟨_, X_3, h1, h⟩ := bnw_i h
  refine ww_callVr (pc := 1) hC [] hL.1.1 hL.1.2 (by decide) (ceX11_supposed hL h1) ql_X11_219 qi_X11_supposed qs_X11_X11_supposed qn_X11 qc_X11_supposed rfl ⟨by decide, by decide, rfl⟩ rfl ⟨Nat.le_of_ble_eq_true rfl, Nat.le_of_ble_eq_true rfl⟩ (by decide) (rest := []) (Nat.le_of_ble_eq_true rfl) dX11_goesAsSeen_1 ⟨Nat.le_of_ble_eq_true rfl, Nat.le_of_ble_eq_true rfl⟩ rfl ?_
  refine ww_astore_n (pc := 4) hC [(2, .ref (w.1 74)), (0, .ref (w.1 0)), (1, .ref (w.1 a1))] dX11_goesAsSeen_4 rfl (by decide) rfl ?_
  refine ww_iconst (pc := 5) hC (v := (0 : Int32)) dX11_goesAsSeen_5 (by decide) ?_
  refine ww_istore_n (pc := 6) hC [(3, .int ((0 : Int32))), (2, .ref (w.1 74)), (0, .ref (w.1 0)), (1, .ref (w.1 a1))] dX11_goesAsSeen_6 rfl (by decide) rfl ?_
  refine ww_sub [2, 3, 1, 0] rfl ?_
  exact j7 _ _ _ h
noncomputable def fX11_who_39 (Z : XS) (k4 : Int32 → Int32 → XD → Option (Int32 × XD)) (x1 : Int32) (x2 : Int32) (X : XD) : Option (Int32 × XD) := nm (x2 + (1 : Int32)) (fun y8 => k4 x1 y8 X)
noncomputable def fX11_who_4 (Z : XS) (n : Nat) : Int32 → Int32 → XD → Option (Int32 × XD) := Nat.rec (motive := fun _ => Int32 → Int32 → XD → Option (Int32 × XD)) (fun _ _ _ => none) (fun _ f => fun x1 x2 X => if (X.1 47 0) ≤ x2 then some (x1, X) else bnd (fX11_find Z x2 X) (fun r2 => mto r2 (fX11_who_39 Z (f) x1 x2 X) (fun t3 => bnw (fX11_goesAsSeen Z t3 X) (fun r5 X_6 => if r5 = 0 then fX11_who_39 Z (f) x1 x2 X_6 else nm (x1 ||| (((1 : Int32)) <<< (x2 &&& 31))) (fun y7 => fX11_who_39 Z (f) y7 x2 X_6))))) n
theorem fX11_who_4_s (Z : XS) (n : Nat) (x1 : Int32) (x2 : Int32) (X : XD) : fX11_who_4 Z (n + 1) x1 x2 X = if (X.1 47 0) ≤ x2 then some (x1, X) else bnd (fX11_find Z x2 X) (fun r2 => mto r2 (fX11_who_39 Z ((fX11_who_4 Z n)) x1 x2 X) (fun t3 => bnw (fX11_goesAsSeen Z t3 X) (fun r5 X_6 => if r5 = 0 then fX11_who_39 Z ((fX11_who_4 Z n)) x1 x2 X_6 else nm (x1 ||| (((1 : Int32)) <<< (x2 &&& 31))) (fun y7 => fX11_who_39 Z ((fX11_who_4 Z n)) y7 x2 X_6)))) := rfl
noncomputable def fX11_who (Z : XS) (X : XD) : Option (Int32 × XD) := fX11_who_4 Z FU ((0 : Int32)) ((0 : Int32)) X
set_option maxHeartbeats 40000000 in
set_option maxRecDepth 100000 in
theorem ceX11_who {l : Launch} {E : XE} {w : XW} {z : Nat} {Z : XS}  (hL : LayC Z) {X X1 : XD} {r : Int32} (h : fX11_who Z X = some (r, X1)) : Ct l E w yX11_who (wsM yX11_who cX11_who 4 (some .int)) (rmX 7 0 0) 0 0 [.ref (w.1 0)] z z Z Z X X1 (some (.int r)) := by
  refine ct_of (by decide) (Nat.le_of_ble_eq_true rfl) ?_
  intro p e s m args below meth c hC hr hin hav
  have j39 : ∀ (k4 : Int32 → Int32 → XD → Option (Int32 × XD)) (hk4 : ∀ (x1 : Int32) (x2 : Int32) (X : XD), k4 x1 x2 X = some (r, X1) → WW p l e (rmX 7 0 0) s m args below meth c 4 (MQ below (XQ E w z Z X1 (some (.int r))) args s 0 0 (A0 E)) E w 0 0 z Z 4 [(0, .ref (w.1 0)), (1, .int x1), (2, .int x2)] [] X), ∀ (x1 : Int32) (x2 : Int32) (X : XD), fX11_who_39 Z k4 x1 x2 X = some (r, X1) → WW p l e (rmX 7 0 0) s m args below meth c 4 (MQ below (XQ E w z Z X1 (some (.int r))) args s 0 0 (A0 E)) E w 0 0 z Z 39 [(0, .ref (w.1 0)), (1, .int x1), (2, .int x2)] [] X := by
    intro k4 hk4 x1 x2 X h
    unfold fX11_who_39 at h
    obtain ⟨y8, ey8⟩ : ∃ q, q = x2 + (1 : Int32) := ⟨_, rfl⟩
    replace h := nm_i h ey8
    refine ww_iinc (pc := 39) hC y8 [(2, .int y8), (0, .ref (w.1 0)), (1, .int x1)] dX11_who_39 2 rfl (by rw [ey8]; rfl) (by decide) rfl ?_
    refine ww_goto (pc := 42) hC 4 dX11_who_42 (by decide) ?_
    refine ww_sub [1, 2, 0] rfl ?_
    exact hk4 _ _ _ h
  have j4 : ∀ (n : Nat), ∀ (x1 : Int32) (x2 : Int32) (X : XD), fX11_who_4 Z n x1 x2 X = some (r, X1) → WW p l e (rmX 7 0 0) s m args below meth c 4 (MQ below (XQ E w z Z X1 (some (.int r))) args s 0 0 (A0 E)) E w 0 0 z Z 4 [(0, .ref (w.1 0)), (1, .int x1), (2, .int x2)] [] X := by
    intro n
    induction n with
    | zero =>
      intro x1 x2 X h
      cases (show none = some (r, X1) from h)
    | succ n ih =>
      intro x1 x2 X h
      rw [fX11_who_4_s] at h
      refine ww_iload_n (pc := 4) hC dX11_who_4 2 rfl ?_
      refine ww_aload_n (pc := 5) hC dX11_who_5 0 rfl ?_
      refine ww_getR (pc := 6) hC 11 4 47 hL.1 RX11 (by decide) (by decide) rfl (lay_11_4 hL).1 qf_X11_36 rfl dX11_who_6 ?_
      refine ww_getI (pc := 9) hC 6 0 ((lay_11_4 hL).2) RX6 (by decide) (by decide) rfl qf_X11_88 (Or.inl rfl) dX11_who_9 ?_
      refine ww_icmp_ge (pc := 12) hC h 45 dX11_who_12 (by decide) (fun h => ?_) (fun h => ?_)
      · refine ww_iload_n (pc := 45) hC dX11_who_45 1 rfl ?_
        exact ww_iret (pc := 46) hC hr h dX11_who_46
      · refine ww_aload_n (pc := 15) hC dX11_who_15 0 rfl ?_
        refine ww_iload_n (pc := 16) hC dX11_who_16 2 rfl ?_
        obtain ⟨r2, h1, h⟩ := bnd_i h
        rcases r2 with _ | t3
        · replace h := mto_n h
          refine ww_callVn (pc := 17) hC [.int x2] hL.1.1 hL.1.2 (by decide) (ceX11_find hL h1) ql_X11_95 qi_X11_find qs_X11_X11_find qn_X11 qc_X11_find rfl ⟨by decide, by decide, rfl⟩ rfl ⟨Nat.le_of_ble_eq_true rfl, Nat.le_of_ble_eq_true rfl⟩ (by decide) (rest := []) (Nat.le_of_ble_eq_true rfl) dX11_who_17 ⟨Nat.le_of_ble_eq_true rfl, Nat.le_of_ble_eq_true rfl⟩ rfl ?_
          refine ww_astore_nN (pc := 20) hC [(3, .null), (0, .ref (w.1 0)), (1, .int x1), (2, .int x2)] dX11_who_20 rfl (by decide) rfl ?_
          refine ww_aload_nN (pc := 21) hC dX11_who_21 0 rfl ?_
          refine ww_ifnullN (pc := 22) hC 39 dX11_who_22 (by decide) ?_
          refine ww_sub [1, 2, 3] rfl ?_
          exact j39 _ ih _ _ _ h
        · replace h := mto_s h
          have hkt3 : KS Z t3 := ks_find hL h1
          refine ww_callVr (pc := 17) hC [.int x2] hL.1.1 hL.1.2 (by decide) (ceX11_find hL h1) ql_X11_95 qi_X11_find qs_X11_X11_find qn_X11 qc_X11_find rfl ⟨by decide, by decide, rfl⟩ rfl ⟨Nat.le_of_ble_eq_true rfl, Nat.le_of_ble_eq_true rfl⟩ (by decide) (rest := []) (Nat.le_of_ble_eq_true rfl) dX11_who_17 ⟨Nat.le_of_ble_eq_true rfl, Nat.le_of_ble_eq_true rfl⟩ rfl ?_
          refine ww_astore_n (pc := 20) hC [(3, .ref (w.1 t3)), (0, .ref (w.1 0)), (1, .int x1), (2, .int x2)] dX11_who_20 rfl (by decide) rfl ?_
          refine ww_aload_n (pc := 21) hC dX11_who_21 0 rfl ?_
          refine ww_ifnull (pc := 22) hC dX11_who_22 ?_
          refine ww_aload_n (pc := 25) hC dX11_who_25 1 rfl ?_
          refine ww_aload_n (pc := 26) hC dX11_who_26 0 rfl ?_
          obtain ⟨r5, X_6, h4, h⟩ := bnw_i h
          refine ww_callVi (pc := 27) hC [.ref (w.1 t3)] hL.1.1 hL.1.2 (by decide) (ceX11_goesAsSeen hL hkt3 h4) ql_X11_226 qi_X11_goesAsSeen qs_X11_X11_goesAsSeen qn_X11 qc_X11_goesAsSeen rfl ⟨by decide, by decide, rfl⟩ rfl ⟨Nat.le_of_ble_eq_true rfl, Nat.le_of_ble_eq_true rfl⟩ (by decide) (rest := []) (Nat.le_of_ble_eq_true rfl) dX11_who_27 ⟨Nat.le_of_ble_eq_true rfl, Nat.le_of_ble_eq_true rfl⟩ rfl ?_
          refine ww_if_eq (pc := 30) hC h 39 dX11_who_30 (by decide) (fun h => ?_) (fun h => ?_)
          · refine ww_sub [1, 2, 3] rfl ?_
            exact j39 _ ih _ _ _ h
          · refine ww_iload_n (pc := 33) hC dX11_who_33 2 rfl ?_
            refine ww_iconst (pc := 34) hC (v := (1 : Int32)) dX11_who_34 (by decide) ?_
            refine ww_iload_n (pc := 35) hC dX11_who_35 3 rfl ?_
            refine ww_ishl (pc := 36) hC dX11_who_36 ?_
            refine ww_ior (pc := 37) hC dX11_who_37 ?_
            obtain ⟨y7, ey7⟩ : ∃ q, q = x1 ||| (((1 : Int32)) <<< (x2 &&& 31)) := ⟨_, rfl⟩
            replace h := nm_i h ey7
            refine ww_nmi ey7 ?_
            refine ww_istore_n (pc := 38) hC [(1, .int y7), (3, .ref (w.1 t3)), (0, .ref (w.1 0)), (2, .int x2)] dX11_who_38 rfl (by decide) rfl ?_
            refine ww_sub [2, 0, 3] rfl ?_
            exact j39 _ ih _ _ _ h
  unfold fX11_who at h
  refine ww_lv (lv' := [(0, .ref (w.1 0))]) rfl ?_
  refine ww_iconst (pc := 0) hC (v := (0 : Int32)) dX11_who_0 (by decide) ?_
  refine ww_istore_n (pc := 1) hC [(1, .int ((0 : Int32))), (0, .ref (w.1 0))] dX11_who_1 rfl (by decide) rfl ?_
  refine ww_iconst (pc := 2) hC (v := (0 : Int32)) dX11_who_2 (by decide) ?_
  refine ww_istore_n (pc := 3) hC [(2, .int ((0 : Int32))), (1, .int ((0 : Int32))), (0, .ref (w.1 0))] dX11_who_3 rfl (by decide) rfl ?_
  refine ww_sub [2, 1, 0] rfl ?_
  exact j4 _ _ _ _ h
noncomputable def fX11_odds_36 (Z : XS) (n : Nat) : Int32 → Int64 → Int32 → XD → Option (Int64 × XD) := Nat.rec (motive := fun _ => Int32 → Int64 → Int32 → XD → Option (Int64 × XD)) (fun _ _ _ _ => none) (fun _ f => fun x2 x4 x6 X => if ((3 : Int32)) ≤ x6 then bnd (fX11_lowest Z x4 ((300 : Int64)) x2 X) (fun r10 => some (r10, X)) else bnd (fX9_chanceBy Z 139 x6 (X.1 139 2) X) (fun r12 => nm (x4 + r12.toInt64) (fun y13 => nm (x6 + (1 : Int32)) (fun y14 => f x2 y13 y14 X)))) n
theorem fX11_odds_36_s (Z : XS) (n : Nat) (x2 : Int32) (x4 : Int64) (x6 : Int32) (X : XD) : fX11_odds_36 Z (n + 1) x2 x4 x6 X = if ((3 : Int32)) ≤ x6 then bnd (fX11_lowest Z x4 ((300 : Int64)) x2 X) (fun r10 => some (r10, X)) else bnd (fX9_chanceBy Z 139 x6 (X.1 139 2) X) (fun r12 => nm (x4 + r12.toInt64) (fun y13 => nm (x6 + (1 : Int32)) (fun y14 => (fX11_odds_36 Z n) x2 y13 y14 X))) := rfl
noncomputable def fX11_odds (Z : XS) (x1 : Int32) (x2 : Int32) (X : XD) : Option (Int64 × XD) := bnd (fX11_find Z x1 X) (fun r2 => mto r2 (some ((-9223372036854775808 : Int64), X)) (fun t3 => bnd (fX11_isHalf Z x2 X) (fun r5 => if r5 = 0 then some ((-9223372036854775808 : Int64), X) else bnw (fX11_look Z 47 t3 X) (fun _ X_8 => fX11_odds_36 Z FU x2 ((0 : Int64)) ((0 : Int32)) X_8))))
set_option maxHeartbeats 40000000 in
set_option maxRecDepth 100000 in
theorem ceX11_odds {l : Launch} {E : XE} {w : XW} {z : Nat} {Z : XS}  (hL : LayC Z) {x1 : Int32} {x2 : Int32} {X X1 : XD} {r : Int64} (h : fX11_odds Z x1 x2 X = some (r, X1)) : Ct l E w yX11_odds (wsM yX11_odds cX11_odds 7 (some .long)) (rmX 6 0 0) 0 0 [.ref (w.1 0), .int x1, .int x2] z z Z Z X X1 (some (.long r)) := by
  refine ct_of (by decide) (Nat.le_of_ble_eq_true rfl) ?_
  intro p e s m args below meth c hC hr hin hav
  have j36 : ∀ (n : Nat), ∀ (x2 : Int32) (x4 : Int64) (x6 : Int32) (X : XD), fX11_odds_36 Z n x2 x4 x6 X = some (r, X1) → WW p l e (rmX 6 0 0) s m args below meth c 7 (MQ below (XQ E w z Z X1 (some (.long r))) args s 0 0 (A0 E)) E w 0 0 z Z 36 [(0, .ref (w.1 0)), (2, .int x2), (4, .long x4), (6, .int x6)] [] X := by
    intro n
    induction n with
    | zero =>
      intro x2 x4 x6 X h
      cases (show none = some (r, X1) from h)
    | succ n ih =>
      intro x2 x4 x6 X h
      rw [fX11_odds_36_s] at h
      refine ww_iload (pc := 36) hC dX11_odds_36 3 rfl ?_
      refine ww_iconst (pc := 38) hC (v := (3 : Int32)) dX11_odds_38 (by decide) ?_
      refine ww_icmp_ge (pc := 39) hC h 70 dX11_odds_39 (by decide) (fun h => ?_) (fun h => ?_)
      · refine ww_lload (pc := 70) hC dX11_odds_70 2 rfl ?_
        refine ww_ldc2 (pc := 72) hC (v := (300 : Int64)) dX11_odds_72 qg_X11_230 ?_
        refine ww_iload_n (pc := 75) hC dX11_odds_75 1 rfl ?_
        obtain ⟨r10, h9, h⟩ := bnd_i h
        refine ww_callSl (pc := 76) hC [.long x4, .long ((300 : Int64)), .int x2] (ceX11_lowest hL h9) ql_X11_206 qt_X11_lowest qn_X11 qc_X11_lowest ⟨by decide, by decide, rfl⟩ rfl ⟨Nat.le_of_ble_eq_true rfl, Nat.le_of_ble_eq_true rfl⟩ (by decide) (rest := []) (Nat.le_of_ble_eq_true rfl) dX11_odds_76 ⟨Nat.le_of_ble_eq_true rfl, Nat.le_of_ble_eq_true rfl⟩ rfl ?_
        exact ww_lret (pc := 79) hC hr h dX11_odds_79
      · refine ww_lload (pc := 42) hC dX11_odds_42 2 rfl ?_
        refine ww_aload_n (pc := 44) hC dX11_odds_44 0 rfl ?_
        refine ww_getR (pc := 45) hC 11 8 139 hL.1 RX11 (by decide) (by decide) rfl (lay_11_8 hL).1 qf_X11_50 rfl dX11_odds_45 ?_
        refine ww_iload (pc := 48) hC dX11_odds_48 3 rfl ?_
        refine ww_aload_n (pc := 50) hC dX11_odds_50 0 rfl ?_
        refine ww_getR (pc := 51) hC 11 8 139 hL.1 RX11 (by decide) (by decide) rfl (lay_11_8 hL).1 qf_X11_50 rfl dX11_odds_51 ?_
        refine ww_getI (pc := 54) hC 9 2 ((lay_11_8 hL).2) RX9 (by decide) (by decide) rfl qf_X11_177 (Or.inl rfl) dX11_odds_54 ?_
        obtain ⟨r12, h11, h⟩ := bnd_i h
        refine ww_callVi (pc := 57) hC [.int x6, .int (X.1 139 2)] ((lay_11_8 hL).2).1 ((lay_11_8 hL).2).2 (by decide) (ceX9_chanceBy hL ((lay_11_8 hL).2) h11) ql_X11_167 qi_X9_chanceBy qs_X9_X9_chanceBy qn_X9 qc_X9_chanceBy rfl ⟨by decide, by decide, rfl⟩ rfl ⟨Nat.le_of_ble_eq_true rfl, Nat.le_of_ble_eq_true rfl⟩ (by decide) (rest := [.long x4]) (Nat.le_of_ble_eq_true rfl) dX11_odds_57 ⟨Nat.le_of_ble_eq_true rfl, Nat.le_of_ble_eq_true rfl⟩ rfl ?_
        refine ww_i2l (pc := 60) hC dX11_odds_60 ?_
        refine ww_ladd (pc := 61) hC dX11_odds_61 ?_
        obtain ⟨y13, ey13⟩ : ∃ q, q = x4 + r12.toInt64 := ⟨_, rfl⟩
        replace h := nm_i h ey13
        refine ww_nml ey13 ?_
        refine ww_lstore (pc := 62) hC [(4, .long y13), (0, .ref (w.1 0)), (2, .int x2), (6, .int x6)] dX11_odds_62  (by decide) rfl ?_
        obtain ⟨y14, ey14⟩ : ∃ q, q = x6 + (1 : Int32) := ⟨_, rfl⟩
        replace h := nm_i h ey14
        refine ww_iinc (pc := 64) hC y14 [(6, .int y14), (4, .long y13), (0, .ref (w.1 0)), (2, .int x2)] dX11_odds_64 3 rfl (by rw [ey14]; rfl) (by decide) rfl ?_
        refine ww_goto (pc := 67) hC 36 dX11_odds_67 (by decide) ?_
        refine ww_sub [2, 3, 1, 0] rfl ?_
        exact ih _ _ _ _ h
  unfold fX11_odds at h
  refine ww_lv (lv' := [(0, .ref (w.1 0)), (1, .int x1), (2, .int x2)]) rfl ?_
  refine ww_aload_n (pc := 0) hC dX11_odds_0 0 rfl ?_
  refine ww_iload_n (pc := 1) hC dX11_odds_1 1 rfl ?_
  obtain ⟨r2, h1, h⟩ := bnd_i h
  rcases r2 with _ | t3
  · replace h := mto_n h
    refine ww_callVn (pc := 2) hC [.int x1] hL.1.1 hL.1.2 (by decide) (ceX11_find hL h1) ql_X11_95 qi_X11_find qs_X11_X11_find qn_X11 qc_X11_find rfl ⟨by decide, by decide, rfl⟩ rfl ⟨Nat.le_of_ble_eq_true rfl, Nat.le_of_ble_eq_true rfl⟩ (by decide) (rest := []) (Nat.le_of_ble_eq_true rfl) dX11_odds_2 ⟨Nat.le_of_ble_eq_true rfl, Nat.le_of_ble_eq_true rfl⟩ rfl ?_
    refine ww_astore_nN (pc := 5) hC [(3, .null), (0, .ref (w.1 0)), (1, .int x1), (2, .int x2)] dX11_odds_5 rfl (by decide) rfl ?_
    refine ww_aload_nN (pc := 6) hC dX11_odds_6 0 rfl ?_
    refine ww_ifnullN (pc := 7) hC 17 dX11_odds_7 (by decide) ?_
    refine ww_ldc2 (pc := 17) hC (v := (-9223372036854775808 : Int64)) dX11_odds_17 qg_X11_197 ?_
    exact ww_lret (pc := 20) hC hr h dX11_odds_20
  · replace h := mto_s h
    have hkt3 : KS Z t3 := ks_find hL h1
    refine ww_callVr (pc := 2) hC [.int x1] hL.1.1 hL.1.2 (by decide) (ceX11_find hL h1) ql_X11_95 qi_X11_find qs_X11_X11_find qn_X11 qc_X11_find rfl ⟨by decide, by decide, rfl⟩ rfl ⟨Nat.le_of_ble_eq_true rfl, Nat.le_of_ble_eq_true rfl⟩ (by decide) (rest := []) (Nat.le_of_ble_eq_true rfl) dX11_odds_2 ⟨Nat.le_of_ble_eq_true rfl, Nat.le_of_ble_eq_true rfl⟩ rfl ?_
    refine ww_astore_n (pc := 5) hC [(3, .ref (w.1 t3)), (0, .ref (w.1 0)), (1, .int x1), (2, .int x2)] dX11_odds_5 rfl (by decide) rfl ?_
    refine ww_aload_n (pc := 6) hC dX11_odds_6 0 rfl ?_
    refine ww_ifnull (pc := 7) hC dX11_odds_7 ?_
    refine ww_iload_n (pc := 10) hC dX11_odds_10 3 rfl ?_
    obtain ⟨r5, h4, h⟩ := bnd_i h
    refine ww_callSi (pc := 11) hC [.int x2] (ceX11_isHalf hL h4) ql_X11_184 qt_X11_isHalf qn_X11 qc_X11_isHalf ⟨by decide, by decide, rfl⟩ rfl ⟨Nat.le_of_ble_eq_true rfl, Nat.le_of_ble_eq_true rfl⟩ (by decide) (rest := []) (Nat.le_of_ble_eq_true rfl) dX11_odds_11 ⟨Nat.le_of_ble_eq_true rfl, Nat.le_of_ble_eq_true rfl⟩ rfl ?_
    refine ww_if_ne (pc := 14) hC h 21 dX11_odds_14 (by decide) (fun h => ?_) (fun h => ?_)
    · refine ww_aload_n (pc := 21) hC dX11_odds_21 1 rfl ?_
      refine ww_aload_n (pc := 22) hC dX11_odds_22 1 rfl ?_
      refine ww_getR (pc := 23) hC 11 4 47 hL.1 RX11 (by decide) (by decide) rfl (lay_11_4 hL).1 qf_X11_36 rfl dX11_odds_23 ?_
      refine ww_aload_n (pc := 26) hC dX11_odds_26 0 rfl ?_
      obtain ⟨_, X_8, h6, h⟩ := bnw_i h
      refine ww_callVv (pc := 27) hC [.ref (w.1 47), .ref (w.1 t3)] hL.1.1 hL.1.2 (by decide) (ceX11_look hL ((lay_11_4 hL).2) hkt3 h6) ql_X11_116 qi_X11_look qs_X11_X11_look qn_X11 qc_X11_look rfl ⟨by decide, by decide, rfl⟩ rfl ⟨Nat.le_of_ble_eq_true rfl, Nat.le_of_ble_eq_true rfl⟩ (by decide) (rest := []) (Nat.le_of_ble_eq_true rfl) dX11_odds_27 ⟨Nat.le_of_ble_eq_true rfl, Nat.le_of_ble_eq_true rfl⟩ rfl ?_
      refine ww_lconst (pc := 30) hC (v := (0 : Int64)) dX11_odds_30 (by decide) ?_
      refine ww_lstore (pc := 31) hC [(4, .long ((0 : Int64))), (3, .ref (w.1 t3)), (0, .ref (w.1 0)), (1, .int x1), (2, .int x2)] dX11_odds_31  (by decide) rfl ?_
      refine ww_iconst (pc := 33) hC (v := (0 : Int32)) dX11_odds_33 (by decide) ?_
      refine ww_istore (pc := 34) hC [(6, .int ((0 : Int32))), (4, .long ((0 : Int64))), (3, .ref (w.1 t3)), (0, .ref (w.1 0)), (1, .int x1), (2, .int x2)] dX11_odds_34  (by decide) rfl ?_
      refine ww_sub [3, 5, 1, 0] rfl ?_
      exact j36 _ _ _ _ _ h
    · refine ww_ldc2 (pc := 17) hC (v := (-9223372036854775808 : Int64)) dX11_odds_17 qg_X11_197 ?_
      exact ww_lret (pc := 20) hC hr h dX11_odds_20
noncomputable def fX11_mean_93 (Z : XS) (k27 : Int32 → Int64 → Int32 → XD → Option (Int64 × XD)) (x1 : Int32) (x2 : Int64) (x4 : Int32) (X : XD) : Option (Int64 × XD) := nm (x4 + (1 : Int32)) (fun y16 => k27 x1 x2 y16 X)
noncomputable def fX11_mean_27 (Z : XS) (n : Nat) : Int32 → Int64 → Int32 → XD → Option (Int64 × XD) := Nat.rec (motive := fun _ => Int32 → Int64 → Int32 → XD → Option (Int64 × XD)) (fun _ _ _ _ => none) (fun _ f => fun x1 x2 x4 X => if (X.1 47 0) ≤ x4 then bnd (fX11_lowest Z x2 ((X.1 47 0).toInt64) x1 X) (fun r4 => some (r4, X)) else bnd (fX11_find Z x4 X) (fun r6 => mto r6 (fX11_mean_93 Z (f) x1 x2 x4 X) (fun t7 => bnw (fX11_look Z 47 t7 X) (fun _ X_10 => bnd (fV_X4_side Z t7 139 47 X_10) (fun r12 => bnd (fX9_chanceBy Z 139 r12 (X_10.1 139 2) X_10) (fun r14 => nm (x2 + r14.toInt64) (fun y15 => fX11_mean_93 Z (f) x1 y15 x4 X_10))))))) n
theorem fX11_mean_27_s (Z : XS) (n : Nat) (x1 : Int32) (x2 : Int64) (x4 : Int32) (X : XD) : fX11_mean_27 Z (n + 1) x1 x2 x4 X = if (X.1 47 0) ≤ x4 then bnd (fX11_lowest Z x2 ((X.1 47 0).toInt64) x1 X) (fun r4 => some (r4, X)) else bnd (fX11_find Z x4 X) (fun r6 => mto r6 (fX11_mean_93 Z ((fX11_mean_27 Z n)) x1 x2 x4 X) (fun t7 => bnw (fX11_look Z 47 t7 X) (fun _ X_10 => bnd (fV_X4_side Z t7 139 47 X_10) (fun r12 => bnd (fX9_chanceBy Z 139 r12 (X_10.1 139 2) X_10) (fun r14 => nm (x2 + r14.toInt64) (fun y15 => fX11_mean_93 Z ((fX11_mean_27 Z n)) x1 y15 x4 X_10)))))) := rfl
noncomputable def fX11_mean (Z : XS) (x1 : Int32) (X : XD) : Option (Int64 × XD) := bnd (fX11_isHalf Z x1 X) (fun r2 => if r2 = 0 then some ((-9223372036854775808 : Int64), X) else if ((1 : Int32)) ≤ (X.1 47 0) then fX11_mean_27 Z FU x1 ((0 : Int64)) ((0 : Int32)) X else some ((-9223372036854775808 : Int64), X))
set_option maxHeartbeats 40000000 in
set_option maxRecDepth 100000 in
theorem ceX11_mean {l : Launch} {E : XE} {w : XW} {z : Nat} {Z : XS}  (hL : LayC Z) {x1 : Int32} {X X1 : XD} {r : Int64} (h : fX11_mean Z x1 X = some (r, X1)) : Ct l E w yX11_mean (wsM yX11_mean cX11_mean 6 (some .long)) (rmX 6 0 0) 0 0 [.ref (w.1 0), .int x1] z z Z Z X X1 (some (.long r)) := by
  refine ct_of (by decide) (Nat.le_of_ble_eq_true rfl) ?_
  intro p e s m args below meth c hC hr hin hav
  have j93 : ∀ (k27 : Int32 → Int64 → Int32 → XD → Option (Int64 × XD)) (hk27 : ∀ (x1 : Int32) (x2 : Int64) (x4 : Int32) (X : XD), k27 x1 x2 x4 X = some (r, X1) → WW p l e (rmX 6 0 0) s m args below meth c 6 (MQ below (XQ E w z Z X1 (some (.long r))) args s 0 0 (A0 E)) E w 0 0 z Z 27 [(0, .ref (w.1 0)), (1, .int x1), (2, .long x2), (4, .int x4)] [] X), ∀ (x1 : Int32) (x2 : Int64) (x4 : Int32) (X : XD), fX11_mean_93 Z k27 x1 x2 x4 X = some (r, X1) → WW p l e (rmX 6 0 0) s m args below meth c 6 (MQ below (XQ E w z Z X1 (some (.long r))) args s 0 0 (A0 E)) E w 0 0 z Z 93 [(0, .ref (w.1 0)), (1, .int x1), (2, .long x2), (4, .int x4)] [] X := by
    intro k27 hk27 x1 x2 x4 X h
    unfold fX11_mean_93 at h
    obtain ⟨y16, ey16⟩ : ∃ q, q = x4 + (1 : Int32) := ⟨_, rfl⟩
    replace h := nm_i h ey16
    refine ww_iinc (pc := 93) hC y16 [(4, .int y16), (0, .ref (w.1 0)), (1, .int x1), (2, .long x2)] dX11_mean_93 3 rfl (by rw [ey16]; rfl) (by decide) rfl ?_
    refine ww_goto (pc := 96) hC 27 dX11_mean_96 (by decide) ?_
    refine ww_sub [1, 2, 3, 0] rfl ?_
    exact hk27 _ _ _ _ h
  have j27 : ∀ (n : Nat), ∀ (x1 : Int32) (x2 : Int64) (x4 : Int32) (X : XD), fX11_mean_27 Z n x1 x2 x4 X = some (r, X1) → WW p l e (rmX 6 0 0) s m args below meth c 6 (MQ below (XQ E w z Z X1 (some (.long r))) args s 0 0 (A0 E)) E w 0 0 z Z 27 [(0, .ref (w.1 0)), (1, .int x1), (2, .long x2), (4, .int x4)] [] X := by
    intro n
    induction n with
    | zero =>
      intro x1 x2 x4 X h
      cases (show none = some (r, X1) from h)
    | succ n ih =>
      intro x1 x2 x4 X h
      rw [fX11_mean_27_s] at h
      refine ww_iload (pc := 27) hC dX11_mean_27 3 rfl ?_
      refine ww_aload_n (pc := 29) hC dX11_mean_29 0 rfl ?_
      refine ww_getR (pc := 30) hC 11 4 47 hL.1 RX11 (by decide) (by decide) rfl (lay_11_4 hL).1 qf_X11_36 rfl dX11_mean_30 ?_
      refine ww_getI (pc := 33) hC 6 0 ((lay_11_4 hL).2) RX6 (by decide) (by decide) rfl qf_X11_88 (Or.inl rfl) dX11_mean_33 ?_
      refine ww_icmp_ge (pc := 36) hC h 99 dX11_mean_36 (by decide) (fun h => ?_) (fun h => ?_)
      · refine ww_lload_n (pc := 99) hC dX11_mean_99 2 rfl ?_
        refine ww_aload_n (pc := 100) hC dX11_mean_100 0 rfl ?_
        refine ww_getR (pc := 101) hC 11 4 47 hL.1 RX11 (by decide) (by decide) rfl (lay_11_4 hL).1 qf_X11_36 rfl dX11_mean_101 ?_
        refine ww_getI (pc := 104) hC 6 0 ((lay_11_4 hL).2) RX6 (by decide) (by decide) rfl qf_X11_88 (Or.inl rfl) dX11_mean_104 ?_
        refine ww_i2l (pc := 107) hC dX11_mean_107 ?_
        refine ww_iload_n (pc := 108) hC dX11_mean_108 1 rfl ?_
        obtain ⟨r4, h3, h⟩ := bnd_i h
        refine ww_callSl (pc := 109) hC [.long x2, .long ((X.1 47 0).toInt64), .int x1] (ceX11_lowest hL h3) ql_X11_206 qt_X11_lowest qn_X11 qc_X11_lowest ⟨by decide, by decide, rfl⟩ rfl ⟨Nat.le_of_ble_eq_true rfl, Nat.le_of_ble_eq_true rfl⟩ (by decide) (rest := []) (Nat.le_of_ble_eq_true rfl) dX11_mean_109 ⟨Nat.le_of_ble_eq_true rfl, Nat.le_of_ble_eq_true rfl⟩ rfl ?_
        exact ww_lret (pc := 112) hC hr h dX11_mean_112
      · refine ww_aload_n (pc := 39) hC dX11_mean_39 0 rfl ?_
        refine ww_iload (pc := 40) hC dX11_mean_40 3 rfl ?_
        obtain ⟨r6, h5, h⟩ := bnd_i h
        rcases r6 with _ | t7
        · replace h := mto_n h
          refine ww_callVn (pc := 42) hC [.int x4] hL.1.1 hL.1.2 (by decide) (ceX11_find hL h5) ql_X11_95 qi_X11_find qs_X11_X11_find qn_X11 qc_X11_find rfl ⟨by decide, by decide, rfl⟩ rfl ⟨Nat.le_of_ble_eq_true rfl, Nat.le_of_ble_eq_true rfl⟩ (by decide) (rest := []) (Nat.le_of_ble_eq_true rfl) dX11_mean_42 ⟨Nat.le_of_ble_eq_true rfl, Nat.le_of_ble_eq_true rfl⟩ rfl ?_
          refine ww_astoreN (pc := 45) hC [(5, .null), (0, .ref (w.1 0)), (1, .int x1), (2, .long x2), (4, .int x4)] dX11_mean_45  (by decide) rfl ?_
          refine ww_aloadN (pc := 47) hC dX11_mean_47 0 rfl ?_
          refine ww_ifnullN (pc := 49) hC 93 dX11_mean_49 (by decide) ?_
          refine ww_sub [1, 2, 3, 4] rfl ?_
          exact j93 _ ih _ _ _ _ h
        · replace h := mto_s h
          have hkt7 : KS Z t7 := ks_find hL h5
          refine ww_callVr (pc := 42) hC [.int x4] hL.1.1 hL.1.2 (by decide) (ceX11_find hL h5) ql_X11_95 qi_X11_find qs_X11_X11_find qn_X11 qc_X11_find rfl ⟨by decide, by decide, rfl⟩ rfl ⟨Nat.le_of_ble_eq_true rfl, Nat.le_of_ble_eq_true rfl⟩ (by decide) (rest := []) (Nat.le_of_ble_eq_true rfl) dX11_mean_42 ⟨Nat.le_of_ble_eq_true rfl, Nat.le_of_ble_eq_true rfl⟩ rfl ?_
          refine ww_astore (pc := 45) hC [(5, .ref (w.1 t7)), (0, .ref (w.1 0)), (1, .int x1), (2, .long x2), (4, .int x4)] dX11_mean_45  (by decide) rfl ?_
          refine ww_aload (pc := 47) hC dX11_mean_47 0 rfl ?_
          refine ww_ifnull (pc := 49) hC dX11_mean_49 ?_
          refine ww_aload_n (pc := 52) hC dX11_mean_52 1 rfl ?_
          refine ww_aload_n (pc := 53) hC dX11_mean_53 1 rfl ?_
          refine ww_getR (pc := 54) hC 11 4 47 hL.1 RX11 (by decide) (by decide) rfl (lay_11_4 hL).1 qf_X11_36 rfl dX11_mean_54 ?_
          refine ww_aload (pc := 57) hC dX11_mean_57 0 rfl ?_
          obtain ⟨_, X_10, h8, h⟩ := bnw_i h
          refine ww_callVv (pc := 59) hC [.ref (w.1 47), .ref (w.1 t7)] hL.1.1 hL.1.2 (by decide) (ceX11_look hL ((lay_11_4 hL).2) hkt7 h8) ql_X11_116 qi_X11_look qs_X11_X11_look qn_X11 qc_X11_look rfl ⟨by decide, by decide, rfl⟩ rfl ⟨Nat.le_of_ble_eq_true rfl, Nat.le_of_ble_eq_true rfl⟩ (by decide) (rest := []) (Nat.le_of_ble_eq_true rfl) dX11_mean_59 ⟨Nat.le_of_ble_eq_true rfl, Nat.le_of_ble_eq_true rfl⟩ rfl ?_
          refine ww_lload_n (pc := 62) hC dX11_mean_62 3 rfl ?_
          refine ww_aload_n (pc := 63) hC dX11_mean_63 1 rfl ?_
          refine ww_getR (pc := 64) hC 11 8 139 hL.1 RX11 (by decide) (by decide) rfl (lay_11_8 hL).1 qf_X11_50 rfl dX11_mean_64 ?_
          refine ww_aload (pc := 67) hC dX11_mean_67 0 rfl ?_
          refine ww_aload_n (pc := 69) hC dX11_mean_69 1 rfl ?_
          refine ww_getR (pc := 70) hC 11 8 139 hL.1 RX11 (by decide) (by decide) rfl (lay_11_8 hL).1 qf_X11_50 rfl dX11_mean_70 ?_
          refine ww_aload_n (pc := 73) hC dX11_mean_73 1 rfl ?_
          refine ww_getR (pc := 74) hC 11 4 47 hL.1 RX11 (by decide) (by decide) rfl (lay_11_4 hL).1 qf_X11_36 rfl dX11_mean_74 ?_
          obtain ⟨r12, h11, h⟩ := bnd_i h
          refine vd_X4_side (pc := 77) hC hL hkt7 ((lay_11_8 hL).2) ((lay_11_4 hL).2) h11 ql_X11_173 ⟨Nat.le_of_ble_eq_true rfl, Nat.le_of_ble_eq_true rfl⟩ (Nat.le_of_ble_eq_true rfl) dX11_mean_77 ⟨Nat.le_of_ble_eq_true rfl, Nat.le_of_ble_eq_true rfl⟩ ?_
          refine ww_aload_n (pc := 80) hC dX11_mean_80 1 rfl ?_
          refine ww_getR (pc := 81) hC 11 8 139 hL.1 RX11 (by decide) (by decide) rfl (lay_11_8 hL).1 qf_X11_50 rfl dX11_mean_81 ?_
          refine ww_getI (pc := 84) hC 9 2 ((lay_11_8 hL).2) RX9 (by decide) (by decide) rfl qf_X11_177 (Or.inl rfl) dX11_mean_84 ?_
          obtain ⟨r14, h13, h⟩ := bnd_i h
          refine ww_callVi (pc := 87) hC [.int r12, .int (X_10.1 139 2)] ((lay_11_8 hL).2).1 ((lay_11_8 hL).2).2 (by decide) (ceX9_chanceBy hL ((lay_11_8 hL).2) h13) ql_X11_167 qi_X9_chanceBy qs_X9_X9_chanceBy qn_X9 qc_X9_chanceBy rfl ⟨by decide, by decide, rfl⟩ rfl ⟨Nat.le_of_ble_eq_true rfl, Nat.le_of_ble_eq_true rfl⟩ (by decide) (rest := [.long x2]) (Nat.le_of_ble_eq_true rfl) dX11_mean_87 ⟨Nat.le_of_ble_eq_true rfl, Nat.le_of_ble_eq_true rfl⟩ rfl ?_
          refine ww_i2l (pc := 90) hC dX11_mean_90 ?_
          refine ww_ladd (pc := 91) hC dX11_mean_91 ?_
          obtain ⟨y15, ey15⟩ : ∃ q, q = x2 + r14.toInt64 := ⟨_, rfl⟩
          replace h := nm_i h ey15
          refine ww_nml ey15 ?_
          refine ww_lstore_n (pc := 92) hC [(2, .long y15), (5, .ref (w.1 t7)), (0, .ref (w.1 0)), (1, .int x1), (4, .int x4)] dX11_mean_92 rfl (by decide) rfl ?_
          refine ww_sub [2, 3, 0, 4] rfl ?_
          exact j93 _ ih _ _ _ _ h
  unfold fX11_mean at h
  refine ww_lv (lv' := [(0, .ref (w.1 0)), (1, .int x1)]) rfl ?_
  refine ww_iload_n (pc := 0) hC dX11_mean_0 1 rfl ?_
  obtain ⟨r2, h1, h⟩ := bnd_i h
  refine ww_callSi (pc := 1) hC [.int x1] (ceX11_isHalf hL h1) ql_X11_184 qt_X11_isHalf qn_X11 qc_X11_isHalf ⟨by decide, by decide, rfl⟩ rfl ⟨Nat.le_of_ble_eq_true rfl, Nat.le_of_ble_eq_true rfl⟩ (by decide) (rest := []) (Nat.le_of_ble_eq_true rfl) dX11_mean_1 ⟨Nat.le_of_ble_eq_true rfl, Nat.le_of_ble_eq_true rfl⟩ rfl ?_
  refine ww_if_eq (pc := 4) hC h 18 dX11_mean_4 (by decide) (fun h => ?_) (fun h => ?_)
  · refine ww_ldc2 (pc := 18) hC (v := (-9223372036854775808 : Int64)) dX11_mean_18 qg_X11_197 ?_
    exact ww_lret (pc := 21) hC hr h dX11_mean_21
  · refine ww_aload_n (pc := 7) hC dX11_mean_7 0 rfl ?_
    refine ww_getR (pc := 8) hC 11 4 47 hL.1 RX11 (by decide) (by decide) rfl (lay_11_4 hL).1 qf_X11_36 rfl dX11_mean_8 ?_
    refine ww_getI (pc := 11) hC 6 0 ((lay_11_4 hL).2) RX6 (by decide) (by decide) rfl qf_X11_88 (Or.inl rfl) dX11_mean_11 ?_
    refine ww_iconst (pc := 14) hC (v := (1 : Int32)) dX11_mean_14 (by decide) ?_
    refine ww_icmp_ge (pc := 15) hC h 22 dX11_mean_15 (by decide) (fun h => ?_) (fun h => ?_)
    · refine ww_lconst (pc := 22) hC (v := (0 : Int64)) dX11_mean_22 (by decide) ?_
      refine ww_lstore_n (pc := 23) hC [(2, .long ((0 : Int64))), (0, .ref (w.1 0)), (1, .int x1)] dX11_mean_23 rfl (by decide) rfl ?_
      refine ww_iconst (pc := 24) hC (v := (0 : Int32)) dX11_mean_24 (by decide) ?_
      refine ww_istore (pc := 25) hC [(4, .int ((0 : Int32))), (2, .long ((0 : Int64))), (0, .ref (w.1 0)), (1, .int x1)] dX11_mean_25  (by decide) rfl ?_
      refine ww_sub [2, 3, 1, 0] rfl ?_
      exact j27 _ _ _ _ _ h
    · refine ww_ldc2 (pc := 18) hC (v := (-9223372036854775808 : Int64)) dX11_mean_18 qg_X11_197 ?_
      exact ww_lret (pc := 21) hC hr h dX11_mean_21
noncomputable def fX11_book (Z : XS) (x1 : Int32) (x2 : Int32) (X : XD) : Option (Int32 × XD) := if x1 = ((-1 : Int32)) then bnw (fX3_clear Z 58 X) (fun r13 X_14 => bnw (fX3_clear Z 56 X_14) (fun r16 X_17 => some (r16, X_17))) else bnd (fX11_find Z x1 X) (fun r2 => mto r2 (some ((-1 : Int32), X)) (fun t3 => bnd (fX11_isDraw Z x2 X) (fun r5 => if r5 = 0 then some ((-2 : Int32), X) else bnw (fX3_add Z 56 x1 X) (fun r7 X_8 => if r7 = 0 then some ((-4 : Int32), X_8) else bnw (fX3_add Z 58 x2 X_8) (fun r10 X_11 => some (X_11.1 56 1, X_11))))))
set_option maxHeartbeats 40000000 in
set_option maxRecDepth 100000 in
theorem ceX11_book {l : Launch} {E : XE} {w : XW} {z : Nat} {Z : XS}  (hL : LayC Z) {x1 : Int32} {x2 : Int32} {X X1 : XD} {r : Int32} (h : fX11_book Z x1 x2 X = some (r, X1)) : Ct l E w yX11_book (wsM yX11_book cX11_book 3 (some .int)) (rmX 2 0 0) 0 0 [.ref (w.1 0), .int x1, .int x2] z z Z Z X X1 (some (.int r)) := by
  refine ct_of (by decide) (Nat.le_of_ble_eq_true rfl) ?_
  intro p e s m args below meth c hC hr hin hav
  unfold fX11_book at h
  refine ww_lv (lv' := [(0, .ref (w.1 0)), (1, .int x1), (2, .int x2)]) rfl ?_
  refine ww_iload_n (pc := 0) hC dX11_book_0 1 rfl ?_
  refine ww_iconst (pc := 1) hC (v := (-1 : Int32)) dX11_book_1 (by decide) ?_
  refine ww_icmp_ne (pc := 2) hC h 27 dX11_book_2 (by decide) (fun h => ?_) (fun h => ?_)
  · refine ww_aload_n (pc := 27) hC dX11_book_27 0 rfl ?_
    refine ww_iload_n (pc := 28) hC dX11_book_28 1 rfl ?_
    obtain ⟨r2, h1, h⟩ := bnd_i h
    rcases r2 with _ | t3
    · replace h := mto_n h
      refine ww_callVn (pc := 29) hC [.int x1] hL.1.1 hL.1.2 (by decide) (ceX11_find hL h1) ql_X11_95 qi_X11_find qs_X11_X11_find qn_X11 qc_X11_find rfl ⟨by decide, by decide, rfl⟩ rfl ⟨Nat.le_of_ble_eq_true rfl, Nat.le_of_ble_eq_true rfl⟩ (by decide) (rest := []) (Nat.le_of_ble_eq_true rfl) dX11_book_29 ⟨Nat.le_of_ble_eq_true rfl, Nat.le_of_ble_eq_true rfl⟩ rfl ?_
      refine ww_ifnonnullN (pc := 32) hC dX11_book_32 ?_
      refine ww_iconst (pc := 35) hC (v := (-1 : Int32)) dX11_book_35 (by decide) ?_
      exact ww_iret (pc := 36) hC hr h dX11_book_36
    · replace h := mto_s h
      have hkt3 : KS Z t3 := ks_find hL h1
      refine ww_callVr (pc := 29) hC [.int x1] hL.1.1 hL.1.2 (by decide) (ceX11_find hL h1) ql_X11_95 qi_X11_find qs_X11_X11_find qn_X11 qc_X11_find rfl ⟨by decide, by decide, rfl⟩ rfl ⟨Nat.le_of_ble_eq_true rfl, Nat.le_of_ble_eq_true rfl⟩ (by decide) (rest := []) (Nat.le_of_ble_eq_true rfl) dX11_book_29 ⟨Nat.le_of_ble_eq_true rfl, Nat.le_of_ble_eq_true rfl⟩ rfl ?_
      refine ww_ifnonnull (pc := 32) hC 37 dX11_book_32 (by decide) ?_
      refine ww_iload_n (pc := 37) hC dX11_book_37 2 rfl ?_
      obtain ⟨r5, h4, h⟩ := bnd_i h
      refine ww_callSi (pc := 38) hC [.int x2] (ceX11_isDraw hL h4) ql_X11_170 qt_X11_isDraw qn_X11 qc_X11_isDraw ⟨by decide, by decide, rfl⟩ rfl ⟨Nat.le_of_ble_eq_true rfl, Nat.le_of_ble_eq_true rfl⟩ (by decide) (rest := []) (Nat.le_of_ble_eq_true rfl) dX11_book_38 ⟨Nat.le_of_ble_eq_true rfl, Nat.le_of_ble_eq_true rfl⟩ rfl ?_
      refine ww_if_ne (pc := 41) hC h 47 dX11_book_41 (by decide) (fun h => ?_) (fun h => ?_)
      · refine ww_aload_n (pc := 47) hC dX11_book_47 0 rfl ?_
        refine ww_getR (pc := 48) hC 11 4 47 hL.1 RX11 (by decide) (by decide) rfl (lay_11_4 hL).1 qf_X11_36 rfl dX11_book_48 ?_
        refine ww_getR (pc := 51) hC 6 10 56 ((lay_11_4 hL).2) RX6 (by decide) (by decide) rfl (lay_6_10 hL ((lay_11_4 hL).2)).1 qf_X11_235 rfl dX11_book_51 ?_
        refine ww_iload_n (pc := 54) hC dX11_book_54 1 rfl ?_
        obtain ⟨r7, X_8, h6, h⟩ := bnw_i h
        refine ww_callVi (pc := 55) hC [.int x1] ((lay_6_10 hL ((lay_11_4 hL).2)).2).1 ((lay_6_10 hL ((lay_11_4 hL).2)).2).2 (by decide) (ceX3_add hL ((lay_6_10 hL ((lay_11_4 hL).2)).2) h6) ql_X11_142 qi_X3_add qs_X3_X3_add qn_X3 qc_X3_add rfl ⟨by decide, by decide, rfl⟩ rfl ⟨Nat.le_of_ble_eq_true rfl, Nat.le_of_ble_eq_true rfl⟩ (by decide) (rest := []) (Nat.le_of_ble_eq_true rfl) dX11_book_55 ⟨Nat.le_of_ble_eq_true rfl, Nat.le_of_ble_eq_true rfl⟩ rfl ?_
        refine ww_if_ne (pc := 58) hC h 64 dX11_book_58 (by decide) (fun h => ?_) (fun h => ?_)
        · refine ww_aload_n (pc := 64) hC dX11_book_64 0 rfl ?_
          refine ww_getR (pc := 65) hC 11 4 47 hL.1 RX11 (by decide) (by decide) rfl (lay_11_4 hL).1 qf_X11_36 rfl dX11_book_65 ?_
          refine ww_getR (pc := 68) hC 6 11 58 ((lay_11_4 hL).2) RX6 (by decide) (by decide) rfl (lay_6_11 hL ((lay_11_4 hL).2)).1 qf_X11_232 rfl dX11_book_68 ?_
          refine ww_iload_n (pc := 71) hC dX11_book_71 2 rfl ?_
          obtain ⟨r10, X_11, h9, h⟩ := bnw_i h
          refine ww_callVi (pc := 72) hC [.int x2] ((lay_6_11 hL ((lay_11_4 hL).2)).2).1 ((lay_6_11 hL ((lay_11_4 hL).2)).2).2 (by decide) (ceX3_add hL ((lay_6_11 hL ((lay_11_4 hL).2)).2) h9) ql_X11_142 qi_X3_add qs_X3_X3_add qn_X3 qc_X3_add rfl ⟨by decide, by decide, rfl⟩ rfl ⟨Nat.le_of_ble_eq_true rfl, Nat.le_of_ble_eq_true rfl⟩ (by decide) (rest := []) (Nat.le_of_ble_eq_true rfl) dX11_book_72 ⟨Nat.le_of_ble_eq_true rfl, Nat.le_of_ble_eq_true rfl⟩ rfl ?_
          refine ww_pop (pc := 75) hC dX11_book_75 rfl ?_
          refine ww_aload_n (pc := 76) hC dX11_book_76 0 rfl ?_
          refine ww_getR (pc := 77) hC 11 4 47 hL.1 RX11 (by decide) (by decide) rfl (lay_11_4 hL).1 qf_X11_36 rfl dX11_book_77 ?_
          refine ww_getR (pc := 80) hC 6 10 56 ((lay_11_4 hL).2) RX6 (by decide) (by decide) rfl (lay_6_10 hL ((lay_11_4 hL).2)).1 qf_X11_235 rfl dX11_book_80 ?_
          refine ww_getI (pc := 83) hC 3 1 ((lay_6_10 hL ((lay_11_4 hL).2)).2) RX3 (by decide) (by decide) rfl qf_X11_145 (Or.inl rfl) dX11_book_83 ?_
          exact ww_iret (pc := 86) hC hr h dX11_book_86
        · refine ww_bipush (pc := 61) hC (v := (-4 : Int32)) dX11_book_61 (by decide) ?_
          exact ww_iret (pc := 63) hC hr h dX11_book_63
      · refine ww_bipush (pc := 44) hC (v := (-2 : Int32)) dX11_book_44 (by decide) ?_
        exact ww_iret (pc := 46) hC hr h dX11_book_46
  · refine ww_aload_n (pc := 5) hC dX11_book_5 0 rfl ?_
    refine ww_getR (pc := 6) hC 11 4 47 hL.1 RX11 (by decide) (by decide) rfl (lay_11_4 hL).1 qf_X11_36 rfl dX11_book_6 ?_
    refine ww_getR (pc := 9) hC 6 11 58 ((lay_11_4 hL).2) RX6 (by decide) (by decide) rfl (lay_6_11 hL ((lay_11_4 hL).2)).1 qf_X11_232 rfl dX11_book_9 ?_
    obtain ⟨r13, X_14, h12, h⟩ := bnw_i h
    refine ww_callVi (pc := 12) hC [] ((lay_6_11 hL ((lay_11_4 hL).2)).2).1 ((lay_6_11 hL ((lay_11_4 hL).2)).2).2 (by decide) (ceX3_clear hL ((lay_6_11 hL ((lay_11_4 hL).2)).2) h12) ql_X11_155 qi_X3_clear qs_X3_X3_clear qn_X3 qc_X3_clear rfl ⟨by decide, by decide, rfl⟩ rfl ⟨Nat.le_of_ble_eq_true rfl, Nat.le_of_ble_eq_true rfl⟩ (by decide) (rest := []) (Nat.le_of_ble_eq_true rfl) dX11_book_12 ⟨Nat.le_of_ble_eq_true rfl, Nat.le_of_ble_eq_true rfl⟩ rfl ?_
    refine ww_pop (pc := 15) hC dX11_book_15 rfl ?_
    refine ww_aload_n (pc := 16) hC dX11_book_16 0 rfl ?_
    refine ww_getR (pc := 17) hC 11 4 47 hL.1 RX11 (by decide) (by decide) rfl (lay_11_4 hL).1 qf_X11_36 rfl dX11_book_17 ?_
    refine ww_getR (pc := 20) hC 6 10 56 ((lay_11_4 hL).2) RX6 (by decide) (by decide) rfl (lay_6_10 hL ((lay_11_4 hL).2)).1 qf_X11_235 rfl dX11_book_20 ?_
    obtain ⟨r16, X_17, h15, h⟩ := bnw_i h
    refine ww_callVi (pc := 23) hC [] ((lay_6_10 hL ((lay_11_4 hL).2)).2).1 ((lay_6_10 hL ((lay_11_4 hL).2)).2).2 (by decide) (ceX3_clear hL ((lay_6_10 hL ((lay_11_4 hL).2)).2) h15) ql_X11_155 qi_X3_clear qs_X3_X3_clear qn_X3 qc_X3_clear rfl ⟨by decide, by decide, rfl⟩ rfl ⟨Nat.le_of_ble_eq_true rfl, Nat.le_of_ble_eq_true rfl⟩ (by decide) (rest := []) (Nat.le_of_ble_eq_true rfl) dX11_book_23 ⟨Nat.le_of_ble_eq_true rfl, Nat.le_of_ble_eq_true rfl⟩ rfl ?_
    exact ww_iret (pc := 26) hC hr h dX11_book_26
noncomputable def fX11_looked_101 (Z : XS) (k7 : Int32 → XD → Option (Int32 × XD)) (x2 : Int32) (X : XD) : Option (Int32 × XD) := nm (x2 + (1 : Int32)) (fun y21 => k7 y21 X)
noncomputable def fX11_looked_7 (Z : XS) (n : Nat) : Int32 → XD → Option (Int32 × XD) := Nat.rec (motive := fun _ => Int32 → XD → Option (Int32 × XD)) (fun _ _ => none) (fun _ f => fun x2 X => if (X.1 56 1) ≤ x2 then some ((-5 : Int32), X) else bnd (fX3_at Z 56 x2 X) (fun r5 => bnd (fX11_find Z r5 X) (fun r7 => mto r7 (fX11_looked_101 Z (f) x2 X) (fun t8 => bnw (fX11_look Z 74 t8 X) (fun _ X_11 => bnd (fV_X4_side Z t8 139 74 X_11) (fun r13 => bnd (fX3_at Z 58 x2 X_11) (fun r15 => bnd (fX9_chanceBy Z 139 r13 (X_11.1 139 2) X_11) (fun r17 => if r15 < r17 then bnw (fX6_addShot Z 74 (X_11.1 t8 0) r13 ((1 : Int32)) X_11) (fun _ X_20 => fX11_looked_101 Z (f) x2 X_20) else some (x2, X_11))))))))) n
theorem fX11_looked_7_s (Z : XS) (n : Nat) (x2 : Int32) (X : XD) : fX11_looked_7 Z (n + 1) x2 X = if (X.1 56 1) ≤ x2 then some ((-5 : Int32), X) else bnd (fX3_at Z 56 x2 X) (fun r5 => bnd (fX11_find Z r5 X) (fun r7 => mto r7 (fX11_looked_101 Z ((fX11_looked_7 Z n)) x2 X) (fun t8 => bnw (fX11_look Z 74 t8 X) (fun _ X_11 => bnd (fV_X4_side Z t8 139 74 X_11) (fun r13 => bnd (fX3_at Z 58 x2 X_11) (fun r15 => bnd (fX9_chanceBy Z 139 r13 (X_11.1 139 2) X_11) (fun r17 => if r15 < r17 then bnw (fX6_addShot Z 74 (X_11.1 t8 0) r13 ((1 : Int32)) X_11) (fun _ X_20 => fX11_looked_101 Z ((fX11_looked_7 Z n)) x2 X_20) else some (x2, X_11)))))))) := rfl
noncomputable def fX11_looked (Z : XS) (X : XD) : Option (Int32 × XD) := bnw (fX11_supposed Z X) (fun _ X_3 => fX11_looked_7 Z FU ((0 : Int32)) X_3)
set_option maxHeartbeats 40000000 in
set_option maxRecDepth 100000 in
theorem ceX11_looked {l : Launch} {E : XE} {w : XW} {z : Nat} {Z : XS}  (hL : LayC Z) {X X1 : XD} {r : Int32} (h : fX11_looked Z X = some (r, X1)) : Ct l E w yX11_looked (wsM yX11_looked cX11_looked 5 (some .int)) (rmX 6 0 0) 0 0 [.ref (w.1 0)] z z Z Z X X1 (some (.int r)) := by
  refine ct_of (by decide) (Nat.le_of_ble_eq_true rfl) ?_
  intro p e s m args below meth c hC hr hin hav
  have j101 : ∀ (k7 : Int32 → XD → Option (Int32 × XD)) (hk7 : ∀ (x2 : Int32) (X : XD), k7 x2 X = some (r, X1) → WW p l e (rmX 6 0 0) s m args below meth c 5 (MQ below (XQ E w z Z X1 (some (.int r))) args s 0 0 (A0 E)) E w 0 0 z Z 7 [(0, .ref (w.1 0)), (1, .ref (w.1 74)), (2, .int x2)] [] X), ∀ (x2 : Int32) (X : XD), fX11_looked_101 Z k7 x2 X = some (r, X1) → WW p l e (rmX 6 0 0) s m args below meth c 5 (MQ below (XQ E w z Z X1 (some (.int r))) args s 0 0 (A0 E)) E w 0 0 z Z 101 [(0, .ref (w.1 0)), (1, .ref (w.1 74)), (2, .int x2)] [] X := by
    intro k7 hk7 x2 X h
    unfold fX11_looked_101 at h
    obtain ⟨y21, ey21⟩ : ∃ q, q = x2 + (1 : Int32) := ⟨_, rfl⟩
    replace h := nm_i h ey21
    refine ww_iinc (pc := 101) hC y21 [(2, .int y21), (0, .ref (w.1 0)), (1, .ref (w.1 74))] dX11_looked_101 2 rfl (by rw [ey21]; rfl) (by decide) rfl ?_
    refine ww_goto (pc := 104) hC 7 dX11_looked_104 (by decide) ?_
    refine ww_sub [1, 2, 0] rfl ?_
    exact hk7 _ _ h
  have j7 : ∀ (n : Nat), ∀ (x2 : Int32) (X : XD), fX11_looked_7 Z n x2 X = some (r, X1) → WW p l e (rmX 6 0 0) s m args below meth c 5 (MQ below (XQ E w z Z X1 (some (.int r))) args s 0 0 (A0 E)) E w 0 0 z Z 7 [(0, .ref (w.1 0)), (1, .ref (w.1 74)), (2, .int x2)] [] X := by
    intro n
    induction n with
    | zero =>
      intro x2 X h
      cases (show none = some (r, X1) from h)
    | succ n ih =>
      intro x2 X h
      rw [fX11_looked_7_s] at h
      refine ww_iload_n (pc := 7) hC dX11_looked_7 2 rfl ?_
      refine ww_aload_n (pc := 8) hC dX11_looked_8 0 rfl ?_
      refine ww_getR (pc := 9) hC 11 4 47 hL.1 RX11 (by decide) (by decide) rfl (lay_11_4 hL).1 qf_X11_36 rfl dX11_looked_9 ?_
      refine ww_getR (pc := 12) hC 6 10 56 ((lay_11_4 hL).2) RX6 (by decide) (by decide) rfl (lay_6_10 hL ((lay_11_4 hL).2)).1 qf_X11_235 rfl dX11_looked_12 ?_
      refine ww_getI (pc := 15) hC 3 1 ((lay_6_10 hL ((lay_11_4 hL).2)).2) RX3 (by decide) (by decide) rfl qf_X11_145 (Or.inl rfl) dX11_looked_15 ?_
      refine ww_icmp_ge (pc := 18) hC h 107 dX11_looked_18 (by decide) (fun h => ?_) (fun h => ?_)
      · refine ww_bipush (pc := 107) hC (v := (-5 : Int32)) dX11_looked_107 (by decide) ?_
        exact ww_iret (pc := 109) hC hr h dX11_looked_109
      · refine ww_aload_n (pc := 21) hC dX11_looked_21 0 rfl ?_
        refine ww_aload_n (pc := 22) hC dX11_looked_22 0 rfl ?_
        refine ww_getR (pc := 23) hC 11 4 47 hL.1 RX11 (by decide) (by decide) rfl (lay_11_4 hL).1 qf_X11_36 rfl dX11_looked_23 ?_
        refine ww_getR (pc := 26) hC 6 10 56 ((lay_11_4 hL).2) RX6 (by decide) (by decide) rfl (lay_6_10 hL ((lay_11_4 hL).2)).1 qf_X11_235 rfl dX11_looked_26 ?_
        refine ww_iload_n (pc := 29) hC dX11_looked_29 2 rfl ?_
        obtain ⟨r5, h4, h⟩ := bnd_i h
        refine ww_callVi (pc := 30) hC [.int x2] ((lay_6_10 hL ((lay_11_4 hL).2)).2).1 ((lay_6_10 hL ((lay_11_4 hL).2)).2).2 (by decide) (ceX3_at hL ((lay_6_10 hL ((lay_11_4 hL).2)).2) h4) ql_X11_238 qi_X3_at qs_X3_X3_at qn_X3 qc_X3_at rfl ⟨by decide, by decide, rfl⟩ rfl ⟨Nat.le_of_ble_eq_true rfl, Nat.le_of_ble_eq_true rfl⟩ (by decide) (rest := [.ref (w.1 0)]) (Nat.le_of_ble_eq_true rfl) dX11_looked_30 ⟨Nat.le_of_ble_eq_true rfl, Nat.le_of_ble_eq_true rfl⟩ rfl ?_
        obtain ⟨r7, h6, h⟩ := bnd_i h
        rcases r7 with _ | t8
        · replace h := mto_n h
          refine ww_callVn (pc := 33) hC [.int r5] hL.1.1 hL.1.2 (by decide) (ceX11_find hL h6) ql_X11_95 qi_X11_find qs_X11_X11_find qn_X11 qc_X11_find rfl ⟨by decide, by decide, rfl⟩ rfl ⟨Nat.le_of_ble_eq_true rfl, Nat.le_of_ble_eq_true rfl⟩ (by decide) (rest := []) (Nat.le_of_ble_eq_true rfl) dX11_looked_33 ⟨Nat.le_of_ble_eq_true rfl, Nat.le_of_ble_eq_true rfl⟩ rfl ?_
          refine ww_astore_nN (pc := 36) hC [(3, .null), (0, .ref (w.1 0)), (1, .ref (w.1 74)), (2, .int x2)] dX11_looked_36 rfl (by decide) rfl ?_
          refine ww_aload_nN (pc := 37) hC dX11_looked_37 0 rfl ?_
          refine ww_ifnullN (pc := 38) hC 101 dX11_looked_38 (by decide) ?_
          refine ww_sub [1, 2, 3] rfl ?_
          exact j101 _ ih _ _ h
        · replace h := mto_s h
          have hkt8 : KS Z t8 := ks_find hL h6
          refine ww_callVr (pc := 33) hC [.int r5] hL.1.1 hL.1.2 (by decide) (ceX11_find hL h6) ql_X11_95 qi_X11_find qs_X11_X11_find qn_X11 qc_X11_find rfl ⟨by decide, by decide, rfl⟩ rfl ⟨Nat.le_of_ble_eq_true rfl, Nat.le_of_ble_eq_true rfl⟩ (by decide) (rest := []) (Nat.le_of_ble_eq_true rfl) dX11_looked_33 ⟨Nat.le_of_ble_eq_true rfl, Nat.le_of_ble_eq_true rfl⟩ rfl ?_
          refine ww_astore_n (pc := 36) hC [(3, .ref (w.1 t8)), (0, .ref (w.1 0)), (1, .ref (w.1 74)), (2, .int x2)] dX11_looked_36 rfl (by decide) rfl ?_
          refine ww_aload_n (pc := 37) hC dX11_looked_37 0 rfl ?_
          refine ww_ifnull (pc := 38) hC dX11_looked_38 ?_
          refine ww_aload_n (pc := 41) hC dX11_looked_41 1 rfl ?_
          refine ww_aload_n (pc := 42) hC dX11_looked_42 2 rfl ?_
          refine ww_aload_n (pc := 43) hC dX11_looked_43 0 rfl ?_
          obtain ⟨_, X_11, h9, h⟩ := bnw_i h
          refine ww_callVv (pc := 44) hC [.ref (w.1 74), .ref (w.1 t8)] hL.1.1 hL.1.2 (by decide) (ceX11_look hL ((lay_kX11_supposed hL)) hkt8 h9) ql_X11_116 qi_X11_look qs_X11_X11_look qn_X11 qc_X11_look rfl ⟨by decide, by decide, rfl⟩ rfl ⟨Nat.le_of_ble_eq_true rfl, Nat.le_of_ble_eq_true rfl⟩ (by decide) (rest := []) (Nat.le_of_ble_eq_true rfl) dX11_looked_44 ⟨Nat.le_of_ble_eq_true rfl, Nat.le_of_ble_eq_true rfl⟩ rfl ?_
          refine ww_aload_n (pc := 47) hC dX11_looked_47 0 rfl ?_
          refine ww_aload_n (pc := 48) hC dX11_looked_48 1 rfl ?_
          refine ww_getR (pc := 49) hC 11 8 139 hL.1 RX11 (by decide) (by decide) rfl (lay_11_8 hL).1 qf_X11_50 rfl dX11_looked_49 ?_
          refine ww_aload_n (pc := 52) hC dX11_looked_52 2 rfl ?_
          obtain ⟨r13, h12, h⟩ := bnd_i h
          refine vd_X4_side (pc := 53) hC hL hkt8 ((lay_11_8 hL).2) ((lay_kX11_supposed hL)) h12 ql_X11_173 ⟨Nat.le_of_ble_eq_true rfl, Nat.le_of_ble_eq_true rfl⟩ (Nat.le_of_ble_eq_true rfl) dX11_looked_53 ⟨Nat.le_of_ble_eq_true rfl, Nat.le_of_ble_eq_true rfl⟩ ?_
          refine ww_istore (pc := 56) hC [(4, .int r13), (3, .ref (w.1 t8)), (0, .ref (w.1 0)), (1, .ref (w.1 74)), (2, .int x2)] dX11_looked_56  (by decide) rfl ?_
          refine ww_aload_n (pc := 58) hC dX11_looked_58 2 rfl ?_
          refine ww_getR (pc := 59) hC 11 4 47 hL.1 RX11 (by decide) (by decide) rfl (lay_11_4 hL).1 qf_X11_36 rfl dX11_looked_59 ?_
          refine ww_getR (pc := 62) hC 6 11 58 ((lay_11_4 hL).2) RX6 (by decide) (by decide) rfl (lay_6_11 hL ((lay_11_4 hL).2)).1 qf_X11_232 rfl dX11_looked_62 ?_
          refine ww_iload_n (pc := 65) hC dX11_looked_65 4 rfl ?_
          obtain ⟨r15, h14, h⟩ := bnd_i h
          refine ww_callVi (pc := 66) hC [.int x2] ((lay_6_11 hL ((lay_11_4 hL).2)).2).1 ((lay_6_11 hL ((lay_11_4 hL).2)).2).2 (by decide) (ceX3_at hL ((lay_6_11 hL ((lay_11_4 hL).2)).2) h14) ql_X11_238 qi_X3_at qs_X3_X3_at qn_X3 qc_X3_at rfl ⟨by decide, by decide, rfl⟩ rfl ⟨Nat.le_of_ble_eq_true rfl, Nat.le_of_ble_eq_true rfl⟩ (by decide) (rest := []) (Nat.le_of_ble_eq_true rfl) dX11_looked_66 ⟨Nat.le_of_ble_eq_true rfl, Nat.le_of_ble_eq_true rfl⟩ rfl ?_
          refine ww_aload_n (pc := 69) hC dX11_looked_69 2 rfl ?_
          refine ww_getR (pc := 70) hC 11 8 139 hL.1 RX11 (by decide) (by decide) rfl (lay_11_8 hL).1 qf_X11_50 rfl dX11_looked_70 ?_
          refine ww_iload (pc := 73) hC dX11_looked_73 0 rfl ?_
          refine ww_aload_n (pc := 75) hC dX11_looked_75 2 rfl ?_
          refine ww_getR (pc := 76) hC 11 8 139 hL.1 RX11 (by decide) (by decide) rfl (lay_11_8 hL).1 qf_X11_50 rfl dX11_looked_76 ?_
          refine ww_getI (pc := 79) hC 9 2 ((lay_11_8 hL).2) RX9 (by decide) (by decide) rfl qf_X11_177 (Or.inl rfl) dX11_looked_79 ?_
          obtain ⟨r17, h16, h⟩ := bnd_i h
          refine ww_callVi (pc := 82) hC [.int r13, .int (X_11.1 139 2)] ((lay_11_8 hL).2).1 ((lay_11_8 hL).2).2 (by decide) (ceX9_chanceBy hL ((lay_11_8 hL).2) h16) ql_X11_167 qi_X9_chanceBy qs_X9_X9_chanceBy qn_X9 qc_X9_chanceBy rfl ⟨by decide, by decide, rfl⟩ rfl ⟨Nat.le_of_ble_eq_true rfl, Nat.le_of_ble_eq_true rfl⟩ (by decide) (rest := [.int r15]) (Nat.le_of_ble_eq_true rfl) dX11_looked_82 ⟨Nat.le_of_ble_eq_true rfl, Nat.le_of_ble_eq_true rfl⟩ rfl ?_
          refine ww_icmp_lt (pc := 85) hC h 90 dX11_looked_85 (by decide) (fun h => ?_) (fun h => ?_)
          · refine ww_aload_n (pc := 90) hC dX11_looked_90 3 rfl ?_
            refine ww_aload_n (pc := 91) hC dX11_looked_91 1 rfl ?_
            refine ww_getS (pc := 92) hC 0 (by decide) hkt8 RX4 "number" rfl qf_X11_241 (Or.inl rfl) dX11_looked_92 ?_
            refine ww_iload (pc := 95) hC dX11_looked_95 0 rfl ?_
            refine ww_iconst (pc := 97) hC (v := (1 : Int32)) dX11_looked_97 (by decide) ?_
            obtain ⟨_, X_20, h18, h⟩ := bnw_i h
            refine ww_callVv (pc := 98) hC [.int (X_11.1 t8 0), .int r13, .int ((1 : Int32))] ((lay_kX11_supposed hL)).1 ((lay_kX11_supposed hL)).2 (by decide) (ceX6_addShot hL ((lay_kX11_supposed hL)) h18) ql_X11_180 qi_X6_addShot qs_X6_X6_addShot qn_X6 qc_X6_addShot rfl ⟨by decide, by decide, rfl⟩ rfl ⟨Nat.le_of_ble_eq_true rfl, Nat.le_of_ble_eq_true rfl⟩ (by decide) (rest := []) (Nat.le_of_ble_eq_true rfl) dX11_looked_98 ⟨Nat.le_of_ble_eq_true rfl, Nat.le_of_ble_eq_true rfl⟩ rfl ?_
            refine ww_sub [2, 3, 4] rfl ?_
            exact j101 _ ih _ _ h
          · refine ww_iload_n (pc := 88) hC dX11_looked_88 4 rfl ?_
            exact ww_iret (pc := 89) hC hr h dX11_looked_89
  unfold fX11_looked at h
  refine ww_lv (lv' := [(0, .ref (w.1 0))]) rfl ?_
  refine ww_aload_n (pc := 0) hC dX11_looked_0 0 rfl ?_
  obtain ⟨_, X_3, h1, h⟩ := bnw_i h
  refine ww_callVr (pc := 1) hC [] hL.1.1 hL.1.2 (by decide) (ceX11_supposed hL h1) ql_X11_219 qi_X11_supposed qs_X11_X11_supposed qn_X11 qc_X11_supposed rfl ⟨by decide, by decide, rfl⟩ rfl ⟨Nat.le_of_ble_eq_true rfl, Nat.le_of_ble_eq_true rfl⟩ (by decide) (rest := []) (Nat.le_of_ble_eq_true rfl) dX11_looked_1 ⟨Nat.le_of_ble_eq_true rfl, Nat.le_of_ble_eq_true rfl⟩ rfl ?_
  refine ww_astore_n (pc := 4) hC [(1, .ref (w.1 74)), (0, .ref (w.1 0))] dX11_looked_4 rfl (by decide) rfl ?_
  refine ww_iconst (pc := 5) hC (v := (0 : Int32)) dX11_looked_5 (by decide) ?_
  refine ww_istore_n (pc := 6) hC [(2, .int ((0 : Int32))), (1, .ref (w.1 74)), (0, .ref (w.1 0))] dX11_looked_6 rfl (by decide) rfl ?_
  refine ww_sub [2, 1, 0] rfl ?_
  exact j7 _ _ _ h
noncomputable def fX11_hasPlace (Z : XS) (x1 : Int32) (x2 : Int32) (X : XD) : Option Int32 := if x2 < 0 then some ((0 : Int32)) else gin x1 6 (if (X.1 152 (x1).toNatClampNeg) ≤ x2 then some ((0 : Int32)) else gin x1 6 (if ((60 : Int32)) ≤ x2 then some ((0 : Int32)) else some ((1 : Int32))))
set_option maxHeartbeats 40000000 in
set_option maxRecDepth 100000 in
theorem ceX11_hasPlace {l : Launch} {E : XE} {w : XW} {z : Nat} {Z : XS}  (hL : LayC Z) {x1 : Int32} {x2 : Int32} {X : XD} {r : Int32} (h : fX11_hasPlace Z x1 x2 X = some r) : Ct l E w yX11_hasPlace (wsM yX11_hasPlace cX11_hasPlace 3 (some .boolean)) (rmX 1 0 0) 0 0 [.ref (w.1 0), .int x1, .int x2] z z Z Z X X (some (.int r)) := by
  refine ct_of (by decide) (Nat.le_of_ble_eq_true rfl) ?_
  intro p e s m args below meth c hC hr hin hav
  unfold fX11_hasPlace at h
  refine ww_lv (lv' := [(0, .ref (w.1 0)), (1, .int x1), (2, .int x2)]) rfl ?_
  refine ww_iload_n (pc := 0) hC dX11_hasPlace_0 2 rfl ?_
  refine ww_if_lt (pc := 1) hC h 29 dX11_hasPlace_1 (by decide) (fun h => ?_) (fun h => ?_)
  · refine ww_iconst (pc := 29) hC (v := (0 : Int32)) dX11_hasPlace_29 (by decide) ?_
    exact ww_zret (pc := 30) hC hr rfl (ret_r h) dX11_hasPlace_30
  · refine ww_iload_n (pc := 4) hC dX11_hasPlace_4 2 rfl ?_
    refine ww_aload_n (pc := 5) hC dX11_hasPlace_5 0 rfl ?_
    refine ww_getR (pc := 6) hC 11 12 152 hL.1 RX11 (by decide) (by decide) rfl (lay_11_12 hL).1 qf_X11_72 rfl dX11_hasPlace_6 ?_
    refine ww_iload_n (pc := 9) hC dX11_hasPlace_9 1 rfl ?_
    refine ww_iald (pc := 10) hC ((lay_11_12 hL).2) h dX11_hasPlace_10 (fun h => ?_)
    refine ww_icmp_ge (pc := 11) hC h 29 dX11_hasPlace_11 (by decide) (fun h => ?_) (fun h => ?_)
    · refine ww_iconst (pc := 29) hC (v := (0 : Int32)) dX11_hasPlace_29 (by decide) ?_
      exact ww_zret (pc := 30) hC hr rfl (ret_r h) dX11_hasPlace_30
    · refine ww_iload_n (pc := 14) hC dX11_hasPlace_14 2 rfl ?_
      refine ww_aload_n (pc := 15) hC dX11_hasPlace_15 0 rfl ?_
      refine ww_getR (pc := 16) hC 11 10 144 hL.1 RX11 (by decide) (by decide) rfl (lay_11_10 hL).1 qf_X11_59 rfl dX11_hasPlace_16 ?_
      refine ww_iload_n (pc := 19) hC dX11_hasPlace_19 1 rfl ?_
      have hin1 := (gin_i h).1
      refine ww_aald (pc := 20) hC (145 + (x1).toNatClampNeg) ((lay_11_10 hL).2) (by decide) (by decide) h (fun q => (lay_el19 hL q).1) dX11_hasPlace_20 (fun h => ?_)
      refine ww_alen (pc := 21) hC ((60 : Int32)) ((lay_el19 hL hin1).2) (by decide) (by decide) rfl dX11_hasPlace_21 ?_
      refine ww_icmp_ge (pc := 22) hC h 29 dX11_hasPlace_22 (by decide) (fun h => ?_) (fun h => ?_)
      · refine ww_iconst (pc := 29) hC (v := (0 : Int32)) dX11_hasPlace_29 (by decide) ?_
        exact ww_zret (pc := 30) hC hr rfl (ret_r h) dX11_hasPlace_30
      · refine ww_iconst (pc := 25) hC (v := (1 : Int32)) dX11_hasPlace_25 (by decide) ?_
        refine ww_goto (pc := 26) hC 30 dX11_hasPlace_26 (by decide) ?_
        exact ww_zret (pc := 30) hC hr rfl (ret_r h) dX11_hasPlace_30
