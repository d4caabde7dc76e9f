noncomputable def fX0_kind (Z : XS) (a0 : Nat) (X : XD) : Option Int32 := some ((4 : Int32))
set_option maxHeartbeats 40000000 in
set_option maxRecDepth 100000 in
theorem ceX0_kind {l : Launch} {E : XE} {w : XW} {z : Nat} {Z : XS}  (hL : LayC Z) {a0 : Nat} (h_a0 : KS Z a0) {X : XD} {r : Int32} (h : fX0_kind Z a0 X = some r) : Ct l E w yX0_kind (wsM yX0_kind cX0_kind 1 (some .int)) (rmX 1 0 0) 0 0 [.ref (w.1 a0)] z z Z Z X X (some (.int r)) := by
  refine ct_of (by decide) (Nat.le_of_ble_eq_true rfl) ?_
  intro p e s m args below meth c hC hr hin hav
  unfold fX0_kind at h
  refine ww_lv (lv' := [(0, .ref (w.1 a0))]) rfl ?_
  refine ww_iconst (pc := 0) hC (v := (4 : Int32)) dX0_kind_0 (by decide) ?_
  exact ww_iret (pc := 1) hC hr (ret_r h) dX0_kind_1
noncomputable def fX6_shotsOf (Z : XS) (a0 : Nat) (x1 : Int32) (X : XD) : Option Int32 := if x1 < 0 then some ((0 : Int32)) else if ((6 : Int32)) ≤ x1 then some ((0 : Int32)) else gin x1 6 (some (X.1 (a0 + 2) (x1).toNatClampNeg))
set_option maxHeartbeats 40000000 in
set_option maxRecDepth 100000 in
theorem ceX6_shotsOf {l : Launch} {E : XE} {w : XW} {z : Nat} {Z : XS}  (hL : LayC Z) {a0 : Nat} (h_a0 : KK Z a0 6) {x1 : Int32} {X : XD} {r : Int32} (h : fX6_shotsOf Z a0 x1 X = some r) : Ct l E w yX6_shotsOf (wsM yX6_shotsOf cX6_shotsOf 2 (some .int)) (rmX 1 0 0) 0 0 [.ref (w.1 a0), .int x1] z z Z Z X X (some (.int r)) := by
  refine ct_of (by decide) (Nat.le_of_ble_eq_true rfl) ?_
  intro p e s m args below meth c hC hr hin hav
  unfold fX6_shotsOf at h
  refine ww_lv (lv' := [(0, .ref (w.1 a0)), (1, .int x1)]) rfl ?_
  refine ww_iload_n (pc := 0) hC dX6_shotsOf_0 1 rfl ?_
  refine ww_if_lt (pc := 1) hC h 22 dX6_shotsOf_1 (by decide) (fun h => ?_) (fun h => ?_)
  · refine ww_iconst (pc := 22) hC (v := (0 : Int32)) dX6_shotsOf_22 (by decide) ?_
    exact ww_iret (pc := 23) hC hr (ret_r h) dX6_shotsOf_23
  · refine ww_iload_n (pc := 4) hC dX6_shotsOf_4 1 rfl ?_
    refine ww_aload_n (pc := 5) hC dX6_shotsOf_5 0 rfl ?_
    refine ww_getR (pc := 6) hC 6 5 (a0 + 2) h_a0 RX6 (by decide) (by decide) rfl (lay_6_5 hL h_a0).1 qf_X6_25 rfl dX6_shotsOf_6 ?_
    refine ww_alen (pc := 9) hC ((6 : Int32)) ((lay_6_5 hL h_a0).2) (by decide) (by decide) rfl dX6_shotsOf_9 ?_
    refine ww_icmp_ge (pc := 10) hC h 22 dX6_shotsOf_10 (by decide) (fun h => ?_) (fun h => ?_)
    · refine ww_iconst (pc := 22) hC (v := (0 : Int32)) dX6_shotsOf_22 (by decide) ?_
      exact ww_iret (pc := 23) hC hr (ret_r h) dX6_shotsOf_23
    · refine ww_aload_n (pc := 13) hC dX6_shotsOf_13 0 rfl ?_
      refine ww_getR (pc := 14) hC 6 5 (a0 + 2) h_a0 RX6 (by decide) (by decide) rfl (lay_6_5 hL h_a0).1 qf_X6_25 rfl dX6_shotsOf_14 ?_
      refine ww_iload_n (pc := 17) hC dX6_shotsOf_17 1 rfl ?_
      refine ww_iald (pc := 18) hC ((lay_6_5 hL h_a0).2) h dX6_shotsOf_18 (fun h => ?_)
      refine ww_goto (pc := 19) hC 23 dX6_shotsOf_19 (by decide) ?_
      exact ww_iret (pc := 23) hC hr (ret_r h) dX6_shotsOf_23
noncomputable def fX4_side (Z : XS) (a0 : Nat) (a1 : Nat) (a2 : Nat) (X : XD) : Option Int32 := some ((X.1 a0 1) - (X.1 a0 1) / ((3 : Int32)) * ((3 : Int32)))
set_option maxHeartbeats 40000000 in
set_option maxRecDepth 100000 in
theorem ceX4_side {l : Launch} {E : XE} {w : XW} {z : Nat} {Z : XS}  (hL : LayC Z) {a0 : Nat} (h_a0 : KS Z a0) {a1 : Nat} (h_a1 : KK Z a1 9) {a2 : Nat} (h_a2 : KK Z a2 6) {X : XD} {r : Int32} (h : fX4_side Z a0 a1 a2 X = some r) : Ct l E w yX4_side (wsM yX4_side cX4_side 3 (some .int)) (rmX 1 0 0) 0 0 [.ref (w.1 a0), .ref (w.1 a1), .ref (w.1 a2)] z z Z Z X X (some (.int r)) := by
  refine ct_of (by decide) (Nat.le_of_ble_eq_true rfl) ?_
  intro p e s m args below meth c hC hr hin hav
  unfold fX4_side at h
  refine ww_lv (lv' := [(0, .ref (w.1 a0)), (1, .ref (w.1 a1)), (2, .ref (w.1 a2))]) rfl ?_
  refine ww_aload_n (pc := 0) hC dX4_side_0 0 rfl ?_
  refine ww_getS (pc := 1) hC 1 (by decide) h_a0 RX4 "v" rfl qf_X4_15 (Or.inl rfl) dX4_side_1 ?_
  refine ww_iconst (pc := 4) hC (v := (3 : Int32)) dX4_side_4 (by decide) ?_
  refine ww_irem (pc := 5) hC dX4_side_5 (by decide) ?_
  exact ww_iret (pc := 6) hC hr (ret_r h) dX4_side_6
noncomputable def fX6_lastOf (Z : XS) (a0 : Nat) (x1 : Int32) (X : XD) : Option Int32 := if x1 < 0 then some ((3 : Int32)) else if ((6 : Int32)) ≤ x1 then some ((3 : Int32)) else gin x1 6 (some (X.1 (a0 + 1) (x1).toNatClampNeg))
set_option maxHeartbeats 40000000 in
set_option maxRecDepth 100000 in
theorem ceX6_lastOf {l : Launch} {E : XE} {w : XW} {z : Nat} {Z : XS}  (hL : LayC Z) {a0 : Nat} (h_a0 : KK Z a0 6) {x1 : Int32} {X : XD} {r : Int32} (h : fX6_lastOf Z a0 x1 X = some r) : Ct l E w yX6_lastOf (wsM yX6_lastOf cX6_lastOf 2 (some .int)) (rmX 1 0 0) 0 0 [.ref (w.1 a0), .int x1] z z Z Z X X (some (.int r)) := by
  refine ct_of (by decide) (Nat.le_of_ble_eq_true rfl) ?_
  intro p e s m args below meth c hC hr hin hav
  unfold fX6_lastOf at h
  refine ww_lv (lv' := [(0, .ref (w.1 a0)), (1, .int x1)]) rfl ?_
  refine ww_iload_n (pc := 0) hC dX6_lastOf_0 1 rfl ?_
  refine ww_if_lt (pc := 1) hC h 22 dX6_lastOf_1 (by decide) (fun h => ?_) (fun h => ?_)
  · refine ww_iconst (pc := 22) hC (v := (3 : Int32)) dX6_lastOf_22 (by decide) ?_
    exact ww_iret (pc := 23) hC hr (ret_r h) dX6_lastOf_23
  · refine ww_iload_n (pc := 4) hC dX6_lastOf_4 1 rfl ?_
    refine ww_aload_n (pc := 5) hC dX6_lastOf_5 0 rfl ?_
    refine ww_getR (pc := 6) hC 6 4 (a0 + 1) h_a0 RX6 (by decide) (by decide) rfl (lay_6_4 hL h_a0).1 qf_X6_15 rfl dX6_lastOf_6 ?_
    refine ww_alen (pc := 9) hC ((6 : Int32)) ((lay_6_4 hL h_a0).2) (by decide) (by decide) rfl dX6_lastOf_9 ?_
    refine ww_icmp_ge (pc := 10) hC h 22 dX6_lastOf_10 (by decide) (fun h => ?_) (fun h => ?_)
    · refine ww_iconst (pc := 22) hC (v := (3 : Int32)) dX6_lastOf_22 (by decide) ?_
      exact ww_iret (pc := 23) hC hr (ret_r h) dX6_lastOf_23
    · refine ww_aload_n (pc := 13) hC dX6_lastOf_13 0 rfl ?_
      refine ww_getR (pc := 14) hC 6 4 (a0 + 1) h_a0 RX6 (by decide) (by decide) rfl (lay_6_4 hL h_a0).1 qf_X6_15 rfl dX6_lastOf_14 ?_
      refine ww_iload_n (pc := 17) hC dX6_lastOf_17 1 rfl ?_
      refine ww_iald (pc := 18) hC ((lay_6_4 hL h_a0).2) h dX6_lastOf_18 (fun h => ?_)
      refine ww_goto (pc := 19) hC 23 dX6_lastOf_19 (by decide) ?_
      exact ww_iret (pc := 23) hC hr (ret_r h) dX6_lastOf_23
noncomputable def fX8_side_19 (Z : XS) (a0 : Nat) (a1 : Nat) (a2 : Nat) (X : XD) : Option Int32 := bnd (fX4_side Z a0 a1 a2 X) (fun r4 => some r4)
noncomputable def fX8_side (Z : XS) (a0 : Nat) (a1 : Nat) (a2 : Nat) (X : XD) : Option Int32 := bnd (fX6_lastOf Z a2 (X.1 a0 0) X) (fun r2 => if r2 = ((1 : Int32)) then fX8_side_19 Z a0 a1 a2 X else if r2 = ((3 : Int32)) then fX8_side_19 Z a0 a1 a2 X else some (((2 : Int32)) - r2))
set_option maxHeartbeats 40000000 in
set_option maxRecDepth 100000 in
theorem ceX8_side {l : Launch} {E : XE} {w : XW} {z : Nat} {Z : XS}  (hL : LayC Z) {a0 : Nat} (h_a0 : KS Z a0) {a1 : Nat} (h_a1 : KK Z a1 9) {a2 : Nat} (h_a2 : KK Z a2 6) {X : XD} {r : Int32} (h : fX8_side Z a0 a1 a2 X = some r) : Ct l E w yX8_side (wsM yX8_side cX8_side 4 (some .int)) (rmX 2 0 0) 0 0 [.ref (w.1 a0), .ref (w.1 a1), .ref (w.1 a2)] z z Z Z X X (some (.int r)) := by
  refine ct_of (by decide) (Nat.le_of_ble_eq_true rfl) ?_
  intro p e s m args below meth c hC hr hin hav
  have j19 : fX8_side_19 Z a0 a1 a2 X = some r → WW p l e (rmX 2 0 0) s m args below meth c 4 (MQ below (XQ E w z Z X (some (.int r))) args s 0 0 (A0 E)) E w 0 0 z Z 19 [(0, .ref (w.1 a0)), (1, .ref (w.1 a1)), (2, .ref (w.1 a2))] [] X := by
    intro h
    unfold fX8_side_19 at h
    refine ww_aload_n (pc := 19) hC dX8_side_19 0 rfl ?_
    refine ww_aload_n (pc := 20) hC dX8_side_20 1 rfl ?_
    refine ww_aload_n (pc := 21) hC dX8_side_21 2 rfl ?_
    obtain ⟨r4, h3, h⟩ := bnd_i h
    refine ww_callSUi (pc := 22) hC [.ref (w.1 a1), .ref (w.1 a2)] h_a0.1 (KS.lt h_a0) (ceX4_side hL h_a0 h_a1 h_a2 h3) ql_X8_21 qm_X4_X4_side qu_X8 (Or.inl rfl) rfl qi_X4_side qn_X4 qc_X4_side (by decide) rfl rfl ⟨Nat.le_of_ble_eq_true rfl, Nat.le_of_ble_eq_true rfl⟩ (by decide) (rest := []) (Nat.le_of_ble_eq_true rfl) dX8_side_22 ⟨Nat.le_of_ble_eq_true rfl, Nat.le_of_ble_eq_true rfl⟩ rfl ?_
    refine ww_goto (pc := 25) hC 31 dX8_side_25 (by decide) ?_
    exact ww_iret (pc := 31) hC hr (ret_r h) dX8_side_31
  unfold fX8_side at h
  refine ww_lv (lv' := [(0, .ref (w.1 a0)), (1, .ref (w.1 a1)), (2, .ref (w.1 a2))]) rfl ?_
  refine ww_aload_n (pc := 0) hC dX8_side_0 2 rfl ?_
  refine ww_aload_n (pc := 1) hC dX8_side_1 0 rfl ?_
  refine ww_getS (pc := 2) hC 0 (by decide) h_a0 RX8 "number" rfl qf_X8_9 (Or.inr qd_X8_number) dX8_side_2 ?_
  obtain ⟨r2, h1, h⟩ := bnd_i h
  refine ww_callVi (pc := 5) hC [.int (X.1 a0 0)] h_a2.1 h_a2.2 (by decide) (ceX6_lastOf hL h_a2 h1) ql_X8_15 qi_X6_lastOf qs_X6_X6_lastOf qn_X6 qc_X6_lastOf rfl ⟨by decide, by decide, rfl⟩ rfl ⟨Nat.le_of_ble_eq_true rfl, Nat.le_of_ble_eq_true rfl⟩ (by decide) (rest := []) (Nat.le_of_ble_eq_true rfl) dX8_side_5 ⟨Nat.le_of_ble_eq_true rfl, Nat.le_of_ble_eq_true rfl⟩ rfl ?_
  refine ww_istore_n (pc := 8) hC [(3, .int r2), (0, .ref (w.1 a0)), (1, .ref (w.1 a1)), (2, .ref (w.1 a2))] dX8_side_8 rfl (by decide) rfl ?_
  refine ww_iload_n (pc := 9) hC dX8_side_9 0 rfl ?_
  refine ww_iconst (pc := 10) hC (v := (1 : Int32)) dX8_side_10 (by decide) ?_
  refine ww_icmp_eq (pc := 11) hC h 19 dX8_side_11 (by decide) (fun h => ?_) (fun h => ?_)
  · refine ww_sub [1, 2, 3] rfl ?_
    exact j19 h
  · refine ww_iload_n (pc := 14) hC dX8_side_14 0 rfl ?_
    refine ww_iconst (pc := 15) hC (v := (3 : Int32)) dX8_side_15 (by decide) ?_
    refine ww_icmp_ne (pc := 16) hC h 28 dX8_side_16 (by decide) (fun h => ?_) (fun h => ?_)
    · refine ww_iconst (pc := 28) hC (v := (2 : Int32)) dX8_side_28 (by decide) ?_
      refine ww_iload_n (pc := 29) hC dX8_side_29 0 rfl ?_
      refine ww_isub (pc := 30) hC dX8_side_30 ?_
      exact ww_iret (pc := 31) hC hr (ret_r h) dX8_side_31
    · refine ww_sub [1, 2, 3] rfl ?_
      exact j19 h
noncomputable def fX0_side (Z : XS) (a0 : Nat) (a1 : Nat) (a2 : Nat) (X : XD) : Option Int32 := bnd (fX6_shotsOf Z a2 (X.1 a0 0) X) (fun r2 => if (r2 - r2 / ((2 : Int32)) * ((2 : Int32))) = 0 then bnd (fX8_side Z a0 a1 a2 X) (fun r4 => some r4) else some ((1 : Int32)))
set_option maxHeartbeats 40000000 in
set_option maxRecDepth 100000 in
theorem ceX0_side {l : Launch} {E : XE} {w : XW} {z : Nat} {Z : XS}  (hL : LayC Z) {a0 : Nat} (h_a0 : KS Z a0) {a1 : Nat} (h_a1 : KK Z a1 9) {a2 : Nat} (h_a2 : KK Z a2 6) {X : XD} {r : Int32} (h : fX0_side Z a0 a1 a2 X = some r) : Ct l E w yX0_side (wsM yX0_side cX0_side 3 (some .int)) (rmX 3 0 0) 0 0 [.ref (w.1 a0), .ref (w.1 a1), .ref (w.1 a2)] z z Z Z X X (some (.int r)) := by
  refine ct_of (by decide) (Nat.le_of_ble_eq_true rfl) ?_
  intro p e s m args below meth c hC hr hin hav
  unfold fX0_side at h
  refine ww_lv (lv' := [(0, .ref (w.1 a0)), (1, .ref (w.1 a1)), (2, .ref (w.1 a2))]) rfl ?_
  refine ww_aload_n (pc := 0) hC dX0_side_0 2 rfl ?_
  refine ww_aload_n (pc := 1) hC dX0_side_1 0 rfl ?_
  refine ww_getS (pc := 2) hC 0 (by decide) h_a0 RX0 "number" rfl qf_X0_9 (Or.inr qd_X0_number) dX0_side_2 ?_
  obtain ⟨r2, h1, h⟩ := bnd_i h
  refine ww_callVi (pc := 5) hC [.int (X.1 a0 0)] h_a2.1 h_a2.2 (by decide) (ceX6_shotsOf hL h_a2 h1) ql_X0_15 qi_X6_shotsOf qs_X6_X6_shotsOf qn_X6 qc_X6_shotsOf rfl ⟨by decide, by decide, rfl⟩ rfl ⟨Nat.le_of_ble_eq_true rfl, Nat.le_of_ble_eq_true rfl⟩ (by decide) (rest := []) (Nat.le_of_ble_eq_true rfl) dX0_side_5 ⟨Nat.le_of_ble_eq_true rfl, Nat.le_of_ble_eq_true rfl⟩ rfl ?_
  refine ww_iconst (pc := 8) hC (v := (2 : Int32)) dX0_side_8 (by decide) ?_
  refine ww_irem (pc := 9) hC dX0_side_9 (by decide) ?_
  refine ww_if_ne (pc := 10) hC h 22 dX0_side_10 (by decide) (fun h => ?_) (fun h => ?_)
  · refine ww_iconst (pc := 22) hC (v := (1 : Int32)) dX0_side_22 (by decide) ?_
    exact ww_iret (pc := 23) hC hr (ret_r h) dX0_side_23
  · refine ww_aload_n (pc := 13) hC dX0_side_13 0 rfl ?_
    refine ww_aload_n (pc := 14) hC dX0_side_14 1 rfl ?_
    refine ww_aload_n (pc := 15) hC dX0_side_15 2 rfl ?_
    obtain ⟨r4, h3, h⟩ := bnd_i h
    refine ww_callSUi (pc := 16) hC [.ref (w.1 a1), .ref (w.1 a2)] h_a0.1 (KS.lt h_a0) (ceX8_side hL h_a0 h_a1 h_a2 h3) ql_X0_21 qm_X8_X8_side qu_X0 (Or.inl rfl) rfl qi_X8_side qn_X8 qc_X8_side (by decide) rfl rfl ⟨Nat.le_of_ble_eq_true rfl, Nat.le_of_ble_eq_true rfl⟩ (by decide) (rest := []) (Nat.le_of_ble_eq_true rfl) dX0_side_16 ⟨Nat.le_of_ble_eq_true rfl, Nat.le_of_ble_eq_true rfl⟩ rfl ?_
    refine ww_goto (pc := 19) hC 23 dX0_side_19 (by decide) ?_
    exact ww_iret (pc := 23) hC hr (ret_r h) dX0_side_23
noncomputable def fX3_add (Z : XS) (a0 : Nat) (x1 : Int32) (X : XD) : Option (Int32 × XD) := nm (wI X a0 2 ((X.1 a0 2) + ((1 : Int32)))) (fun X_1 => if (X_1.1 a0 1) < 0 then some ((0 : Int32), X_1) else if (X_1.1 a0 1) < (Int32.ofNat (sL Z (a0 + 1))) then gin (X_1.1 a0 1) (sL Z (a0 + 1)) (nm (wI X_1 (a0 + 1) (X_1.1 a0 1).toNatClampNeg x1) (fun X_2 => nm (wI X_2 a0 1 ((X_2.1 a0 1) + ((1 : Int32)))) (fun X_3 => some ((1 : Int32), X_3)))) else some ((0 : Int32), X_1))
set_option maxHeartbeats 40000000 in
set_option maxRecDepth 100000 in
theorem ceX3_add {l : Launch} {E : XE} {w : XW} {z : Nat} {Z : XS}  (hL : LayC Z) {a0 : Nat} (h_a0 : KK Z a0 3) {x1 : Int32} {X X1 : XD} {r : Int32} (h : fX3_add Z a0 x1 X = some (r, X1)) : Ct l E w yX3_add (wsM yX3_add cX3_add 2 (some .boolean)) (rmX 1 0 0) 0 0 [.ref (w.1 a0), .int x1] z z Z Z X X1 (some (.int r)) := by
  refine ct_of (by decide) (Nat.le_of_ble_eq_true rfl) ?_
  intro p e s m args below meth c hC hr hin hav
  unfold fX3_add at h
  refine ww_lv (lv' := [(0, .ref (w.1 a0)), (1, .int x1)]) rfl ?_
  refine ww_aload_n (pc := 0) hC dX3_add_0 0 rfl ?_
  refine ww_dup (pc := 1) hC dX3_add_1 rfl ?_
  refine ww_getI (pc := 2) hC 3 2 h_a0 RX3 (by decide) (by decide) rfl qf_X3_21 (Or.inl rfl) dX3_add_2 ?_
  refine ww_iconst (pc := 5) hC (v := (1 : Int32)) dX3_add_5 (by decide) ?_
  refine ww_iadd (pc := 6) hC dX3_add_6 ?_
  refine ww_putI (pc := 7) hC 3 2 h_a0 RX3 (by decide) (by decide) rfl qf_X3_21 rfl rfl rfl rfl dX3_add_7 ?_
  obtain ⟨X_1, eX_1⟩ : ∃ q, q = wI X a0 2 ((X.1 a0 2) + ((1 : Int32))) := ⟨_, rfl⟩
  replace h := nm_i h eX_1
  refine ww_nmX eX_1 ?_
  refine ww_aload_n (pc := 10) hC dX3_add_10 0 rfl ?_
  refine ww_getI (pc := 11) hC 3 1 h_a0 RX3 (by decide) (by decide) rfl qf_X3_25 (Or.inl rfl) dX3_add_11 ?_
  refine ww_if_lt (pc := 14) hC h 29 dX3_add_14 (by decide) (fun h => ?_) (fun h => ?_)
  · refine ww_iconst (pc := 29) hC (v := (0 : Int32)) dX3_add_29 (by decide) ?_
    exact ww_zret (pc := 30) hC hr rfl h dX3_add_30
  · refine ww_aload_n (pc := 17) hC dX3_add_17 0 rfl ?_
    refine ww_getI (pc := 18) hC 3 1 h_a0 RX3 (by decide) (by decide) rfl qf_X3_25 (Or.inl rfl) dX3_add_18 ?_
    refine ww_aload_n (pc := 21) hC dX3_add_21 0 rfl ?_
    refine ww_getR (pc := 22) hC 3 0 (a0 + 1) h_a0 RX3 (by decide) (by decide) rfl (lay_3_0 hL h_a0).1 qf_X3_15 rfl dX3_add_22 ?_
    refine ww_alen (pc := 25) hC (Int32.ofNat (sL Z (a0 + 1))) ((lay_3_0 hL h_a0).2) (by decide) (by decide) rfl dX3_add_25 ?_
    refine ww_icmp_lt (pc := 26) hC h 31 dX3_add_26 (by decide) (fun h => ?_) (fun h => ?_)
    · refine ww_aload_n (pc := 31) hC dX3_add_31 0 rfl ?_
      refine ww_getR (pc := 32) hC 3 0 (a0 + 1) h_a0 RX3 (by decide) (by decide) rfl (lay_3_0 hL h_a0).1 qf_X3_15 rfl dX3_add_32 ?_
      refine ww_aload_n (pc := 35) hC dX3_add_35 0 rfl ?_
      refine ww_getI (pc := 36) hC 3 1 h_a0 RX3 (by decide) (by decide) rfl qf_X3_25 (Or.inl rfl) dX3_add_36 ?_
      refine ww_iload_n (pc := 39) hC dX3_add_39 1 rfl ?_
      refine ww_iast (pc := 40) hC ((lay_3_0 hL h_a0).2) h dX3_add_40 (fun h => ?_)
      obtain ⟨X_2, eX_2⟩ : ∃ q, q = wI X_1 (a0 + 1) (X_1.1 a0 1).toNatClampNeg x1 := ⟨_, rfl⟩
      replace h := nm_i h eX_2
      refine ww_nmX eX_2 ?_
      refine ww_aload_n (pc := 41) hC dX3_add_41 0 rfl ?_
      refine ww_dup (pc := 42) hC dX3_add_42 rfl ?_
      refine ww_getI (pc := 43) hC 3 1 h_a0 RX3 (by decide) (by decide) rfl qf_X3_25 (Or.inl rfl) dX3_add_43 ?_
      refine ww_iconst (pc := 46) hC (v := (1 : Int32)) dX3_add_46 (by decide) ?_
      refine ww_iadd (pc := 47) hC dX3_add_47 ?_
      refine ww_putI (pc := 48) hC 3 1 h_a0 RX3 (by decide) (by decide) rfl qf_X3_25 rfl rfl rfl rfl dX3_add_48 ?_
      obtain ⟨X_3, eX_3⟩ : ∃ q, q = wI X_2 a0 1 ((X_2.1 a0 1) + ((1 : Int32))) := ⟨_, rfl⟩
      replace h := nm_i h eX_3
      refine ww_nmX eX_3 ?_
      refine ww_iconst (pc := 51) hC (v := (1 : Int32)) dX3_add_51 (by decide) ?_
      exact ww_zret (pc := 52) hC hr rfl h dX3_add_52
    · refine ww_iconst (pc := 29) hC (v := (0 : Int32)) dX3_add_29 (by decide) ?_
      exact ww_zret (pc := 30) hC hr rfl h dX3_add_30
noncomputable def fX4_aims (Z : XS) (a0 : Nat) (a2 : Nat) (x1 : Int32) (X : XD) : Option (Int32 × XD) := bnw (fX3_add Z a2 ((10 : Int32)) X) (fun r2 X_3 => some (x1 + (X_3.1 a0 0), X_3))
set_option maxHeartbeats 40000000 in
set_option maxRecDepth 100000 in
theorem ceX4_aims {l : Launch} {E : XE} {w : XW} {z : Nat} {Z : XS}  (hL : LayC Z) {a0 : Nat} (h_a0 : KS Z a0) {a2 : Nat} (h_a2 : KK Z a2 3) {x1 : Int32} {X X1 : XD} {r : Int32} (h : fX4_aims Z a0 a2 x1 X = some (r, X1)) : Ct l E w yX4_aims (wsM yX4_aims cX4_aims 3 (some .int)) (rmX 2 0 0) 0 0 [.ref (w.1 a0), .int x1, .ref (w.1 a2)] z z Z Z X X1 (some (.int r)) := by
  refine ct_of (by decide) (Nat.le_of_ble_eq_true rfl) ?_
  intro p e s m args below meth c hC hr hin hav
  unfold fX4_aims at h
  refine ww_lv (lv' := [(0, .ref (w.1 a0)), (1, .int x1), (2, .ref (w.1 a2))]) rfl ?_
  refine ww_aload_n (pc := 0) hC dX4_aims_0 2 rfl ?_
  refine ww_bipush (pc := 1) hC (v := (10 : Int32)) dX4_aims_1 (by decide) ?_
  obtain ⟨r2, X_3, h1, h⟩ := bnw_i h
  refine ww_callVi (pc := 3) hC [.int ((10 : Int32))] h_a2.1 h_a2.2 (by decide) (ceX3_add hL h_a2 h1) ql_X4_18 qi_X3_add qs_X3_X3_add qn_X3 qc_X3_add rfl ⟨by decide, by decide, rfl⟩ rfl ⟨Nat.le_of_ble_eq_true rfl, Nat.le_of_ble_eq_true rfl⟩ (by decide) (rest := []) (Nat.le_of_ble_eq_true rfl) dX4_aims_3 ⟨Nat.le_of_ble_eq_true rfl, Nat.le_of_ble_eq_true rfl⟩ rfl ?_
  refine ww_pop (pc := 6) hC dX4_aims_6 rfl ?_
  refine ww_iload_n (pc := 7) hC dX4_aims_7 1 rfl ?_
  refine ww_aload_n (pc := 8) hC dX4_aims_8 0 rfl ?_
  refine ww_getS (pc := 9) hC 0 (by decide) h_a0 RX4 "number" rfl qf_X4_9 (Or.inl rfl) dX4_aims_9 ?_
  refine ww_iadd (pc := 12) hC dX4_aims_12 ?_
  exact ww_iret (pc := 13) hC hr h dX4_aims_13
noncomputable def fX0_aims (Z : XS) (a0 : Nat) (a2 : Nat) (x1 : Int32) (X : XD) : Option (Int32 × XD) := bnw (fX3_add Z a2 ((50 : Int32)) X) (fun r2 X_3 => bnw (fX4_aims Z a0 a2 x1 X_3) (fun r5 X_6 => some (-r5, X_6)))
set_option maxHeartbeats 40000000 in
set_option maxRecDepth 100000 in
theorem ceX0_aims {l : Launch} {E : XE} {w : XW} {z : Nat} {Z : XS}  (hL : LayC Z) {a0 : Nat} (h_a0 : KS Z a0) {a2 : Nat} (h_a2 : KK Z a2 3) {x1 : Int32} {X X1 : XD} {r : Int32} (h : fX0_aims Z a0 a2 x1 X = some (r, X1)) : Ct l E w yX0_aims (wsM yX0_aims cX0_aims 3 (some .int)) (rmX 3 0 0) 0 0 [.ref (w.1 a0), .int x1, .ref (w.1 a2)] z z Z Z X X1 (some (.int r)) := by
  refine ct_of (by decide) (Nat.le_of_ble_eq_true rfl) ?_
  intro p e s m args below meth c hC hr hin hav
  unfold fX0_aims at h
  refine ww_lv (lv' := [(0, .ref (w.1 a0)), (1, .int x1), (2, .ref (w.1 a2))]) rfl ?_
  refine ww_aload_n (pc := 0) hC dX0_aims_0 2 rfl ?_
  refine ww_bipush (pc := 1) hC (v := (50 : Int32)) dX0_aims_1 (by decide) ?_
  obtain ⟨r2, X_3, h1, h⟩ := bnw_i h
  refine ww_callVi (pc := 3) hC [.int ((50 : Int32))] h_a2.1 h_a2.2 (by decide) (ceX3_add hL h_a2 h1) ql_X0_25 qi_X3_add qs_X3_X3_add qn_X3 qc_X3_add rfl ⟨by decide, by decide, rfl⟩ rfl ⟨Nat.le_of_ble_eq_true rfl, Nat.le_of_ble_eq_true rfl⟩ (by decide) (rest := []) (Nat.le_of_ble_eq_true rfl) dX0_aims_3 ⟨Nat.le_of_ble_eq_true rfl, Nat.le_of_ble_eq_true rfl⟩ rfl ?_
  refine ww_pop (pc := 6) hC dX0_aims_6 rfl ?_
  refine ww_aload_n (pc := 7) hC dX0_aims_7 0 rfl ?_
  refine ww_iload_n (pc := 8) hC dX0_aims_8 1 rfl ?_
  refine ww_aload_n (pc := 9) hC dX0_aims_9 2 rfl ?_
  obtain ⟨r5, X_6, h4, h⟩ := bnw_i h
  refine ww_callSUi (pc := 10) hC [.int x1, .ref (w.1 a2)] h_a0.1 (KS.lt h_a0) (ceX4_aims hL h_a0 h_a2 h4) ql_X0_31 qm_X8_X4_aims qu_X0 (Or.inr qu_X8) rfl qi_X4_aims qn_X4 qc_X4_aims (by decide) rfl rfl ⟨Nat.le_of_ble_eq_true rfl, Nat.le_of_ble_eq_true rfl⟩ (by decide) (rest := []) (Nat.le_of_ble_eq_true rfl) dX0_aims_10 ⟨Nat.le_of_ble_eq_true rfl, Nat.le_of_ble_eq_true rfl⟩ rfl ?_
  refine ww_ineg (pc := 13) hC dX0_aims_13 ?_
  exact ww_iret (pc := 14) hC hr h dX0_aims_14
noncomputable def fX5_aims (Z : XS) (a0 : Nat) (a2 : Nat) (x1 : Int32) (X : XD) : Option (Int32 × XD) := bnw (fX3_add Z a2 ((30 : Int32)) X) (fun r2 X_3 => bnw (fX4_aims Z a0 a2 (x1 * ((3 : Int32))) X_3) (fun r5 X_6 => some (r5, X_6)))
set_option maxHeartbeats 40000000 in
set_option maxRecDepth 100000 in
theorem ceX5_aims {l : Launch} {E : XE} {w : XW} {z : Nat} {Z : XS}  (hL : LayC Z) {a0 : Nat} (h_a0 : KS Z a0) {a2 : Nat} (h_a2 : KK Z a2 3) {x1 : Int32} {X X1 : XD} {r : Int32} (h : fX5_aims Z a0 a2 x1 X = some (r, X1)) : Ct l E w yX5_aims (wsM yX5_aims cX5_aims 3 (some .int)) (rmX 3 0 0) 0 0 [.ref (w.1 a0), .int x1, .ref (w.1 a2)] z z Z Z X X1 (some (.int r)) := by
  refine ct_of (by decide) (Nat.le_of_ble_eq_true rfl) ?_
  intro p e s m args below meth c hC hr hin hav
  unfold fX5_aims at h
  refine ww_lv (lv' := [(0, .ref (w.1 a0)), (1, .int x1), (2, .ref (w.1 a2))]) rfl ?_
  refine ww_aload_n (pc := 0) hC dX5_aims_0 2 rfl ?_
  refine ww_bipush (pc := 1) hC (v := (30 : Int32)) dX5_aims_1 (by decide) ?_
  obtain ⟨r2, X_3, h1, h⟩ := bnw_i h
  refine ww_callVi (pc := 3) hC [.int ((30 : Int32))] h_a2.1 h_a2.2 (by decide) (ceX3_add hL h_a2 h1) ql_X5_25 qi_X3_add qs_X3_X3_add qn_X3 qc_X3_add rfl ⟨by decide, by decide, rfl⟩ rfl ⟨Nat.le_of_ble_eq_true rfl, Nat.le_of_ble_eq_true rfl⟩ (by decide) (rest := []) (Nat.le_of_ble_eq_true rfl) dX5_aims_3 ⟨Nat.le_of_ble_eq_true rfl, Nat.le_of_ble_eq_true rfl⟩ rfl ?_
  refine ww_pop (pc := 6) hC dX5_aims_6 rfl ?_
  refine ww_aload_n (pc := 7) hC dX5_aims_7 0 rfl ?_
  refine ww_iload_n (pc := 8) hC dX5_aims_8 1 rfl ?_
  refine ww_iconst (pc := 9) hC (v := (3 : Int32)) dX5_aims_9 (by decide) ?_
  refine ww_imul (pc := 10) hC dX5_aims_10 ?_
  refine ww_aload_n (pc := 11) hC dX5_aims_11 2 rfl ?_
  obtain ⟨r5, X_6, h4, h⟩ := bnw_i h
  refine ww_callSUi (pc := 12) hC [.int (x1 * ((3 : Int32))), .ref (w.1 a2)] h_a0.1 (KS.lt h_a0) (ceX4_aims hL h_a0 h_a2 h4) ql_X5_31 qm_X4_X4_aims qu_X5 (Or.inl rfl) rfl qi_X4_aims qn_X4 qc_X4_aims (by decide) rfl rfl ⟨Nat.le_of_ble_eq_true rfl, Nat.le_of_ble_eq_true rfl⟩ (by decide) (rest := []) (Nat.le_of_ble_eq_true rfl) dX5_aims_12 ⟨Nat.le_of_ble_eq_true rfl, Nat.le_of_ble_eq_true rfl⟩ rfl ?_
  exact ww_iret (pc := 15) hC hr h dX5_aims_15
noncomputable def fX7_aims (Z : XS) (a0 : Nat) (a2 : Nat) (x1 : Int32) (X : XD) : Option (Int32 × XD) := bnw (fX3_add Z a2 ((71 : Int32)) X) (fun r2 X_3 => bnw (fX4_aims Z a0 a2 x1 X_3) (fun r5 X_6 => some (r5 ^^^ (X_6.1 a0 1), X_6)))
set_option maxHeartbeats 40000000 in
set_option maxRecDepth 100000 in
theorem ceX7_aims {l : Launch} {E : XE} {w : XW} {z : Nat} {Z : XS}  (hL : LayC Z) {a0 : Nat} (h_a0 : KS Z a0) {a2 : Nat} (h_a2 : KK Z a2 3) {x1 : Int32} {X X1 : XD} {r : Int32} (h : fX7_aims Z a0 a2 x1 X = some (r, X1)) : Ct l E w yX7_aims (wsM yX7_aims cX7_aims 3 (some .int)) (rmX 3 0 0) 0 0 [.ref (w.1 a0), .int x1, .ref (w.1 a2)] z z Z Z X X1 (some (.int r)) := by
  refine ct_of (by decide) (Nat.le_of_ble_eq_true rfl) ?_
  intro p e s m args below meth c hC hr hin hav
  unfold fX7_aims at h
  refine ww_lv (lv' := [(0, .ref (w.1 a0)), (1, .int x1), (2, .ref (w.1 a2))]) rfl ?_
  refine ww_aload_n (pc := 0) hC dX7_aims_0 2 rfl ?_
  refine ww_bipush (pc := 1) hC (v := (71 : Int32)) dX7_aims_1 (by decide) ?_
  obtain ⟨r2, X_3, h1, h⟩ := bnw_i h
  refine ww_callVi (pc := 3) hC [.int ((71 : Int32))] h_a2.1 h_a2.2 (by decide) (ceX3_add hL h_a2 h1) ql_X7_34 qi_X3_add qs_X3_X3_add qn_X3 qc_X3_add rfl ⟨by decide, by decide, rfl⟩ rfl ⟨Nat.le_of_ble_eq_true rfl, Nat.le_of_ble_eq_true rfl⟩ (by decide) (rest := []) (Nat.le_of_ble_eq_true rfl) dX7_aims_3 ⟨Nat.le_of_ble_eq_true rfl, Nat.le_of_ble_eq_true rfl⟩ rfl ?_
  refine ww_pop (pc := 6) hC dX7_aims_6 rfl ?_
  refine ww_aload_n (pc := 7) hC dX7_aims_7 0 rfl ?_
  refine ww_iload_n (pc := 8) hC dX7_aims_8 1 rfl ?_
  refine ww_aload_n (pc := 9) hC dX7_aims_9 2 rfl ?_
  obtain ⟨r5, X_6, h4, h⟩ := bnw_i h
  refine ww_callSUi (pc := 10) hC [.int x1, .ref (w.1 a2)] h_a0.1 (KS.lt h_a0) (ceX4_aims hL h_a0 h_a2 h4) ql_X7_44 qm_X10_X4_aims qu_X7 (Or.inr qu_X10) rfl qi_X4_aims qn_X4 qc_X4_aims (by decide) rfl rfl ⟨Nat.le_of_ble_eq_true rfl, Nat.le_of_ble_eq_true rfl⟩ (by decide) (rest := []) (Nat.le_of_ble_eq_true rfl) dX7_aims_10 ⟨Nat.le_of_ble_eq_true rfl, Nat.le_of_ble_eq_true rfl⟩ rfl ?_
  refine ww_aload_n (pc := 13) hC dX7_aims_13 0 rfl ?_
  refine ww_getS (pc := 14) hC 1 (by decide) h_a0 RX7 "v" rfl qf_X7_47 (Or.inr qd_X7_v) dX7_aims_14 ?_
  refine ww_ixor (pc := 17) hC dX7_aims_17 ?_
  exact ww_iret (pc := 18) hC hr h dX7_aims_18
noncomputable def fV_X4_aims (Z : XS) (a0 : Nat) (a2 : Nat) (x1 : Int32) (X : XD) : Option (Int32 × XD) := if sK Z a0 = 0 then fX0_aims Z a0 a2 x1 X else (if sK Z a0 = 2 then fX5_aims Z a0 a2 x1 X else (if sK Z a0 = 4 then fX4_aims Z a0 a2 x1 X else (if sK Z a0 = 5 then fX5_aims Z a0 a2 x1 X else (if sK Z a0 = 7 then fX7_aims Z a0 a2 x1 X else (if sK Z a0 = 8 then fX4_aims Z a0 a2 x1 X else (fX4_aims Z a0 a2 x1 X))))))
set_option maxHeartbeats 4000000 in
theorem vd_X4_aims {p : Program} {l : Launch} {e : Env} {R : Room} {s : State} {m : MethodId} {args : Array Value} {below : List Frame} {meth : Method} {c : Code} {nL : Nat} {Q : State → Prop} {E : XE} {w : XW} {cells slots z : Nat} {Z : XS} {pc idx : Nat} {lv : List (Nat × Value)} {rest : List Value} {X X1 : XD} {cc : ByteArray} {own : String} {a0 : Nat} {x1 : Int32} {a2 : Nat} {r : Int32} (h : CX p s m args meth c E cc nL own) (hL : LayC Z) (hk : KS Z a0) (h_a2 : KK Z a2 3) (hf : fV_X4_aims Z a0 a2 x1 X = some (r, X1)) (w1 : Cond.methodLink own idx yX4_aims ∈ xtb) (hR : 3 + 1 ≤ R.frames ∧ 60 * (3 + 1) ≤ R.locals) (hst : (rest.map fun v => v.category).sum ≤ 8) (hd : decode cc pc = .ok (.invokevirtual idx, 3)) (hfz : cells ≤ R.cells ∧ slots ≤ R.slots)
    (kk : WW p l e R s m args below meth c nL Q E w cells slots z Z (pc + 3) lv (.int r :: rest) X1) : WW p l e R s m args below meth c nL Q E w cells slots z Z pc lv (.ref (w.1 a2) :: .int x1 :: .ref (w.1 a0) :: rest) X := by
  obtain ⟨hn, hs⟩ := id hk
  unfold fV_X4_aims at hf
  unfold isSh at hs
  rcases hs with e1 | e1 | e1 | e1 | e1 | e1 | e1
  · rw [if_pos e1] at hf; exact ww_callOi h [.int x1, .ref (w.1 a2)] hn e1 (by decide) (ceX0_aims hL hk h_a2 hf) w1 qm_X4_X4_aims qi_X4_aims qc_X4_aims qs_X0_X4_aims qi_X0_aims qn_X0 qc_X0_aims ⟨by decide, by decide, rfl⟩ rfl ⟨Nat.le_trans (by decide) hR.1, Nat.le_trans (by decide) hR.2⟩ (by decide) hst hd hfz rfl kk
  · rw [if_neg (by rw [e1]; decide)] at hf; rw [if_pos e1] at hf; exact ww_callOi h [.int x1, .ref (w.1 a2)] hn e1 (by decide) (ceX5_aims hL hk h_a2 hf) w1 qm_X4_X4_aims qi_X4_aims qc_X4_aims qs_X2_X4_aims qi_X5_aims qn_X5 qc_X5_aims ⟨by decide, by decide, rfl⟩ rfl ⟨Nat.le_trans (by decide) hR.1, Nat.le_trans (by decide) hR.2⟩ (by decide) hst hd hfz rfl kk
  · rw [if_neg (by rw [e1]; decide)] at hf; rw [if_neg (by rw [e1]; decide)] at hf; rw [if_pos e1] at hf; exact ww_callOi h [.int x1, .ref (w.1 a2)] hn e1 (by decide) (ceX4_aims hL hk h_a2 hf) w1 qm_X4_X4_aims qi_X4_aims qc_X4_aims qs_X4_X4_aims qi_X4_aims qn_X4 qc_X4_aims ⟨by decide, by decide, rfl⟩ rfl ⟨Nat.le_trans (by decide) hR.1, Nat.le_trans (by decide) hR.2⟩ (by decide) hst hd hfz rfl kk
  · rw [if_neg (by rw [e1]; decide)] at hf; rw [if_neg (by rw [e1]; decide)] at hf; rw [if_neg (by rw [e1]; decide)] at hf; rw [if_pos e1] at hf; exact ww_callOi h [.int x1, .ref (w.1 a2)] hn e1 (by decide) (ceX5_aims hL hk h_a2 hf) w1 qm_X4_X4_aims qi_X4_aims qc_X4_aims qs_X5_X4_aims qi_X5_aims qn_X5 qc_X5_aims ⟨by decide, by decide, rfl⟩ rfl ⟨Nat.le_trans (by decide) hR.1, Nat.le_trans (by decide) hR.2⟩ (by decide) hst hd hfz rfl kk
  · rw [if_neg (by rw [e1]; decide)] at hf; rw [if_neg (by rw [e1]; decide)] at hf; rw [if_neg (by rw [e1]; decide)] at hf; rw [if_neg (by rw [e1]; decide)] at hf; rw [if_pos e1] at hf; exact ww_callOi h [.int x1, .ref (w.1 a2)] hn e1 (by decide) (ceX7_aims hL hk h_a2 hf) w1 qm_X4_X4_aims qi_X4_aims qc_X4_aims qs_X7_X4_aims qi_X7_aims qn_X7 qc_X7_aims ⟨by decide, by decide, rfl⟩ rfl ⟨Nat.le_trans (by decide) hR.1, Nat.le_trans (by decide) hR.2⟩ (by decide) hst hd hfz rfl kk
  · rw [if_neg (by rw [e1]; decide)] at hf; rw [if_neg (by rw [e1]; decide)] at hf; rw [if_neg (by rw [e1]; decide)] at hf; rw [if_neg (by rw [e1]; decide)] at hf; rw [if_neg (by rw [e1]; decide)] at hf; rw [if_pos e1] at hf; exact ww_callOi h [.int x1, .ref (w.1 a2)] hn e1 (by decide) (ceX4_aims hL hk h_a2 hf) w1 qm_X4_X4_aims qi_X4_aims qc_X4_aims qs_X8_X4_aims qi_X4_aims qn_X4 qc_X4_aims ⟨by decide, by decide, rfl⟩ rfl ⟨Nat.le_trans (by decide) hR.1, Nat.le_trans (by decide) hR.2⟩ (by decide) hst hd hfz rfl kk
  · rw [if_neg (by rw [e1]; decide)] at hf; rw [if_neg (by rw [e1]; decide)] at hf; rw [if_neg (by rw [e1]; decide)] at hf; rw [if_neg (by rw [e1]; decide)] at hf; rw [if_neg (by rw [e1]; decide)] at hf; rw [if_neg (by rw [e1]; decide)] at hf; exact ww_callOi h [.int x1, .ref (w.1 a2)] hn e1 (by decide) (ceX4_aims hL hk h_a2 hf) w1 qm_X4_X4_aims qi_X4_aims qc_X4_aims qs_X10_X4_aims qi_X4_aims qn_X4 qc_X4_aims ⟨by decide, by decide, rfl⟩ rfl ⟨Nat.le_trans (by decide) hR.1, Nat.le_trans (by decide) hR.2⟩ (by decide) hst hd hfz rfl kk
noncomputable def fX4_shows (Z : XS) (a0 : Nat) (a2 : Nat) (x1 : Int32) (X : XD) : Option (Int32 × XD) := bnw (fX3_add Z a2 ((11 : Int32)) X) (fun r2 X_3 => bnw (fV_X4_aims Z a0 a2 x1 X_3) (fun r5 X_6 => some (r5 - (X_6.1 a0 1), X_6)))
set_option maxHeartbeats 40000000 in
set_option maxRecDepth 100000 in
theorem ceX4_shows {l : Launch} {E : XE} {w : XW} {z : Nat} {Z : XS}  (hL : LayC Z) {a0 : Nat} (h_a0 : KS Z a0) {a2 : Nat} (h_a2 : KK Z a2 3) {x1 : Int32} {X X1 : XD} {r : Int32} (h : fX4_shows Z a0 a2 x1 X = some (r, X1)) : Ct l E w yX4_shows (wsM yX4_shows cX4_shows 3 (some .int)) (rmX 4 0 0) 0 0 [.ref (w.1 a0), .int x1, .ref (w.1 a2)] z z Z Z X X1 (some (.int r)) := by
  refine ct_of (by decide) (Nat.le_of_ble_eq_true rfl) ?_
  intro p e s m args below meth c hC hr hin hav
  unfold fX4_shows at h
  refine ww_lv (lv' := [(0, .ref (w.1 a0)), (1, .int x1), (2, .ref (w.1 a2))]) rfl ?_
  refine ww_aload_n (pc := 0) hC dX4_shows_0 2 rfl ?_
  refine ww_bipush (pc := 1) hC (v := (11 : Int32)) dX4_shows_1 (by decide) ?_
  obtain ⟨r2, X_3, h1, h⟩ := bnw_i h
  refine ww_callVi (pc := 3) hC [.int ((11 : Int32))] h_a2.1 h_a2.2 (by decide) (ceX3_add hL h_a2 h1) ql_X4_18 qi_X3_add qs_X3_X3_add qn_X3 qc_X3_add rfl ⟨by decide, by decide, rfl⟩ rfl ⟨Nat.le_of_ble_eq_true rfl, Nat.le_of_ble_eq_true rfl⟩ (by decide) (rest := []) (Nat.le_of_ble_eq_true rfl) dX4_shows_3 ⟨Nat.le_of_ble_eq_true rfl, Nat.le_of_ble_eq_true rfl⟩ rfl ?_
  refine ww_pop (pc := 6) hC dX4_shows_6 rfl ?_
  refine ww_aload_n (pc := 7) hC dX4_shows_7 0 rfl ?_
  refine ww_iload_n (pc := 8) hC dX4_shows_8 1 rfl ?_
  refine ww_aload_n (pc := 9) hC dX4_shows_9 2 rfl ?_
  obtain ⟨r5, X_6, h4, h⟩ := bnw_i h
  refine vd_X4_aims (pc := 10) hC hL h_a0 h_a2 h4 ql_X4_24 ⟨Nat.le_of_ble_eq_true rfl, Nat.le_of_ble_eq_true rfl⟩ (Nat.le_of_ble_eq_true rfl) dX4_shows_10 ⟨Nat.le_of_ble_eq_true rfl, Nat.le_of_ble_eq_true rfl⟩ ?_
  refine ww_aload_n (pc := 13) hC dX4_shows_13 0 rfl ?_
  refine ww_getS (pc := 14) hC 1 (by decide) h_a0 RX4 "v" rfl qf_X4_15 (Or.inl rfl) dX4_shows_14 ?_
  refine ww_isub (pc := 17) hC dX4_shows_17 ?_
  exact ww_iret (pc := 18) hC hr h dX4_shows_18
noncomputable def fX8_shows (Z : XS) (a0 : Nat) (a2 : Nat) (x1 : Int32) (X : XD) : Option (Int32 × XD) := bnw (fX3_add Z a2 ((20 : Int32)) X) (fun r2 X_3 => bnw (fX4_shows Z a0 a2 x1 X_3) (fun r5 X_6 => some (r5 ^^^ ((6 : Int32)), X_6)))
set_option maxHeartbeats 40000000 in
set_option maxRecDepth 100000 in
theorem ceX8_shows {l : Launch} {E : XE} {w : XW} {z : Nat} {Z : XS}  (hL : LayC Z) {a0 : Nat} (h_a0 : KS Z a0) {a2 : Nat} (h_a2 : KK Z a2 3) {x1 : Int32} {X X1 : XD} {r : Int32} (h : fX8_shows Z a0 a2 x1 X = some (r, X1)) : Ct l E w yX8_shows (wsM yX8_shows cX8_shows 3 (some .int)) (rmX 5 0 0) 0 0 [.ref (w.1 a0), .int x1, .ref (w.1 a2)] z z Z Z X X1 (some (.int r)) := by
  refine ct_of (by decide) (Nat.le_of_ble_eq_true rfl) ?_
  intro p e s m args below meth c hC hr hin hav
  unfold fX8_shows at h
  refine ww_lv (lv' := [(0, .ref (w.1 a0)), (1, .int x1), (2, .ref (w.1 a2))]) rfl ?_
  refine ww_aload_n (pc := 0) hC dX8_shows_0 2 rfl ?_
  refine ww_bipush (pc := 1) hC (v := (20 : Int32)) dX8_shows_1 (by decide) ?_
  obtain ⟨r2, X_3, h1, h⟩ := bnw_i h
  refine ww_callVi (pc := 3) hC [.int ((20 : Int32))] h_a2.1 h_a2.2 (by decide) (ceX3_add hL h_a2 h1) ql_X8_25 qi_X3_add qs_X3_X3_add qn_X3 qc_X3_add rfl ⟨by decide, by decide, rfl⟩ rfl ⟨Nat.le_of_ble_eq_true rfl, Nat.le_of_ble_eq_true rfl⟩ (by decide) (rest := []) (Nat.le_of_ble_eq_true rfl) dX8_shows_3 ⟨Nat.le_of_ble_eq_true rfl, Nat.le_of_ble_eq_true rfl⟩ rfl ?_
  refine ww_pop (pc := 6) hC dX8_shows_6 rfl ?_
  refine ww_aload_n (pc := 7) hC dX8_shows_7 0 rfl ?_
  refine ww_iload_n (pc := 8) hC dX8_shows_8 1 rfl ?_
  refine ww_aload_n (pc := 9) hC dX8_shows_9 2 rfl ?_
  obtain ⟨r5, X_6, h4, h⟩ := bnw_i h
  refine ww_callSUi (pc := 10) hC [.int x1, .ref (w.1 a2)] h_a0.1 (KS.lt h_a0) (ceX4_shows hL h_a0 h_a2 h4) ql_X8_31 qm_X4_X4_shows qu_X8 (Or.inl rfl) rfl qi_X4_shows qn_X4 qc_X4_shows (by decide) rfl rfl ⟨Nat.le_of_ble_eq_true rfl, Nat.le_of_ble_eq_true rfl⟩ (by decide) (rest := []) (Nat.le_of_ble_eq_true rfl) dX8_shows_10 ⟨Nat.le_of_ble_eq_true rfl, Nat.le_of_ble_eq_true rfl⟩ rfl ?_
  refine ww_bipush (pc := 13) hC (v := (6 : Int32)) dX8_shows_13 (by decide) ?_
  refine ww_ixor (pc := 15) hC dX8_shows_15 ?_
  exact ww_iret (pc := 16) hC hr h dX8_shows_16
noncomputable def fX0_shows (Z : XS) (a0 : Nat) (a2 : Nat) (x1 : Int32) (X : XD) : Option (Int32 × XD) := bnw (fX3_add Z a2 ((51 : Int32)) X) (fun r2 X_3 => bnw (fX8_shows Z a0 a2 (x1 + ((1 : Int32))) X_3) (fun r5 X_6 => some (r5, X_6)))
set_option maxHeartbeats 40000000 in
set_option maxRecDepth 100000 in
theorem ceX0_shows {l : Launch} {E : XE} {w : XW} {z : Nat} {Z : XS}  (hL : LayC Z) {a0 : Nat} (h_a0 : KS Z a0) {a2 : Nat} (h_a2 : KK Z a2 3) {x1 : Int32} {X X1 : XD} {r : Int32} (h : fX0_shows Z a0 a2 x1 X = some (r, X1)) : Ct l E w yX0_shows (wsM yX0_shows cX0_shows 3 (some .int)) (rmX 6 0 0) 0 0 [.ref (w.1 a0), .int x1, .ref (w.1 a2)] z z Z Z X X1 (some (.int r)) := by
  refine ct_of (by decide) (Nat.le_of_ble_eq_true rfl) ?_
  intro p e s m args below meth c hC hr hin hav
  unfold fX0_shows at h
  refine ww_lv (lv' := [(0, .ref (w.1 a0)), (1, .int x1), (2, .ref (w.1 a2))]) rfl ?_
  refine ww_aload_n (pc := 0) hC dX0_shows_0 2 rfl ?_
  refine ww_bipush (pc := 1) hC (v := (51 : Int32)) dX0_shows_1 (by decide) ?_
  obtain ⟨r2, X_3, h1, h⟩ := bnw_i h
  refine ww_callVi (pc := 3) hC [.int ((51 : Int32))] h_a2.1 h_a2.2 (by decide) (ceX3_add hL h_a2 h1) ql_X0_25 qi_X3_add qs_X3_X3_add qn_X3 qc_X3_add rfl ⟨by decide, by decide, rfl⟩ rfl ⟨Nat.le_of_ble_eq_true rfl, Nat.le_of_ble_eq_true rfl⟩ (by decide) (rest := []) (Nat.le_of_ble_eq_true rfl) dX0_shows_3 ⟨Nat.le_of_ble_eq_true rfl, Nat.le_of_ble_eq_true rfl⟩ rfl ?_
  refine ww_pop (pc := 6) hC dX0_shows_6 rfl ?_
  refine ww_aload_n (pc := 7) hC dX0_shows_7 0 rfl ?_
  refine ww_iload_n (pc := 8) hC dX0_shows_8 1 rfl ?_
  refine ww_iconst (pc := 9) hC (v := (1 : Int32)) dX0_shows_9 (by decide) ?_
  refine ww_iadd (pc := 10) hC dX0_shows_10 ?_
  refine ww_aload_n (pc := 11) hC dX0_shows_11 2 rfl ?_
  obtain ⟨r5, X_6, h4, h⟩ := bnw_i h
  refine ww_callSUi (pc := 12) hC [.int (x1 + ((1 : Int32))), .ref (w.1 a2)] h_a0.1 (KS.lt h_a0) (ceX8_shows hL h_a0 h_a2 h4) ql_X0_35 qm_X8_X8_shows qu_X0 (Or.inl rfl) rfl qi_X8_shows qn_X8 qc_X8_shows (by decide) rfl rfl ⟨Nat.le_of_ble_eq_true rfl, Nat.le_of_ble_eq_true rfl⟩ (by decide) (rest := []) (Nat.le_of_ble_eq_true rfl) dX0_shows_12 ⟨Nat.le_of_ble_eq_true rfl, Nat.le_of_ble_eq_true rfl⟩ rfl ?_
  exact ww_iret (pc := 15) hC hr h dX0_shows_15
noncomputable def fX1_addStep (Z : XS) (a0 : Nat) (x1 : Int32) (X : XD) : Option (Int32 × XD) := if (X.1 a0 6) < 0 then some ((0 : Int32), X) else if (X.1 a0 6) < ((100 : Int32)) then gin (X.1 a0 6) 100 (nm (wI X (a0 + 5) (X.1 a0 6).toNatClampNeg x1) (fun X_1 => nm (wI X_1 a0 6 ((X_1.1 a0 6) + ((1 : Int32)))) (fun X_2 => some ((1 : Int32), X_2)))) else some ((0 : Int32), X)
set_option maxHeartbeats 40000000 in
set_option maxRecDepth 100000 in
theorem ceX1_addStep {l : Launch} {E : XE} {w : XW} {z : Nat} {Z : XS}  (hL : LayC Z) {a0 : Nat} (h_a0 : KK Z a0 1) {x1 : Int32} {X X1 : XD} {r : Int32} (h : fX1_addStep Z a0 x1 X = some (r, X1)) : Ct l E w yX1_addStep (wsM yX1_addStep cX1_addStep 2 (some .boolean)) (rmX 1 0 0) 0 0 [.ref (w.1 a0), .int x1] z z Z Z X X1 (some (.int r)) := by
  refine ct_of (by decide) (Nat.le_of_ble_eq_true rfl) ?_
  intro p e s m args below meth c hC hr hin hav
  unfold fX1_addStep at h
  refine ww_lv (lv' := [(0, .ref (w.1 a0)), (1, .int x1)]) rfl ?_
  refine ww_aload_n (pc := 0) hC dX1_addStep_0 0 rfl ?_
  refine ww_getI (pc := 1) hC 1 6 h_a0 RX1 (by decide) (by decide) rfl qf_X1_34 (Or.inl rfl) dX1_addStep_1 ?_
  refine ww_if_lt (pc := 4) hC h 19 dX1_addStep_4 (by decide) (fun h => ?_) (fun h => ?_)
  · refine ww_iconst (pc := 19) hC (v := (0 : Int32)) dX1_addStep_19 (by decide) ?_
    exact ww_zret (pc := 20) hC hr rfl h dX1_addStep_20
  · refine ww_aload_n (pc := 7) hC dX1_addStep_7 0 rfl ?_
    refine ww_getI (pc := 8) hC 1 6 h_a0 RX1 (by decide) (by decide) rfl qf_X1_34 (Or.inl rfl) dX1_addStep_8 ?_
    refine ww_aload_n (pc := 11) hC dX1_addStep_11 0 rfl ?_
    refine ww_getR (pc := 12) hC 1 5 (a0 + 5) h_a0 RX1 (by decide) (by decide) rfl (lay_1_5 hL h_a0).1 qf_X1_24 rfl dX1_addStep_12 ?_
    refine ww_alen (pc := 15) hC ((100 : Int32)) ((lay_1_5 hL h_a0).2) (by decide) (by decide) rfl dX1_addStep_15 ?_
    refine ww_icmp_lt (pc := 16) hC h 21 dX1_addStep_16 (by decide) (fun h => ?_) (fun h => ?_)
    · refine ww_aload_n (pc := 21) hC dX1_addStep_21 0 rfl ?_
      refine ww_getR (pc := 22) hC 1 5 (a0 + 5) h_a0 RX1 (by decide) (by decide) rfl (lay_1_5 hL h_a0).1 qf_X1_24 rfl dX1_addStep_22 ?_
      refine ww_aload_n (pc := 25) hC dX1_addStep_25 0 rfl ?_
      refine ww_getI (pc := 26) hC 1 6 h_a0 RX1 (by decide) (by decide) rfl qf_X1_34 (Or.inl rfl) dX1_addStep_26 ?_
      refine ww_iload_n (pc := 29) hC dX1_addStep_29 1 rfl ?_
      refine ww_iast (pc := 30) hC ((lay_1_5 hL h_a0).2) h dX1_addStep_30 (fun h => ?_)
      obtain ⟨X_1, eX_1⟩ : ∃ q, q = wI X (a0 + 5) (X.1 a0 6).toNatClampNeg x1 := ⟨_, rfl⟩
      replace h := nm_i h eX_1
      refine ww_nmX eX_1 ?_
      refine ww_aload_n (pc := 31) hC dX1_addStep_31 0 rfl ?_
      refine ww_dup (pc := 32) hC dX1_addStep_32 rfl ?_
      refine ww_getI (pc := 33) hC 1 6 h_a0 RX1 (by decide) (by decide) rfl qf_X1_34 (Or.inl rfl) dX1_addStep_33 ?_
      refine ww_iconst (pc := 36) hC (v := (1 : Int32)) dX1_addStep_36 (by decide) ?_
      refine ww_iadd (pc := 37) hC dX1_addStep_37 ?_
      refine ww_putI (pc := 38) hC 1 6 h_a0 RX1 (by decide) (by decide) rfl qf_X1_34 rfl rfl rfl rfl dX1_addStep_38 ?_
      obtain ⟨X_2, eX_2⟩ : ∃ q, q = wI X_1 a0 6 ((X_1.1 a0 6) + ((1 : Int32))) := ⟨_, rfl⟩
      replace h := nm_i h eX_2
      refine ww_nmX eX_2 ?_
      refine ww_iconst (pc := 41) hC (v := (1 : Int32)) dX1_addStep_41 (by decide) ?_
      exact ww_zret (pc := 42) hC hr rfl h dX1_addStep_42
    · refine ww_iconst (pc := 19) hC (v := (0 : Int32)) dX1_addStep_19 (by decide) ?_
      exact ww_zret (pc := 20) hC hr rfl h dX1_addStep_20
noncomputable def fX3_at (Z : XS) (a0 : Nat) (x1 : Int32) (X : XD) : Option Int32 := if x1 < 0 then some ((-1 : Int32)) else if (X.1 a0 1) ≤ x1 then some ((-1 : Int32)) else if (Int32.ofNat (sL Z (a0 + 1))) ≤ x1 then some ((-1 : Int32)) else gin x1 (sL Z (a0 + 1)) (some (X.1 (a0 + 1) (x1).toNatClampNeg))
set_option maxHeartbeats 40000000 in
set_option maxRecDepth 100000 in
theorem ceX3_at {l : Launch} {E : XE} {w : XW} {z : Nat} {Z : XS}  (hL : LayC Z) {a0 : Nat} (h_a0 : KK Z a0 3) {x1 : Int32} {X : XD} {r : Int32} (h : fX3_at Z a0 x1 X = some r) : Ct l E w yX3_at (wsM yX3_at cX3_at 2 (some .int)) (rmX 1 0 0) 0 0 [.ref (w.1 a0), .int x1] z z Z Z X X (some (.int r)) := by
  refine ct_of (by decide) (Nat.le_of_ble_eq_true rfl) ?_
  intro p e s m args below meth c hC hr hin hav
  unfold fX3_at at h
  refine ww_lv (lv' := [(0, .ref (w.1 a0)), (1, .int x1)]) rfl ?_
  refine ww_iload_n (pc := 0) hC dX3_at_0 1 rfl ?_
  refine ww_if_lt (pc := 1) hC h 30 dX3_at_1 (by decide) (fun h => ?_) (fun h => ?_)
  · refine ww_iconst (pc := 30) hC (v := (-1 : Int32)) dX3_at_30 (by decide) ?_
    exact ww_iret (pc := 31) hC hr (ret_r h) dX3_at_31
  · refine ww_iload_n (pc := 4) hC dX3_at_4 1 rfl ?_
    refine ww_aload_n (pc := 5) hC dX3_at_5 0 rfl ?_
    refine ww_getI (pc := 6) hC 3 1 h_a0 RX3 (by decide) (by decide) rfl qf_X3_25 (Or.inl rfl) dX3_at_6 ?_
    refine ww_icmp_ge (pc := 9) hC h 30 dX3_at_9 (by decide) (fun h => ?_) (fun h => ?_)
    · refine ww_iconst (pc := 30) hC (v := (-1 : Int32)) dX3_at_30 (by decide) ?_
      exact ww_iret (pc := 31) hC hr (ret_r h) dX3_at_31
    · refine ww_iload_n (pc := 12) hC dX3_at_12 1 rfl ?_
      refine ww_aload_n (pc := 13) hC dX3_at_13 0 rfl ?_
      refine ww_getR (pc := 14) hC 3 0 (a0 + 1) h_a0 RX3 (by decide) (by decide) rfl (lay_3_0 hL h_a0).1 qf_X3_15 rfl dX3_at_14 ?_
      refine ww_alen (pc := 17) hC (Int32.ofNat (sL Z (a0 + 1))) ((lay_3_0 hL h_a0).2) (by decide) (by decide) rfl dX3_at_17 ?_
      refine ww_icmp_ge (pc := 18) hC h 30 dX3_at_18 (by decide) (fun h => ?_) (fun h => ?_)
      · refine ww_iconst (pc := 30) hC (v := (-1 : Int32)) dX3_at_30 (by decide) ?_
        exact ww_iret (pc := 31) hC hr (ret_r h) dX3_at_31
      · refine ww_aload_n (pc := 21) hC dX3_at_21 0 rfl ?_
        refine ww_getR (pc := 22) hC 3 0 (a0 + 1) h_a0 RX3 (by decide) (by decide) rfl (lay_3_0 hL h_a0).1 qf_X3_15 rfl dX3_at_22 ?_
        refine ww_iload_n (pc := 25) hC dX3_at_25 1 rfl ?_
        refine ww_iald (pc := 26) hC ((lay_3_0 hL h_a0).2) h dX3_at_26 (fun h => ?_)
        refine ww_goto (pc := 27) hC 31 dX3_at_27 (by decide) ?_
        exact ww_iret (pc := 31) hC hr (ret_r h) dX3_at_31
noncomputable def fX1_skip (Z : XS) (a0 : Nat) (a1 : Nat) (x2 : Int32) (X : XD) : Option (Int32 × XD) := bnd (fX3_at Z a1 (X.1 a0 7) X) (fun r2 => if r2 = x2 then nm (wI X a0 7 ((X.1 a0 7) + ((1 : Int32)))) (fun X_3 => some ((1 : Int32), X_3)) else some ((0 : Int32), X))
set_option maxHeartbeats 40000000 in
set_option maxRecDepth 100000 in
theorem ceX1_skip {l : Launch} {E : XE} {w : XW} {z : Nat} {Z : XS}  (hL : LayC Z) {a0 : Nat} (h_a0 : KK Z a0 1) {a1 : Nat} (h_a1 : KK Z a1 3) {x2 : Int32} {X X1 : XD} {r : Int32} (h : fX1_skip Z a0 a1 x2 X = some (r, X1)) : Ct l E w yX1_skip (wsM yX1_skip cX1_skip 3 (some .boolean)) (rmX 2 0 0) 0 0 [.ref (w.1 a0), .ref (w.1 a1), .int x2] z z Z Z X X1 (some (.int r)) := by
  refine ct_of (by decide) (Nat.le_of_ble_eq_true rfl) ?_
  intro p e s m args below meth c hC hr hin hav
  unfold fX1_skip at h
  refine ww_lv (lv' := [(0, .ref (w.1 a0)), (1, .ref (w.1 a1)), (2, .int x2)]) rfl ?_
  refine ww_aload_n (pc := 0) hC dX1_skip_0 1 rfl ?_
  refine ww_aload_n (pc := 1) hC dX1_skip_1 0 rfl ?_
  refine ww_getI (pc := 2) hC 1 7 h_a0 RX1 (by decide) (by decide) rfl qf_X1_37 (Or.inl rfl) dX1_skip_2 ?_
  obtain ⟨r2, h1, h⟩ := bnd_i h
  refine ww_callVi (pc := 5) hC [.int (X.1 a0 7)] h_a1.1 h_a1.2 (by decide) (ceX3_at hL h_a1 h1) ql_X1_49 qi_X3_at qs_X3_X3_at qn_X3 qc_X3_at rfl ⟨by decide, by decide, rfl⟩ rfl ⟨Nat.le_of_ble_eq_true rfl, Nat.le_of_ble_eq_true rfl⟩ (by decide) (rest := []) (Nat.le_of_ble_eq_true rfl) dX1_skip_5 ⟨Nat.le_of_ble_eq_true rfl, Nat.le_of_ble_eq_true rfl⟩ rfl ?_
  refine ww_iload_n (pc := 8) hC dX1_skip_8 2 rfl ?_
  refine ww_icmp_eq (pc := 9) hC h 14 dX1_skip_9 (by decide) (fun h => ?_) (fun h => ?_)
  · refine ww_aload_n (pc := 14) hC dX1_skip_14 0 rfl ?_
    refine ww_dup (pc := 15) hC dX1_skip_15 rfl ?_
    refine ww_getI (pc := 16) hC 1 7 h_a0 RX1 (by decide) (by decide) rfl qf_X1_37 (Or.inl rfl) dX1_skip_16 ?_
    refine ww_iconst (pc := 19) hC (v := (1 : Int32)) dX1_skip_19 (by decide) ?_
    refine ww_iadd (pc := 20) hC dX1_skip_20 ?_
    refine ww_putI (pc := 21) hC 1 7 h_a0 RX1 (by decide) (by decide) rfl qf_X1_37 rfl rfl rfl rfl dX1_skip_21 ?_
    obtain ⟨X_3, eX_3⟩ : ∃ q, q = wI X a0 7 ((X.1 a0 7) + ((1 : Int32))) := ⟨_, rfl⟩
    replace h := nm_i h eX_3
    refine ww_nmX eX_3 ?_
    refine ww_iconst (pc := 24) hC (v := (1 : Int32)) dX1_skip_24 (by decide) ?_
    exact ww_zret (pc := 25) hC hr rfl h dX1_skip_25
  · refine ww_iconst (pc := 12) hC (v := (0 : Int32)) dX1_skip_12 (by decide) ?_
    exact ww_zret (pc := 13) hC hr rfl h dX1_skip_13
noncomputable def fX1_isDigit (Z : XS) (x0 : Int32) (X : XD) : Option Int32 := if x0 < ((48 : Int32)) then some ((0 : Int32)) else if ((57 : Int32)) < x0 then some ((0 : Int32)) else some ((1 : Int32))
set_option maxHeartbeats 40000000 in
set_option maxRecDepth 100000 in
theorem ceX1_isDigit {l : Launch} {E : XE} {w : XW} {z : Nat} {Z : XS}  (hL : LayC Z) {x0 : Int32} {X : XD} {r : Int32} (h : fX1_isDigit Z x0 X = some r) : Ct l E w yX1_isDigit (wsM yX1_isDigit cX1_isDigit 1 (some .boolean)) (rmX 1 0 0) 0 0 [.int x0] z z Z Z X X (some (.int r)) := by
  refine ct_of (by decide) (Nat.le_of_ble_eq_true rfl) ?_
  intro p e s m args below meth c hC hr hin hav
  unfold fX1_isDigit at h
  refine ww_lv (lv' := [(0, .int x0)]) rfl ?_
  refine ww_iload_n (pc := 0) hC dX1_isDigit_0 0 rfl ?_
  refine ww_bipush (pc := 1) hC (v := (48 : Int32)) dX1_isDigit_1 (by decide) ?_
  refine ww_icmp_lt (pc := 3) hC h 16 dX1_isDigit_3 (by decide) (fun h => ?_) (fun h => ?_)
  · refine ww_iconst (pc := 16) hC (v := (0 : Int32)) dX1_isDigit_16 (by decide) ?_
    exact ww_zret (pc := 17) hC hr rfl (ret_r h) dX1_isDigit_17
  · refine ww_iload_n (pc := 6) hC dX1_isDigit_6 0 rfl ?_
    refine ww_bipush (pc := 7) hC (v := (57 : Int32)) dX1_isDigit_7 (by decide) ?_
    refine ww_icmp_gt (pc := 9) hC h 16 dX1_isDigit_9 (by decide) (fun h => ?_) (fun h => ?_)
    · refine ww_iconst (pc := 16) hC (v := (0 : Int32)) dX1_isDigit_16 (by decide) ?_
      exact ww_zret (pc := 17) hC hr rfl (ret_r h) dX1_isDigit_17
    · refine ww_iconst (pc := 12) hC (v := (1 : Int32)) dX1_isDigit_12 (by decide) ?_
      refine ww_goto (pc := 13) hC 17 dX1_isDigit_13 (by decide) ?_
      exact ww_zret (pc := 17) hC hr rfl (ret_r h) dX1_isDigit_17
noncomputable def fX1_number (Z : XS) (a0 : Nat) (a1 : Nat) (X : XD) : Option (Int32 × XD) := bnd (fX3_at Z a1 (X.1 a0 7) X) (fun r2 => bnd (fX1_isDigit Z r2 X) (fun r4 => if r4 = 0 then some ((-1 : Int32), X) else bnd (fX3_at Z a1 (X.1 a0 7) X) (fun r6 => nm (r6 - ((48 : Int32))) (fun y7 => nm (wI X a0 7 ((X.1 a0 7) + ((1 : Int32)))) (fun X_8 => bnd (fX3_at Z a1 (X_8.1 a0 7) X_8) (fun r10 => bnd (fX1_isDigit Z r10 X_8) (fun r12 => if r12 = 0 then some (y7, X_8) else bnd (fX3_at Z a1 (X_8.1 a0 7) X_8) (fun r14 => nm (((((10 : Int32)) * y7) + r14) - ((48 : Int32))) (fun y15 => nm (wI X_8 a0 7 ((X_8.1 a0 7) + ((1 : Int32)))) (fun X_16 => some (y15, X_16)))))))))))
set_option maxHeartbeats 40000000 in
set_option maxRecDepth 100000 in
theorem ceX1_number {l : Launch} {E : XE} {w : XW} {z : Nat} {Z : XS}  (hL : LayC Z) {a0 : Nat} (h_a0 : KK Z a0 1) {a1 : Nat} (h_a1 : KK Z a1 3) {X X1 : XD} {r : Int32} (h : fX1_number Z a0 a1 X = some (r, X1)) : Ct l E w yX1_number (wsM yX1_number cX1_number 3 (some .int)) (rmX 2 0 0) 0 0 [.ref (w.1 a0), .ref (w.1 a1)] z z Z Z X X1 (some (.int r)) := by
  refine ct_of (by decide) (Nat.le_of_ble_eq_true rfl) ?_
  intro p e s m args below meth c hC hr hin hav
  unfold fX1_number at h
  refine ww_lv (lv' := [(0, .ref (w.1 a0)), (1, .ref (w.1 a1))]) rfl ?_
  refine ww_aload_n (pc := 0) hC dX1_number_0 1 rfl ?_
  refine ww_aload_n (pc := 1) hC dX1_number_1 0 rfl ?_
  refine ww_getI (pc := 2) hC 1 7 h_a0 RX1 (by decide) (by decide) rfl qf_X1_37 (Or.inl rfl) dX1_number_2 ?_
  obtain ⟨r2, h1, h⟩ := bnd_i h
  refine ww_callVi (pc := 5) hC [.int (X.1 a0 7)] h_a1.1 h_a1.2 (by decide) (ceX3_at hL h_a1 h1) ql_X1_49 qi_X3_at qs_X3_X3_at qn_X3 qc_X3_at rfl ⟨by decide, by decide, rfl⟩ rfl ⟨Nat.le_of_ble_eq_true rfl, Nat.le_of_ble_eq_true rfl⟩ (by decide) (rest := []) (Nat.le_of_ble_eq_true rfl) dX1_number_5 ⟨Nat.le_of_ble_eq_true rfl, Nat.le_of_ble_eq_true rfl⟩ rfl ?_
  obtain ⟨r4, h3, h⟩ := bnd_i h
  refine ww_callSi (pc := 8) hC [.int r2] (ceX1_isDigit hL h3) ql_X1_101 qt_X1_isDigit qn_X1 qc_X1_isDigit ⟨by decide, by decide, rfl⟩ rfl ⟨Nat.le_of_ble_eq_true rfl, Nat.le_of_ble_eq_true rfl⟩ (by decide) (rest := []) (Nat.le_of_ble_eq_true rfl) dX1_number_8 ⟨Nat.le_of_ble_eq_true rfl, Nat.le_of_ble_eq_true rfl⟩ rfl ?_
  refine ww_if_ne (pc := 11) hC h 16 dX1_number_11 (by decide) (fun h => ?_) (fun h => ?_)
  · refine ww_aload_n (pc := 16) hC dX1_number_16 1 rfl ?_
    refine ww_aload_n (pc := 17) hC dX1_number_17 0 rfl ?_
    refine ww_getI (pc := 18) hC 1 7 h_a0 RX1 (by decide) (by decide) rfl qf_X1_37 (Or.inl rfl) dX1_number_18 ?_
    obtain ⟨r6, h5, h⟩ := bnd_i h
    refine ww_callVi (pc := 21) hC [.int (X.1 a0 7)] h_a1.1 h_a1.2 (by decide) (ceX3_at hL h_a1 h5) ql_X1_49 qi_X3_at qs_X3_X3_at qn_X3 qc_X3_at rfl ⟨by decide, by decide, rfl⟩ rfl ⟨Nat.le_of_ble_eq_true rfl, Nat.le_of_ble_eq_true rfl⟩ (by decide) (rest := []) (Nat.le_of_ble_eq_true rfl) dX1_number_21 ⟨Nat.le_of_ble_eq_true rfl, Nat.le_of_ble_eq_true rfl⟩ rfl ?_
    refine ww_bipush (pc := 24) hC (v := (48 : Int32)) dX1_number_24 (by decide) ?_
    refine ww_isub (pc := 26) hC dX1_number_26 ?_
    obtain ⟨y7, ey7⟩ : ∃ q, q = r6 - ((48 : Int32)) := ⟨_, rfl⟩
    replace h := nm_i h ey7
    refine ww_nmi ey7 ?_
    refine ww_istore_n (pc := 27) hC [(2, .int y7), (0, .ref (w.1 a0)), (1, .ref (w.1 a1))] dX1_number_27 rfl (by decide) rfl ?_
    refine ww_aload_n (pc := 28) hC dX1_number_28 1 rfl ?_
    refine ww_dup (pc := 29) hC dX1_number_29 rfl ?_
    refine ww_getI (pc := 30) hC 1 7 h_a0 RX1 (by decide) (by decide) rfl qf_X1_37 (Or.inl rfl) dX1_number_30 ?_
    refine ww_iconst (pc := 33) hC (v := (1 : Int32)) dX1_number_33 (by decide) ?_
    refine ww_iadd (pc := 34) hC dX1_number_34 ?_
    refine ww_putI (pc := 35) hC 1 7 h_a0 RX1 (by decide) (by decide) rfl qf_X1_37 rfl rfl rfl rfl dX1_number_35 ?_
    obtain ⟨X_8, eX_8⟩ : ∃ q, q = wI X a0 7 ((X.1 a0 7) + ((1 : Int32))) := ⟨_, rfl⟩
    replace h := nm_i h eX_8
    refine ww_nmX eX_8 ?_
    refine ww_aload_n (pc := 38) hC dX1_number_38 2 rfl ?_
    refine ww_aload_n (pc := 39) hC dX1_number_39 1 rfl ?_
    refine ww_getI (pc := 40) hC 1 7 h_a0 RX1 (by decide) (by decide) rfl qf_X1_37 (Or.inl rfl) dX1_number_40 ?_
    obtain ⟨r10, h9, h⟩ := bnd_i h
    refine ww_callVi (pc := 43) hC [.int (X_8.1 a0 7)] h_a1.1 h_a1.2 (by decide) (ceX3_at hL h_a1 h9) ql_X1_49 qi_X3_at qs_X3_X3_at qn_X3 qc_X3_at rfl ⟨by decide, by decide, rfl⟩ rfl ⟨Nat.le_of_ble_eq_true rfl, Nat.le_of_ble_eq_true rfl⟩ (by decide) (rest := []) (Nat.le_of_ble_eq_true rfl) dX1_number_43 ⟨Nat.le_of_ble_eq_true rfl, Nat.le_of_ble_eq_true rfl⟩ rfl ?_
    obtain ⟨r12, h11, h⟩ := bnd_i h
    refine ww_callSi (pc := 46) hC [.int r10] (ceX1_isDigit hL h11) ql_X1_101 qt_X1_isDigit qn_X1 qc_X1_isDigit ⟨by decide, by decide, rfl⟩ rfl ⟨Nat.le_of_ble_eq_true rfl, Nat.le_of_ble_eq_true rfl⟩ (by decide) (rest := []) (Nat.le_of_ble_eq_true rfl) dX1_number_46 ⟨Nat.le_of_ble_eq_true rfl, Nat.le_of_ble_eq_true rfl⟩ rfl ?_
    refine ww_if_eq (pc := 49) hC h 79 dX1_number_49 (by decide) (fun h => ?_) (fun h => ?_)
    · refine ww_iload_n (pc := 79) hC dX1_number_79 0 rfl ?_
      exact ww_iret (pc := 80) hC hr h dX1_number_80
    · refine ww_bipush (pc := 52) hC (v := (10 : Int32)) dX1_number_52 (by decide) ?_
      refine ww_iload_n (pc := 54) hC dX1_number_54 0 rfl ?_
      refine ww_imul (pc := 55) hC dX1_number_55 ?_
      refine ww_aload_n (pc := 56) hC dX1_number_56 2 rfl ?_
      refine ww_aload_n (pc := 57) hC dX1_number_57 1 rfl ?_
      refine ww_getI (pc := 58) hC 1 7 h_a0 RX1 (by decide) (by decide) rfl qf_X1_37 (Or.inl rfl) dX1_number_58 ?_
      obtain ⟨r14, h13, h⟩ := bnd_i h
      refine ww_callVi (pc := 61) hC [.int (X_8.1 a0 7)] h_a1.1 h_a1.2 (by decide) (ceX3_at hL h_a1 h13) ql_X1_49 qi_X3_at qs_X3_X3_at qn_X3 qc_X3_at rfl ⟨by decide, by decide, rfl⟩ rfl ⟨Nat.le_of_ble_eq_true rfl, Nat.le_of_ble_eq_true rfl⟩ (by decide) (rest := [.int (((10 : Int32)) * y7)]) (Nat.le_of_ble_eq_true rfl) dX1_number_61 ⟨Nat.le_of_ble_eq_true rfl, Nat.le_of_ble_eq_true rfl⟩ rfl ?_
      refine ww_iadd (pc := 64) hC dX1_number_64 ?_
      refine ww_bipush (pc := 65) hC (v := (48 : Int32)) dX1_number_65 (by decide) ?_
      refine ww_isub (pc := 67) hC dX1_number_67 ?_
      obtain ⟨y15, ey15⟩ : ∃ q, q = ((((10 : Int32)) * y7) + r14) - ((48 : Int32)) := ⟨_, rfl⟩
      replace h := nm_i h ey15
      refine ww_nmi ey15 ?_
      refine ww_istore_n (pc := 68) hC [(2, .int y15), (0, .ref (w.1 a0)), (1, .ref (w.1 a1))] dX1_number_68 rfl (by decide) rfl ?_
      refine ww_aload_n (pc := 69) hC dX1_number_69 1 rfl ?_
      refine ww_dup (pc := 70) hC dX1_number_70 rfl ?_
      refine ww_getI (pc := 71) hC 1 7 h_a0 RX1 (by decide) (by decide) rfl qf_X1_37 (Or.inl rfl) dX1_number_71 ?_
      refine ww_iconst (pc := 74) hC (v := (1 : Int32)) dX1_number_74 (by decide) ?_
      refine ww_iadd (pc := 75) hC dX1_number_75 ?_
      refine ww_putI (pc := 76) hC 1 7 h_a0 RX1 (by decide) (by decide) rfl qf_X1_37 rfl rfl rfl rfl dX1_number_76 ?_
      obtain ⟨X_16, eX_16⟩ : ∃ q, q = wI X_8 a0 7 ((X_8.1 a0 7) + ((1 : Int32))) := ⟨_, rfl⟩
      replace h := nm_i h eX_16
      refine ww_nmX eX_16 ?_
      refine ww_iload_n (pc := 79) hC dX1_number_79 0 rfl ?_
      exact ww_iret (pc := 80) hC hr h dX1_number_80
  · refine ww_iconst (pc := 14) hC (v := (-1 : Int32)) dX1_number_14 (by decide) ?_
    exact ww_iret (pc := 15) hC hr h dX1_number_15
noncomputable def fX1_compared (Z : XS) (x0 : Int32) (x1 : Int32) (x2 : Int32) (X : XD) : Option Int32 := if x1 = 0 then if x2 ≤ x0 then some ((0 : Int32)) else some ((1 : Int32)) else if x1 = ((1 : Int32)) then if x0 = x2 then some ((1 : Int32)) else some ((0 : Int32)) else if x0 ≤ x2 then some ((0 : Int32)) else some ((1 : Int32))
set_option maxHeartbeats 40000000 in
set_option maxRecDepth 100000 in
theorem ceX1_compared {l : Launch} {E : XE} {w : XW} {z : Nat} {Z : XS}  (hL : LayC Z) {x0 : Int32} {x1 : Int32} {x2 : Int32} {X : XD} {r : Int32} (h : fX1_compared Z x0 x1 x2 X = some r) : Ct l E w yX1_compared (wsM yX1_compared cX1_compared 3 (some .boolean)) (rmX 1 0 0) 0 0 [.int x0, .int x1, .int x2] z z Z Z X X (some (.int r)) := by
  refine ct_of (by decide) (Nat.le_of_ble_eq_true rfl) ?_
  intro p e s m args below meth c hC hr hin hav
  unfold fX1_compared at h
  refine ww_lv (lv' := [(0, .int x0), (1, .int x1), (2, .int x2)]) rfl ?_
  refine ww_iload_n (pc := 0) hC dX1_compared_0 1 rfl ?_
  refine ww_if_ne (pc := 1) hC h 15 dX1_compared_1 (by decide) (fun h => ?_) (fun h => ?_)
  · refine ww_iload_n (pc := 15) hC dX1_compared_15 1 rfl ?_
    refine ww_iconst (pc := 16) hC (v := (1 : Int32)) dX1_compared_16 (by decide) ?_
    refine ww_icmp_ne (pc := 17) hC h 33 dX1_compared_17 (by decide) (fun h => ?_) (fun h => ?_)
    · refine ww_iload_n (pc := 33) hC dX1_compared_33 0 rfl ?_
      refine ww_iload_n (pc := 34) hC dX1_compared_34 2 rfl ?_
      refine ww_icmp_le (pc := 35) hC h 42 dX1_compared_35 (by decide) (fun h => ?_) (fun h => ?_)
      · refine ww_iconst (pc := 42) hC (v := (0 : Int32)) dX1_compared_42 (by decide) ?_
        exact ww_zret (pc := 43) hC hr rfl (ret_r h) dX1_compared_43
      · refine ww_iconst (pc := 38) hC (v := (1 : Int32)) dX1_compared_38 (by decide) ?_
        refine ww_goto (pc := 39) hC 43 dX1_compared_39 (by decide) ?_
        exact ww_zret (pc := 43) hC hr rfl (ret_r h) dX1_compared_43
    · refine ww_iload_n (pc := 20) hC dX1_compared_20 0 rfl ?_
      refine ww_iload_n (pc := 21) hC dX1_compared_21 2 rfl ?_
      refine ww_icmp_ne (pc := 22) hC h 29 dX1_compared_22 (by decide) (fun h => ?_) (fun h => ?_)
      · refine ww_iconst (pc := 29) hC (v := (0 : Int32)) dX1_compared_29 (by decide) ?_
        refine ww_goto (pc := 30) hC 43 dX1_compared_30 (by decide) ?_
        exact ww_zret (pc := 43) hC hr rfl (ret_r h) dX1_compared_43
      · refine ww_iconst (pc := 25) hC (v := (1 : Int32)) dX1_compared_25 (by decide) ?_
        refine ww_goto (pc := 26) hC 43 dX1_compared_26 (by decide) ?_
        exact ww_zret (pc := 43) hC hr rfl (ret_r h) dX1_compared_43
  · refine ww_iload_n (pc := 4) hC dX1_compared_4 0 rfl ?_
    refine ww_iload_n (pc := 5) hC dX1_compared_5 2 rfl ?_
    refine ww_icmp_ge (pc := 6) hC h 13 dX1_compared_6 (by decide) (fun h => ?_) (fun h => ?_)
    · refine ww_iconst (pc := 13) hC (v := (0 : Int32)) dX1_compared_13 (by decide) ?_
      exact ww_zret (pc := 14) hC hr rfl (ret_r h) dX1_compared_14
    · refine ww_iconst (pc := 9) hC (v := (1 : Int32)) dX1_compared_9 (by decide) ?_
      refine ww_goto (pc := 10) hC 14 dX1_compared_10 (by decide) ?_
      exact ww_zret (pc := 14) hC hr rfl (ret_r h) dX1_compared_14
noncomputable def fX1_tested_51 (Z : XS) (a0 : Nat) (x2 : Int32) (x3 : Int32) (s0 : Int32) (X : XD) : Option Int32 := bnd (fX1_compared Z s0 x3 x2 X) (fun r8 => if r8 = 0 then some ((0 : Int32)) else some ((15 : Int32)))
noncomputable def fX1_tested_50 (Z : XS) (a0 : Nat) (x2 : Int32) (x3 : Int32) (X : XD) : Option Int32 := fX1_tested_51 Z a0 x2 x3 ((0 : Int32)) X
noncomputable def fX1_tested_101 (Z : XS) (a0 : Nat) (k76 : Int32 → Int32 → Int32 → Int32 → XD → Option Int32) (x2 : Int32) (x3 : Int32) (x5 : Int32) (x6 : Int32) (X : XD) : Option Int32 := nm (x6 + (1 : Int32)) (fun y9 => k76 x2 x3 x5 y9 X)
noncomputable def fX1_tested_76 (Z : XS) (a0 : Nat) (n : Nat) : Int32 → Int32 → Int32 → Int32 → XD → Option Int32 := Nat.rec (motive := fun _ => Int32 → Int32 → Int32 → Int32 → XD → Option Int32) (fun _ _ _ _ _ => none) (fun _ f => fun x2 x3 x5 x6 X => if ((3 : Int32)) < x6 then some x5 else bnd (fX1_compared Z x6 x3 x2 X) (fun r5 => if r5 = 0 then fX1_tested_101 Z a0 (f) x2 x3 x5 x6 X else nm (x5 ||| (((1 : Int32)) <<< (x6 &&& 31))) (fun y6 => fX1_tested_101 Z a0 (f) x2 x3 y6 x6 X))) n
theorem fX1_tested_76_s (Z : XS) (a0 : Nat) (n : Nat) (x2 : Int32) (x3 : Int32) (x5 : Int32) (x6 : Int32) (X : XD) : fX1_tested_76 Z a0 (n + 1) x2 x3 x5 x6 X = if ((3 : Int32)) < x6 then some x5 else bnd (fX1_compared Z x6 x3 x2 X) (fun r5 => if r5 = 0 then fX1_tested_101 Z a0 ((fX1_tested_76 Z a0 n)) x2 x3 x5 x6 X else nm (x5 ||| (((1 : Int32)) <<< (x6 &&& 31))) (fun y6 => fX1_tested_101 Z a0 ((fX1_tested_76 Z a0 n)) x2 x3 y6 x6 X)) := rfl
noncomputable def fX1_tested (Z : XS) (a0 : Nat) (x1 : Int32) (X : XD) : Option Int32 := nm (x1 - x1 / ((100 : Int32)) * ((100 : Int32))) (fun y1 => nm ((x1 / ((100 : Int32))) - (x1 / ((100 : Int32))) / ((3 : Int32)) * ((3 : Int32))) (fun y2 => nm (x1 / ((300 : Int32))) (fun y3 => if y3 = ((2 : Int32)) then fX1_tested_76 Z a0 FU y1 y2 ((0 : Int32)) ((0 : Int32)) X else if y3 < 0 then fX1_tested_50 Z a0 y1 y2 X else if ((6 : Int32)) ≤ y3 then fX1_tested_50 Z a0 y1 y2 X else gin y3 6 (fX1_tested_51 Z a0 y1 y2 (X.1 (a0 + 6) (y3).toNatClampNeg) X))))
set_option maxHeartbeats 40000000 in
set_option maxRecDepth 100000 in
theorem ceX1_tested {l : Launch} {E : XE} {w : XW} {z : Nat} {Z : XS}  (hL : LayC Z) {a0 : Nat} (h_a0 : KK Z a0 1) {x1 : Int32} {X : XD} {r : Int32} (h : fX1_tested Z a0 x1 X = some r) : Ct l E w yX1_tested (wsM yX1_tested cX1_tested 7 (some .int)) (rmX 2 0 0) 0 0 [.ref (w.1 a0), .int x1] z z Z Z X X (some (.int r)) := by
  refine ct_of (by decide) (Nat.le_of_ble_eq_true rfl) ?_
  intro p e s m args below meth c hC hr hin hav
  have j51 : ∀ (x2 : Int32) (x3 : Int32) (s0 : Int32), fX1_tested_51 Z a0 x2 x3 s0 X = some r → WW p l e (rmX 2 0 0) s m args below meth c 7 (MQ below (XQ E w z Z X (some (.int r))) args s 0 0 (A0 E)) E w 0 0 z Z 51 [(2, .int x2), (3, .int x3)] [.int s0] X := by
    intro x2 x3 s0 h
    unfold fX1_tested_51 at h
    refine ww_istore (pc := 51) hC [(5, .int s0), (2, .int x2), (3, .int x3)] dX1_tested_51  (by decide) rfl ?_
    refine ww_iload (pc := 53) hC dX1_tested_53 0 rfl ?_
    refine ww_iload_n (pc := 55) hC dX1_tested_55 2 rfl ?_
    refine ww_iload_n (pc := 56) hC dX1_tested_56 1 rfl ?_
    obtain ⟨r8, h7, h⟩ := bnd_i h
    refine ww_callSi (pc := 57) hC [.int s0, .int x3, .int x2] (ceX1_compared hL h7) ql_X1_185 qt_X1_compared qn_X1 qc_X1_compared ⟨by decide, by decide, rfl⟩ rfl ⟨Nat.le_of_ble_eq_true rfl, Nat.le_of_ble_eq_true rfl⟩ (by decide) (rest := []) (Nat.le_of_ble_eq_true rfl) dX1_tested_57 ⟨Nat.le_of_ble_eq_true rfl, Nat.le_of_ble_eq_true rfl⟩ rfl ?_
    refine ww_if_eq (pc := 60) hC h 68 dX1_tested_60 (by decide) (fun h => ?_) (fun h => ?_)
    · refine ww_iconst (pc := 68) hC (v := (0 : Int32)) dX1_tested_68 (by decide) ?_
      exact ww_iret (pc := 69) hC hr (ret_r h) dX1_tested_69
    · refine ww_bipush (pc := 63) hC (v := (15 : Int32)) dX1_tested_63 (by decide) ?_
      refine ww_goto (pc := 65) hC 69 dX1_tested_65 (by decide) ?_
      exact ww_iret (pc := 69) hC hr (ret_r h) dX1_tested_69
  have j50 : ∀ (x2 : Int32) (x3 : Int32), fX1_tested_50 Z a0 x2 x3 X = some r → WW p l e (rmX 2 0 0) s m args below meth c 7 (MQ below (XQ E w z Z X (some (.int r))) args s 0 0 (A0 E)) E w 0 0 z Z 50 [(2, .int x2), (3, .int x3)] [] X := by
    intro x2 x3 h
    unfold fX1_tested_50 at h
    refine ww_iconst (pc := 50) hC (v := (0 : Int32)) dX1_tested_50 (by decide) ?_
    refine ww_sub [0, 1] rfl ?_
    exact j51 _ _ _ h
  have j101 : ∀ (k76 : Int32 → Int32 → Int32 → Int32 → XD → Option Int32) (hk76 : ∀ (x2 : Int32) (x3 : Int32) (x5 : Int32) (x6 : Int32), k76 x2 x3 x5 x6 X = some r → WW p l e (rmX 2 0 0) s m args below meth c 7 (MQ below (XQ E w z Z X (some (.int r))) args s 0 0 (A0 E)) E w 0 0 z Z 76 [(2, .int x2), (3, .int x3), (5, .int x5), (6, .int x6)] [] X), ∀ (x2 : Int32) (x3 : Int32) (x5 : Int32) (x6 : Int32), fX1_tested_101 Z a0 k76 x2 x3 x5 x6 X = some r → WW p l e (rmX 2 0 0) s m args below meth c 7 (MQ below (XQ E w z Z X (some (.int r))) args s 0 0 (A0 E)) E w 0 0 z Z 101 [(2, .int x2), (3, .int x3), (5, .int x5), (6, .int x6)] [] X := by
    intro k76 hk76 x2 x3 x5 x6 h
    unfold fX1_tested_101 at h
    obtain ⟨y9, ey9⟩ : ∃ q, q = x6 + (1 : Int32) := ⟨_, rfl⟩
    replace h := nm_i h ey9
    refine ww_iinc (pc := 101) hC y9 [(6, .int y9), (2, .int x2), (3, .int x3), (5, .int x5)] dX1_tested_101 3 rfl (by rw [ey9]; rfl) (by decide) rfl ?_
    refine ww_goto (pc := 104) hC 76 dX1_tested_104 (by decide) ?_
    refine ww_sub [1, 2, 3, 0] rfl ?_
    exact hk76 _ _ _ _ h
  have j76 : ∀ (n : Nat), ∀ (x2 : Int32) (x3 : Int32) (x5 : Int32) (x6 : Int32), fX1_tested_76 Z a0 n x2 x3 x5 x6 X = some r → WW p l e (rmX 2 0 0) s m args below meth c 7 (MQ below (XQ E w z Z X (some (.int r))) args s 0 0 (A0 E)) E w 0 0 z Z 76 [(2, .int x2), (3, .int x3), (5, .int x5), (6, .int x6)] [] X := by
    intro n
    induction n with
    | zero =>
      intro x2 x3 x5 x6 h
      cases (show none = some r from h)
    | succ n ih =>
      intro x2 x3 x5 x6 h
      rw [fX1_tested_76_s] at h
      refine ww_iload (pc := 76) hC dX1_tested_76 3 rfl ?_
      refine ww_iconst (pc := 78) hC (v := (3 : Int32)) dX1_tested_78 (by decide) ?_
      refine ww_icmp_gt (pc := 79) hC h 107 dX1_tested_79 (by decide) (fun h => ?_) (fun h => ?_)
      · refine ww_iload (pc := 107) hC dX1_tested_107 2 rfl ?_
        exact ww_iret (pc := 109) hC hr (ret_r h) dX1_tested_109
      · refine ww_iload (pc := 82) hC dX1_tested_82 3 rfl ?_
        refine ww_iload_n (pc := 84) hC dX1_tested_84 1 rfl ?_
        refine ww_iload_n (pc := 85) hC dX1_tested_85 0 rfl ?_
        obtain ⟨r5, h4, h⟩ := bnd_i h
        refine ww_callSi (pc := 86) hC [.int x6, .int x3, .int x2] (ceX1_compared hL h4) ql_X1_185 qt_X1_compared qn_X1 qc_X1_compared ⟨by decide, by decide, rfl⟩ rfl ⟨Nat.le_of_ble_eq_true rfl, Nat.le_of_ble_eq_true rfl⟩ (by decide) (rest := []) (Nat.le_of_ble_eq_true rfl) dX1_tested_86 ⟨Nat.le_of_ble_eq_true rfl, Nat.le_of_ble_eq_true rfl⟩ rfl ?_
        refine ww_if_eq (pc := 89) hC h 101 dX1_tested_89 (by decide) (fun h => ?_) (fun h => ?_)
        · refine ww_sub [0, 1, 2, 3] rfl ?_
          exact j101 _ ih _ _ _ _ h
        · refine ww_iload (pc := 92) hC dX1_tested_92 2 rfl ?_
          refine ww_iconst (pc := 94) hC (v := (1 : Int32)) dX1_tested_94 (by decide) ?_
          refine ww_iload (pc := 95) hC dX1_tested_95 3 rfl ?_
          refine ww_ishl (pc := 97) hC dX1_tested_97 ?_
          refine ww_ior (pc := 98) hC dX1_tested_98 ?_
          obtain ⟨y6, ey6⟩ : ∃ q, q = x5 ||| (((1 : Int32)) <<< (x6 &&& 31)) := ⟨_, rfl⟩
          replace h := nm_i h ey6
          refine ww_nmi ey6 ?_
          refine ww_istore (pc := 99) hC [(5, .int y6), (2, .int x2), (3, .int x3), (6, .int x6)] dX1_tested_99  (by decide) rfl ?_
          refine ww_sub [1, 2, 0, 3] rfl ?_
          exact j101 _ ih _ _ _ _ h
  unfold fX1_tested at h
  refine ww_lv (lv' := [(0, .ref (w.1 a0)), (1, .int x1)]) rfl ?_
  refine ww_iload_n (pc := 0) hC dX1_tested_0 1 rfl ?_
  refine ww_bipush (pc := 1) hC (v := (100 : Int32)) dX1_tested_1 (by decide) ?_
  refine ww_irem (pc := 3) hC dX1_tested_3 (by decide) ?_
  obtain ⟨y1, ey1⟩ : ∃ q, q = x1 - x1 / ((100 : Int32)) * ((100 : Int32)) := ⟨_, rfl⟩
  replace h := nm_i h ey1
  refine ww_nmi ey1 ?_
  refine ww_istore_n (pc := 4) hC [(2, .int y1), (0, .ref (w.1 a0)), (1, .int x1)] dX1_tested_4 rfl (by decide) rfl ?_
  refine ww_iload_n (pc := 5) hC dX1_tested_5 2 rfl ?_
  refine ww_bipush (pc := 6) hC (v := (100 : Int32)) dX1_tested_6 (by decide) ?_
  refine ww_idiv (pc := 8) hC dX1_tested_8 (by decide) ?_
  refine ww_iconst (pc := 9) hC (v := (3 : Int32)) dX1_tested_9 (by decide) ?_
  refine ww_irem (pc := 10) hC dX1_tested_10 (by decide) ?_
  obtain ⟨y2, ey2⟩ : ∃ q, q = (x1 / ((100 : Int32))) - (x1 / ((100 : Int32))) / ((3 : Int32)) * ((3 : Int32)) := ⟨_, rfl⟩
  replace h := nm_i h ey2
  refine ww_nmi ey2 ?_
  refine ww_istore_n (pc := 11) hC [(3, .int y2), (2, .int y1), (0, .ref (w.1 a0)), (1, .int x1)] dX1_tested_11 rfl (by decide) rfl ?_
  refine ww_iload_n (pc := 12) hC dX1_tested_12 3 rfl ?_
  refine ww_sipush (pc := 13) hC (v := (300 : Int32)) dX1_tested_13 (by decide) ?_
  refine ww_idiv (pc := 16) hC dX1_tested_16 (by decide) ?_
  obtain ⟨y3, ey3⟩ : ∃ q, q = x1 / ((300 : Int32)) := ⟨_, rfl⟩
  replace h := nm_i h ey3
  refine ww_nmi ey3 ?_
  refine ww_istore (pc := 17) hC [(4, .int y3), (3, .int y2), (2, .int y1), (0, .ref (w.1 a0)), (1, .int x1)] dX1_tested_17  (by decide) rfl ?_
  refine ww_iload (pc := 19) hC dX1_tested_19 0 rfl ?_
  refine ww_iconst (pc := 21) hC (v := (2 : Int32)) dX1_tested_21 (by decide) ?_
  refine ww_icmp_eq (pc := 22) hC h 70 dX1_tested_22 (by decide) (fun h => ?_) (fun h => ?_)
  · refine ww_iconst (pc := 70) hC (v := (0 : Int32)) dX1_tested_70 (by decide) ?_
    refine ww_istore (pc := 71) hC [(5, .int ((0 : Int32))), (4, .int y3), (3, .int y2), (2, .int y1), (0, .ref (w.1 a0)), (1, .int x1)] dX1_tested_71  (by decide) rfl ?_
    refine ww_iconst (pc := 73) hC (v := (0 : Int32)) dX1_tested_73 (by decide) ?_
    refine ww_istore (pc := 74) hC [(6, .int ((0 : Int32))), (5, .int ((0 : Int32))), (4, .int y3), (3, .int y2), (2, .int y1), (0, .ref (w.1 a0)), (1, .int x1)] dX1_tested_74  (by decide) rfl ?_
    refine ww_sub [4, 3, 1, 0] rfl ?_
    exact j76 _ _ _ _ _ h
  · refine ww_iload (pc := 25) hC dX1_tested_25 0 rfl ?_
    refine ww_if_lt (pc := 27) hC h 50 dX1_tested_27 (by decide) (fun h => ?_) (fun h => ?_)
    · refine ww_sub [2, 1] rfl ?_
      exact j50 _ _ h
    · refine ww_iload (pc := 30) hC dX1_tested_30 0 rfl ?_
      refine ww_aload_n (pc := 32) hC dX1_tested_32 3 rfl ?_
      refine ww_getR (pc := 33) hC 1 8 (a0 + 6) h_a0 RX1 (by decide) (by decide) rfl (lay_1_8 hL h_a0).1 qf_X1_27 rfl dX1_tested_33 ?_
      refine ww_alen (pc := 36) hC ((6 : Int32)) ((lay_1_8 hL h_a0).2) (by decide) (by decide) rfl dX1_tested_36 ?_
      refine ww_icmp_ge (pc := 37) hC h 50 dX1_tested_37 (by decide) (fun h => ?_) (fun h => ?_)
      · refine ww_sub [2, 1] rfl ?_
        exact j50 _ _ h
      · refine ww_aload_n (pc := 40) hC dX1_tested_40 3 rfl ?_
        refine ww_getR (pc := 41) hC 1 8 (a0 + 6) h_a0 RX1 (by decide) (by decide) rfl (lay_1_8 hL h_a0).1 qf_X1_27 rfl dX1_tested_41 ?_
        refine ww_iload (pc := 44) hC dX1_tested_44 0 rfl ?_
        refine ww_iald (pc := 46) hC ((lay_1_8 hL h_a0).2) h dX1_tested_46 (fun h => ?_)
        refine ww_goto (pc := 47) hC 51 dX1_tested_47 (by decide) ?_
        refine ww_sub [2, 1] rfl ?_
        exact j51 _ _ _ h
noncomputable def fX1_holds_114 (Z : XS) (a0 : Nat) (k9 : Int32 → Int64 → Int32 → XD → Option Int32) (x2 : Int32) (x3 : Int64) (x5 : Int32) (X : XD) : Option Int32 := nm (x5 + (1 : Int32)) (fun y12 => k9 x2 x3 y12 X)
noncomputable def fX1_holds_9 (Z : XS) (a0 : Nat) (n : Nat) : Int32 → Int64 → Int32 → XD → Option Int32 := Nat.rec (motive := fun _ => Int32 → Int64 → Int32 → XD → Option Int32) (fun _ _ _ _ => none) (fun _ f => fun x2 x3 x5 X => if x2 ≤ x5 then some ((x3 &&& ((15 : Int64))).toInt32) else if ((100 : Int32)) ≤ x5 then some ((x3 &&& ((15 : Int64))).toInt32) else nm (x3 &&& ((15 : Int64))) (fun y2 => gin x5 100 (if (X.1 (a0 + 5) (x5).toNatClampNeg) = (-3 : Int32) then nm (x3 ^^^ ((15 : Int64))) (fun y4 => fX1_holds_114 Z a0 (f) x2 y4 x5 X) else (if (X.1 (a0 + 5) (x5).toNatClampNeg) = (-2 : Int32) then nm (((x3.toUInt64 >>> (((4 : Int32)).toInt64.toUInt64 &&& Int64.toUInt64 63)).toInt64) ||| y2) (fun y6 => fX1_holds_114 Z a0 (f) x2 y6 x5 X) else (if (X.1 (a0 + 5) (x5).toNatClampNeg) = (-1 : Int32) then nm (((x3.toUInt64 >>> (((4 : Int32)).toInt64.toUInt64 &&& Int64.toUInt64 63)).toInt64) &&& (y2 ||| ((-16 : Int64)))) (fun y8 => fX1_holds_114 Z a0 (f) x2 y8 x5 X) else (gin x5 100 (bnd (fX1_tested Z a0 (X.1 (a0 + 5) (x5).toNatClampNeg) X) (fun r10 => nm ((x3 <<< (((4 : Int32)).toInt64 &&& 63)) ||| r10.toInt64) (fun y11 => fX1_holds_114 Z a0 (f) x2 y11 x5 X))))))))) n
theorem fX1_holds_9_s (Z : XS) (a0 : Nat) (n : Nat) (x2 : Int32) (x3 : Int64) (x5 : Int32) (X : XD) : fX1_holds_9 Z a0 (n + 1) x2 x3 x5 X = if x2 ≤ x5 then some ((x3 &&& ((15 : Int64))).toInt32) else if ((100 : Int32)) ≤ x5 then some ((x3 &&& ((15 : Int64))).toInt32) else nm (x3 &&& ((15 : Int64))) (fun y2 => gin x5 100 (if (X.1 (a0 + 5) (x5).toNatClampNeg) = (-3 : Int32) then nm (x3 ^^^ ((15 : Int64))) (fun y4 => fX1_holds_114 Z a0 ((fX1_holds_9 Z a0 n)) x2 y4 x5 X) else (if (X.1 (a0 + 5) (x5).toNatClampNeg) = (-2 : Int32) then nm (((x3.toUInt64 >>> (((4 : Int32)).toInt64.toUInt64 &&& Int64.toUInt64 63)).toInt64) ||| y2) (fun y6 => fX1_holds_114 Z a0 ((fX1_holds_9 Z a0 n)) x2 y6 x5 X) else (if (X.1 (a0 + 5) (x5).toNatClampNeg) = (-1 : Int32) then nm (((x3.toUInt64 >>> (((4 : Int32)).toInt64.toUInt64 &&& Int64.toUInt64 63)).toInt64) &&& (y2 ||| ((-16 : Int64)))) (fun y8 => fX1_holds_114 Z a0 ((fX1_holds_9 Z a0 n)) x2 y8 x5 X) else (gin x5 100 (bnd (fX1_tested Z a0 (X.1 (a0 + 5) (x5).toNatClampNeg) X) (fun r10 => nm ((x3 <<< (((4 : Int32)).toInt64 &&& 63)) ||| r10.toInt64) (fun y11 => fX1_holds_114 Z a0 ((fX1_holds_9 Z a0 n)) x2 y11 x5 X)))))))) := rfl
noncomputable def fX1_holds (Z : XS) (a0 : Nat) (x1 : Int32) (x2 : Int32) (X : XD) : Option Int32 := nm (if ((0 : Int32)) < x1 then x1 else ((0 : Int32))) (fun y1 => fX1_holds_9 Z a0 FU x2 ((0 : Int64)) y1 X)
set_option maxHeartbeats 40000000 in
set_option maxRecDepth 100000 in
theorem ceX1_holds {l : Launch} {E : XE} {w : XW} {z : Nat} {Z : XS}  (hL : LayC Z) {a0 : Nat} (h_a0 : KK Z a0 1) {x1 : Int32} {x2 : Int32} {X : XD} {r : Int32} (h : fX1_holds Z a0 x1 x2 X = some r) : Ct l E w yX1_holds (wsM yX1_holds cX1_holds 8 (some .int)) (rmX 3 0 0) 0 0 [.ref (w.1 a0), .int x1, .int x2] z z Z Z X X (some (.int r)) := by
  refine ct_of (by decide) (Nat.le_of_ble_eq_true rfl) ?_
  intro p e s m args below meth c hC hr hin hav
  have j114 : ∀ (k9 : Int32 → Int64 → Int32 → XD → Option Int32) (hk9 : ∀ (x2 : Int32) (x3 : Int64) (x5 : Int32), k9 x2 x3 x5 X = some r → WW p l e (rmX 3 0 0) s m args below meth c 8 (MQ below (XQ E w z Z X (some (.int r))) args s 0 0 (A0 E)) E w 0 0 z Z 9 [(0, .ref (w.1 a0)), (2, .int x2), (3, .long x3), (5, .int x5)] [] X), ∀ (x2 : Int32) (x3 : Int64) (x5 : Int32), fX1_holds_114 Z a0 k9 x2 x3 x5 X = some r → WW p l e (rmX 3 0 0) s m args below meth c 8 (MQ below (XQ E w z Z X (some (.int r))) args s 0 0 (A0 E)) E w 0 0 z Z 114 [(0, .ref (w.1 a0)), (2, .int x2), (3, .long x3), (5, .int x5)] [] X := by
    intro k9 hk9 x2 x3 x5 h
    unfold fX1_holds_114 at h
    obtain ⟨y12, ey12⟩ : ∃ q, q = x5 + (1 : Int32) := ⟨_, rfl⟩
    replace h := nm_i h ey12
    refine ww_iinc (pc := 114) hC y12 [(5, .int y12), (0, .ref (w.1 a0)), (2, .int x2), (3, .long x3)] dX1_holds_114 3 rfl (by rw [ey12]; rfl) (by decide) rfl ?_
    refine ww_goto (pc := 117) hC 9 dX1_holds_117 (by decide) ?_
    refine ww_sub [1, 2, 3, 0] rfl ?_
    exact hk9 _ _ _ h
  have j9 : ∀ (n : Nat), ∀ (x2 : Int32) (x3 : Int64) (x5 : Int32), fX1_holds_9 Z a0 n x2 x3 x5 X = some r → WW p l e (rmX 3 0 0) s m args below meth c 8 (MQ below (XQ E w z Z X (some (.int r))) args s 0 0 (A0 E)) E w 0 0 z Z 9 [(0, .ref (w.1 a0)), (2, .int x2), (3, .long x3), (5, .int x5)] [] X := by
    intro n
    induction n with
    | zero =>
      intro x2 x3 x5 h
      cases (show none = some r from h)
    | succ n ih =>
      intro x2 x3 x5 h
      rw [fX1_holds_9_s] at h
      refine ww_iload (pc := 9) hC dX1_holds_9 3 rfl ?_
      refine ww_iload_n (pc := 11) hC dX1_holds_11 1 rfl ?_
      refine ww_icmp_ge (pc := 12) hC h 120 dX1_holds_12 (by decide) (fun h => ?_) (fun h => ?_)
      · refine ww_lload_n (pc := 120) hC dX1_holds_120 2 rfl ?_
        refine ww_ldc2 (pc := 121) hC (v := (15 : Int64)) dX1_holds_121 qg_X1_178 ?_
        refine ww_land (pc := 124) hC dX1_holds_124 ?_
        refine ww_l2i (pc := 125) hC dX1_holds_125 ?_
        exact ww_iret (pc := 126) hC hr (ret_r h) dX1_holds_126
      · refine ww_iload (pc := 15) hC dX1_holds_15 3 rfl ?_
        refine ww_aload_n (pc := 17) hC dX1_holds_17 0 rfl ?_
        refine ww_getR (pc := 18) hC 1 5 (a0 + 5) h_a0 RX1 (by decide) (by decide) rfl (lay_1_5 hL h_a0).1 qf_X1_24 rfl dX1_holds_18 ?_
        refine ww_alen (pc := 21) hC ((100 : Int32)) ((lay_1_5 hL h_a0).2) (by decide) (by decide) rfl dX1_holds_21 ?_
        refine ww_icmp_ge (pc := 22) hC h 120 dX1_holds_22 (by decide) (fun h => ?_) (fun h => ?_)
        · refine ww_lload_n (pc := 120) hC dX1_holds_120 2 rfl ?_
          refine ww_ldc2 (pc := 121) hC (v := (15 : Int64)) dX1_holds_121 qg_X1_178 ?_
          refine ww_land (pc := 124) hC dX1_holds_124 ?_
          refine ww_l2i (pc := 125) hC dX1_holds_125 ?_
          exact ww_iret (pc := 126) hC hr (ret_r h) dX1_holds_126
        · refine ww_lload_n (pc := 25) hC dX1_holds_25 2 rfl ?_
          refine ww_ldc2 (pc := 26) hC (v := (15 : Int64)) dX1_holds_26 qg_X1_178 ?_
          refine ww_land (pc := 29) hC dX1_holds_29 ?_
          obtain ⟨y2, ey2⟩ : ∃ q, q = x3 &&& ((15 : Int64)) := ⟨_, rfl⟩
          replace h := nm_i h ey2
          refine ww_nml ey2 ?_
          refine ww_lstore (pc := 30) hC [(6, .long y2), (0, .ref (w.1 a0)), (2, .int x2), (3, .long x3), (5, .int x5)] dX1_holds_30  (by decide) rfl ?_
          refine ww_aload_n (pc := 32) hC dX1_holds_32 1 rfl ?_
          refine ww_getR (pc := 33) hC 1 5 (a0 + 5) h_a0 RX1 (by decide) (by decide) rfl (lay_1_5 hL h_a0).1 qf_X1_24 rfl dX1_holds_33 ?_
          refine ww_iload (pc := 36) hC dX1_holds_36 4 rfl ?_
          refine ww_iald (pc := 38) hC ((lay_1_5 hL h_a0).2) h dX1_holds_38 (fun h => ?_)
          rcases Classical.em (X.1 (a0 + 5) (x5).toNatClampNeg = (-3 : Int32)) with q3 | q3
          · replace h := ite_t h q3
            refine ww_tableIn (pc := 39) hC 88 dX1_holds_39 (-3 : Int32) q3 (by decide) (by decide) rfl (by decide) ?_
            refine ww_lload_n (pc := 88) hC dX1_holds_88 3 rfl ?_
            refine ww_ldc2 (pc := 89) hC (v := (15 : Int64)) dX1_holds_89 qg_X1_178 ?_
            refine ww_lxor (pc := 92) hC dX1_holds_92 ?_
            obtain ⟨y4, ey4⟩ : ∃ q, q = x3 ^^^ ((15 : Int64)) := ⟨_, rfl⟩
            replace h := nm_i h ey4
            refine ww_nml ey4 ?_
            refine ww_lstore_n (pc := 93) hC [(3, .long y4), (6, .long y2), (0, .ref (w.1 a0)), (2, .int x2), (5, .int x5)] dX1_holds_93 rfl (by decide) rfl ?_
            refine ww_goto (pc := 94) hC 114 dX1_holds_94 (by decide) ?_
            refine ww_sub [2, 3, 0, 4] rfl ?_
            exact j114 _ ih _ _ _ h
          replace h := ite_f h q3
          rcases Classical.em (X.1 (a0 + 5) (x5).toNatClampNeg = (-2 : Int32)) with q5 | q5
          · replace h := ite_t h q5
            refine ww_tableIn (pc := 39) hC 78 dX1_holds_39 (-2 : Int32) q5 (by decide) (by decide) rfl (by decide) ?_
            refine ww_lload_n (pc := 78) hC dX1_holds_78 3 rfl ?_
            refine ww_iconst (pc := 79) hC (v := (4 : Int32)) dX1_holds_79 (by decide) ?_
            refine ww_lushr (pc := 80) hC dX1_holds_80 ?_
            refine ww_lload (pc := 81) hC dX1_holds_81 0 rfl ?_
            refine ww_lor (pc := 83) hC dX1_holds_83 ?_
            obtain ⟨y6, ey6⟩ : ∃ q, q = ((x3.toUInt64 >>> (((4 : Int32)).toInt64.toUInt64 &&& Int64.toUInt64 63)).toInt64) ||| y2 := ⟨_, rfl⟩
            replace h := nm_i h ey6
            refine ww_nml ey6 ?_
            refine ww_lstore_n (pc := 84) hC [(3, .long y6), (6, .long y2), (0, .ref (w.1 a0)), (2, .int x2), (5, .int x5)] dX1_holds_84 rfl (by decide) rfl ?_
            refine ww_goto (pc := 85) hC 114 dX1_holds_85 (by decide) ?_
            refine ww_sub [2, 3, 0, 4] rfl ?_
            exact j114 _ ih _ _ _ h
          replace h := ite_f h q5
          rcases Classical.em (X.1 (a0 + 5) (x5).toNatClampNeg = (-1 : Int32)) with q7 | q7
          · replace h := ite_t h q7
            refine ww_tableIn (pc := 39) hC 64 dX1_holds_39 (-1 : Int32) q7 (by decide) (by decide) rfl (by decide) ?_
            refine ww_lload_n (pc := 64) hC dX1_holds_64 3 rfl ?_
            refine ww_iconst (pc := 65) hC (v := (4 : Int32)) dX1_holds_65 (by decide) ?_
            refine ww_lushr (pc := 66) hC dX1_holds_66 ?_
            refine ww_lload (pc := 67) hC dX1_holds_67 0 rfl ?_
            refine ww_ldc2 (pc := 69) hC (v := (-16 : Int64)) dX1_holds_69 qg_X1_180 ?_
            refine ww_lor (pc := 72) hC dX1_holds_72 ?_
            refine ww_land (pc := 73) hC dX1_holds_73 ?_
            obtain ⟨y8, ey8⟩ : ∃ q, q = ((x3.toUInt64 >>> (((4 : Int32)).toInt64.toUInt64 &&& Int64.toUInt64 63)).toInt64) &&& (y2 ||| ((-16 : Int64))) := ⟨_, rfl⟩
            replace h := nm_i h ey8
            refine ww_nml ey8 ?_
            refine ww_lstore_n (pc := 74) hC [(3, .long y8), (6, .long y2), (0, .ref (w.1 a0)), (2, .int x2), (5, .int x5)] dX1_holds_74 rfl (by decide) rfl ?_
            refine ww_goto (pc := 75) hC 114 dX1_holds_75 (by decide) ?_
            refine ww_sub [2, 3, 0, 4] rfl ?_
            exact j114 _ ih _ _ _ h
          replace h := ite_f h q7
          refine ww_tableOut (pc := 39) hC 97 dX1_holds_39 (sw_out (fun k h1 h2 => by rcases (show k = -3 ∨ k = -2 ∨ k = -1 by omega) with rfl | rfl | rfl; exact q3; exact q5; exact q7)) (by decide) ?_
          refine ww_lload_n (pc := 97) hC dX1_holds_97 3 rfl ?_
          refine ww_iconst (pc := 98) hC (v := (4 : Int32)) dX1_holds_98 (by decide) ?_
          refine ww_lshl (pc := 99) hC dX1_holds_99 ?_
          refine ww_aload_n (pc := 100) hC dX1_holds_100 1 rfl ?_
          refine ww_aload_n (pc := 101) hC dX1_holds_101 1 rfl ?_
          refine ww_getR (pc := 102) hC 1 5 (a0 + 5) h_a0 RX1 (by decide) (by decide) rfl (lay_1_5 hL h_a0).1 qf_X1_24 rfl dX1_holds_102 ?_
          refine ww_iload (pc := 105) hC dX1_holds_105 4 rfl ?_
          refine ww_iald (pc := 107) hC ((lay_1_5 hL h_a0).2) h dX1_holds_107 (fun h => ?_)
          obtain ⟨r10, h9, h⟩ := bnd_i h
          refine ww_callVi (pc := 108) hC [.int (X.1 (a0 + 5) (x5).toNatClampNeg)] h_a0.1 h_a0.2 (by decide) (ceX1_tested hL h_a0 h9) ql_X1_182 qi_X1_tested qs_X1_X1_tested qn_X1 qc_X1_tested rfl ⟨by decide, by decide, rfl⟩ rfl ⟨Nat.le_of_ble_eq_true rfl, Nat.le_of_ble_eq_true rfl⟩ (by decide) (rest := [.long (x3 <<< (((4 : Int32)).toInt64 &&& 63))]) (Nat.le_of_ble_eq_true rfl) dX1_holds_108 ⟨Nat.le_of_ble_eq_true rfl, Nat.le_of_ble_eq_true rfl⟩ rfl ?_
          refine ww_i2l (pc := 111) hC dX1_holds_111 ?_
          refine ww_lor (pc := 112) hC dX1_holds_112 ?_
          obtain ⟨y11, ey11⟩ : ∃ q, q = (x3 <<< (((4 : Int32)).toInt64 &&& 63)) ||| r10.toInt64 := ⟨_, rfl⟩
          replace h := nm_i h ey11
          refine ww_nml ey11 ?_
          refine ww_lstore_n (pc := 113) hC [(3, .long y11), (6, .long y2), (0, .ref (w.1 a0)), (2, .int x2), (5, .int x5)] dX1_holds_113 rfl (by decide) rfl ?_
          refine ww_sub [2, 3, 0, 4] rfl ?_
          exact j114 _ ih _ _ _ h
  unfold fX1_holds at h
  refine ww_lv (lv' := [(0, .ref (w.1 a0)), (1, .int x1), (2, .int x2)]) rfl ?_
  refine ww_lconst (pc := 0) hC (v := (0 : Int64)) dX1_holds_0 (by decide) ?_
  refine ww_lstore_n (pc := 1) hC [(3, .long ((0 : Int64))), (0, .ref (w.1 a0)), (1, .int x1), (2, .int x2)] dX1_holds_1 rfl (by decide) rfl ?_
  refine ww_iconst (pc := 2) hC (v := (0 : Int32)) dX1_holds_2 (by decide) ?_
  refine ww_iload_n (pc := 3) hC dX1_holds_3 2 rfl ?_
  refine ww_max (pc := 4) hC ql_X1_81 qt_J9_max_7cf53 qn_J9 qc_J9_max_7cf53 dX1_holds_4 ⟨Nat.le_of_ble_eq_true rfl, Nat.le_of_ble_eq_true rfl⟩ (Nat.le_of_ble_eq_true rfl) ⟨Nat.le_of_ble_eq_true rfl, Nat.le_of_ble_eq_true rfl⟩ ?_
  obtain ⟨y1, ey1⟩ : ∃ q, q = if ((0 : Int32)) < x1 then x1 else ((0 : Int32)) := ⟨_, rfl⟩
  replace h := nm_i h ey1
  refine ww_nmi ey1 ?_
  refine ww_istore (pc := 7) hC [(5, .int y1), (3, .long ((0 : Int64))), (0, .ref (w.1 a0)), (1, .int x1), (2, .int x2)] dX1_holds_7  (by decide) rfl ?_
  refine ww_sub [2, 4, 1, 0] rfl ?_
  exact j9 _ _ _ _ h
noncomputable def fX10_kind (Z : XS) (a0 : Nat) (X : XD) : Option Int32 := some ((3 : Int32))
set_option maxHeartbeats 40000000 in
set_option maxRecDepth 100000 in
theorem ceX10_kind {l : Launch} {E : XE} {w : XW} {z : Nat} {Z : XS}  (hL : LayC Z) {a0 : Nat} (h_a0 : KS Z a0) {X : XD} {r : Int32} (h : fX10_kind Z a0 X = some r) : Ct l E w yX10_kind (wsM yX10_kind cX10_kind 1 (some .int)) (rmX 1 0 0) 0 0 [.ref (w.1 a0)] z z Z Z X X (some (.int r)) := by
  refine ct_of (by decide) (Nat.le_of_ble_eq_true rfl) ?_
  intro p e s m args below meth c hC hr hin hav
  unfold fX10_kind at h
  refine ww_lv (lv' := [(0, .ref (w.1 a0))]) rfl ?_
  refine ww_iconst (pc := 0) hC (v := (3 : Int32)) dX10_kind_0 (by decide) ?_
  exact ww_iret (pc := 1) hC hr (ret_r h) dX10_kind_1
noncomputable def fX2_kind (Z : XS) (a0 : Nat) (X : XD) : Option Int32 := some ((5 : Int32))
set_option maxHeartbeats 40000000 in
set_option maxRecDepth 100000 in
theorem ceX2_kind {l : Launch} {E : XE} {w : XW} {z : Nat} {Z : XS}  (hL : LayC Z) {a0 : Nat} (h_a0 : KS Z a0) {X : XD} {r : Int32} (h : fX2_kind Z a0 X = some r) : Ct l E w yX2_kind (wsM yX2_kind cX2_kind 1 (some .int)) (rmX 1 0 0) 0 0 [.ref (w.1 a0)] z z Z Z X X (some (.int r)) := by
  refine ct_of (by decide) (Nat.le_of_ble_eq_true rfl) ?_
  intro p e s m args below meth c hC hr hin hav
  unfold fX2_kind at h
  refine ww_lv (lv' := [(0, .ref (w.1 a0))]) rfl ?_
  refine ww_iconst (pc := 0) hC (v := (5 : Int32)) dX2_kind_0 (by decide) ?_
  exact ww_iret (pc := 1) hC hr (ret_r h) dX2_kind_1
noncomputable def fX4_kind (Z : XS) (a0 : Nat) (X : XD) : Option Int32 := some ((0 : Int32))
set_option maxHeartbeats 40000000 in
set_option maxRecDepth 100000 in
theorem ceX4_kind {l : Launch} {E : XE} {w : XW} {z : Nat} {Z : XS}  (hL : LayC Z) {a0 : Nat} (h_a0 : KS Z a0) {X : XD} {r : Int32} (h : fX4_kind Z a0 X = some r) : Ct l E w yX4_kind (wsM yX4_kind cX4_kind 1 (some .int)) (rmX 1 0 0) 0 0 [.ref (w.1 a0)] z z Z Z X X (some (.int r)) := by
  refine ct_of (by decide) (Nat.le_of_ble_eq_true rfl) ?_
  intro p e s m args below meth c hC hr hin hav
  unfold fX4_kind at h
  refine ww_lv (lv' := [(0, .ref (w.1 a0))]) rfl ?_
  refine ww_iconst (pc := 0) hC (v := (0 : Int32)) dX4_kind_0 (by decide) ?_
  exact ww_iret (pc := 1) hC hr (ret_r h) dX4_kind_1
noncomputable def fX5_kind (Z : XS) (a0 : Nat) (X : XD) : Option Int32 := some ((2 : Int32))
set_option maxHeartbeats 40000000 in
set_option maxRecDepth 100000 in
theorem ceX5_kind {l : Launch} {E : XE} {w : XW} {z : Nat} {Z : XS}  (hL : LayC Z) {a0 : Nat} (h_a0 : KS Z a0) {X : XD} {r : Int32} (h : fX5_kind Z a0 X = some r) : Ct l E w yX5_kind (wsM yX5_kind cX5_kind 1 (some .int)) (rmX 1 0 0) 0 0 [.ref (w.1 a0)] z z Z Z X X (some (.int r)) := by
  refine ct_of (by decide) (Nat.le_of_ble_eq_true rfl) ?_
  intro p e s m args below meth c hC hr hin hav
  unfold fX5_kind at h
  refine ww_lv (lv' := [(0, .ref (w.1 a0))]) rfl ?_
  refine ww_iconst (pc := 0) hC (v := (2 : Int32)) dX5_kind_0 (by decide) ?_
  exact ww_iret (pc := 1) hC hr (ret_r h) dX5_kind_1
noncomputable def fX7_kind (Z : XS) (a0 : Nat) (X : XD) : Option Int32 := some ((6 : Int32))
set_option maxHeartbeats 40000000 in
set_option maxRecDepth 100000 in
theorem ceX7_kind {l : Launch} {E : XE} {w : XW} {z : Nat} {Z : XS}  (hL : LayC Z) {a0 : Nat} (h_a0 : KS Z a0) {X : XD} {r : Int32} (h : fX7_kind Z a0 X = some r) : Ct l E w yX7_kind (wsM yX7_kind cX7_kind 1 (some .int)) (rmX 1 0 0) 0 0 [.ref (w.1 a0)] z z Z Z X X (some (.int r)) := by
  refine ct_of (by decide) (Nat.le_of_ble_eq_true rfl) ?_
  intro p e s m args below meth c hC hr hin hav
  unfold fX7_kind at h
  refine ww_lv (lv' := [(0, .ref (w.1 a0))]) rfl ?_
  refine ww_bipush (pc := 0) hC (v := (6 : Int32)) dX7_kind_0 (by decide) ?_
  exact ww_iret (pc := 2) hC hr (ret_r h) dX7_kind_2
noncomputable def fX8_kind (Z : XS) (a0 : Nat) (X : XD) : Option Int32 := some ((1 : Int32))
set_option maxHeartbeats 40000000 in
set_option maxRecDepth 100000 in
theorem ceX8_kind {l : Launch} {E : XE} {w : XW} {z : Nat} {Z : XS}  (hL : LayC Z) {a0 : Nat} (h_a0 : KS Z a0) {X : XD} {r : Int32} (h : fX8_kind Z a0 X = some r) : Ct l E w yX8_kind (wsM yX8_kind cX8_kind 1 (some .int)) (rmX 1 0 0) 0 0 [.ref (w.1 a0)] z z Z Z X X (some (.int r)) := by
  refine ct_of (by decide) (Nat.le_of_ble_eq_true rfl) ?_
  intro p e s m args below meth c hC hr hin hav
  unfold fX8_kind at h
  refine ww_lv (lv' := [(0, .ref (w.1 a0))]) rfl ?_
  refine ww_iconst (pc := 0) hC (v := (1 : Int32)) dX8_kind_0 (by decide) ?_
  exact ww_iret (pc := 1) hC hr (ret_r h) dX8_kind_1
noncomputable def fV_X4_kind (Z : XS) (a0 : Nat) (X : XD) : Option Int32 := if sK Z a0 = 0 then fX0_kind Z a0 X else (if sK Z a0 = 2 then fX2_kind Z a0 X else (if sK Z a0 = 4 then fX4_kind Z a0 X else (if sK Z a0 = 5 then fX5_kind Z a0 X else (if sK Z a0 = 7 then fX7_kind Z a0 X else (if sK Z a0 = 8 then fX8_kind Z a0 X else (fX10_kind Z a0 X))))))
set_option maxHeartbeats 4000000 in
theorem vd_X4_kind {p : Program} {l : Launch} {e : Env} {R : Room} {s : State} {m : MethodId} {args : Array Value} {below : List Frame} {meth : Method} {c : Code} {nL : Nat} {Q : State → Prop} {E : XE} {w : XW} {cells slots z : Nat} {Z : XS} {pc idx : Nat} {lv : List (Nat × Value)} {rest : List Value} {X : XD} {cc : ByteArray} {own : String} {a0 : Nat} {r : Int32} (h : CX p s m args meth c E cc nL own) (hL : LayC Z) (hk : KS Z a0) (hf : fV_X4_kind Z a0 X = some r) (w1 : Cond.methodLink own idx yX4_kind ∈ xtb) (hR : 1 + 1 ≤ R.frames ∧ 60 * (1 + 1) ≤ R.locals) (hst : (rest.map fun v => v.category).sum ≤ 8) (hd : decode cc pc = .ok (.invokevirtual idx, 3)) (hfz : cells ≤ R.cells ∧ slots ≤ R.slots)
    (kk : WW p l e R s m args below meth c nL Q E w cells slots z Z (pc + 3) lv (.int r :: rest) X) : WW p l e R s m args below meth c nL Q E w cells slots z Z pc lv (.ref (w.1 a0) :: rest) X := by
  obtain ⟨hn, hs⟩ := id hk
  unfold fV_X4_kind at hf
  unfold isSh at hs
  rcases hs with e1 | e1 | e1 | e1 | e1 | e1 | e1
  · rw [if_pos e1] at hf; exact ww_callOi h [] hn e1 (by decide) (ceX0_kind hL hk hf) w1 qm_X4_X4_kind qi_X4_kind qc_X4_kind qs_X0_X4_kind qi_X0_kind qn_X0 qc_X0_kind ⟨by decide, by decide, rfl⟩ rfl ⟨Nat.le_trans (by decide) hR.1, Nat.le_trans (by decide) hR.2⟩ (by decide) hst hd hfz rfl kk
  · rw [if_neg (by rw [e1]; decide)] at hf; rw [if_pos e1] at hf; exact ww_callOi h [] hn e1 (by decide) (ceX2_kind hL hk hf) w1 qm_X4_X4_kind qi_X4_kind qc_X4_kind qs_X2_X4_kind qi_X2_kind qn_X2 qc_X2_kind ⟨by decide, by decide, rfl⟩ rfl ⟨Nat.le_trans (by decide) hR.1, Nat.le_trans (by decide) hR.2⟩ (by decide) hst hd hfz rfl kk
  · rw [if_neg (by rw [e1]; decide)] at hf; rw [if_neg (by rw [e1]; decide)] at hf; rw [if_pos e1] at hf; exact ww_callOi h [] hn e1 (by decide) (ceX4_kind hL hk hf) w1 qm_X4_X4_kind qi_X4_kind qc_X4_kind qs_X4_X4_kind qi_X4_kind qn_X4 qc_X4_kind ⟨by decide, by decide, rfl⟩ rfl ⟨Nat.le_trans (by decide) hR.1, Nat.le_trans (by decide) hR.2⟩ (by decide) hst hd hfz rfl kk
  · rw [if_neg (by rw [e1]; decide)] at hf; rw [if_neg (by rw [e1]; decide)] at hf; rw [if_neg (by rw [e1]; decide)] at hf; rw [if_pos e1] at hf; exact ww_callOi h [] hn e1 (by decide) (ceX5_kind hL hk hf) w1 qm_X4_X4_kind qi_X4_kind qc_X4_kind qs_X5_X4_kind qi_X5_kind qn_X5 qc_X5_kind ⟨by decide, by decide, rfl⟩ rfl ⟨Nat.le_trans (by decide) hR.1, Nat.le_trans (by decide) hR.2⟩ (by decide) hst hd hfz rfl kk
  · rw [if_neg (by rw [e1]; decide)] at hf; rw [if_neg (by rw [e1]; decide)] at hf; rw [if_neg (by rw [e1]; decide)] at hf; rw [if_neg (by rw [e1]; decide)] at hf; rw [if_pos e1] at hf; exact ww_callOi h [] hn e1 (by decide) (ceX7_kind hL hk hf) w1 qm_X4_X4_kind qi_X4_kind qc_X4_kind qs_X7_X4_kind qi_X7_kind qn_X7 qc_X7_kind ⟨by decide, by decide, rfl⟩ rfl ⟨Nat.le_trans (by decide) hR.1, Nat.le_trans (by decide) hR.2⟩ (by decide) hst hd hfz rfl kk
  · rw [if_neg (by rw [e1]; decide)] at hf; rw [if_neg (by rw [e1]; decide)] at hf; rw [if_neg (by rw [e1]; decide)] at hf; rw [if_neg (by rw [e1]; decide)] at hf; rw [if_neg (by rw [e1]; decide)] at hf; rw [if_pos e1] at hf; exact ww_callOi h [] hn e1 (by decide) (ceX8_kind hL hk hf) w1 qm_X4_X4_kind qi_X4_kind qc_X4_kind qs_X8_X4_kind qi_X8_kind qn_X8 qc_X8_kind ⟨by decide, by decide, rfl⟩ rfl ⟨Nat.le_trans (by decide) hR.1, Nat.le_trans (by decide) hR.2⟩ (by decide) hst hd hfz rfl kk
  · rw [if_neg (by rw [e1]; decide)] at hf; rw [if_neg (by rw [e1]; decide)] at hf; rw [if_neg (by rw [e1]; decide)] at hf; rw [if_neg (by rw [e1]; decide)] at hf; rw [if_neg (by rw [e1]; decide)] at hf; rw [if_neg (by rw [e1]; decide)] at hf; exact ww_callOi h [] hn e1 (by decide) (ceX10_kind hL hk hf) w1 qm_X4_X4_kind qi_X4_kind qc_X4_kind qs_X10_X4_kind qi_X10_kind qn_X10 qc_X10_kind ⟨by decide, by decide, rfl⟩ rfl ⟨Nat.le_trans (by decide) hR.1, Nat.le_trans (by decide) hR.2⟩ (by decide) hst hd hfz rfl kk
