/-! the kinds' constructors, newShooter, shooter -/
set_option maxHeartbeats 40000000 in
set_option maxRecDepth 100000 in
theorem ceX4_init_4 {l : Launch} {E : XE} {w : XW} {z : Nat} {Z : XS} {a0 : Nat} (h_a0 : KK Z a0 4) {x1 x2 : Int32} {X : XD} : Ct l E w yX4_init (wsM yX4_init cX4_init 3 none) (rmX 1 0 0) 0 0 [.ref (w.1 a0), .int x1, .int x2] z z Z Z X (wI (wI X a0 0 x1) a0 1 x2) none := by
  refine ct_of (by decide) (Nat.le_of_ble_eq_true rfl) ?_
  intro p e s m args below meth c hC hr hin hav
  refine ww_lv (lv' := [(0, .ref (w.1 a0)), (1, .int x1), (2, .int x2)]) rfl ?_
  refine ww_aload_n (pc := 0) hC dX4_init_0 0 rfl ?_
  refine ww_objInit (pc := 1) hC ql_X4_3 qi_java_lang_Object__init_ qc_java_lang_Object__init_ dX4_init_1 ⟨Nat.le_of_ble_eq_true rfl, Nat.le_of_ble_eq_true rfl⟩ (Nat.le_of_ble_eq_true rfl) ?_
  refine ww_aload_n (pc := 4) hC dX4_init_4 0 rfl ?_
  refine ww_iload_n (pc := 5) hC dX4_init_5 1 rfl ?_
  refine ww_putF (pc := 6) hC 4 0 h_a0 RX4 (by decide) (by decide) rfl qf_X4_9 rfl hin rfl rfl rfl rfl dX4_init_6 ?_
  refine ww_aload_n (pc := 9) hC dX4_init_9 0 rfl ?_
  refine ww_iload_n (pc := 10) hC dX4_init_10 2 rfl ?_
  refine ww_putF (pc := 11) hC 4 1 h_a0 RX4 (by decide) (by decide) rfl qf_X4_15 rfl hin rfl rfl rfl rfl dX4_init_11 ?_
  exact ww_vret (pc := 14) hC hr (u := ()) (r := ()) rfl dX4_init_14
set_option maxHeartbeats 40000000 in
set_option maxRecDepth 100000 in
theorem ceX4_init_8 {l : Launch} {E : XE} {w : XW} {z : Nat} {Z : XS} {a0 : Nat} (h_a0 : KK Z a0 8) {x1 x2 : Int32} {X : XD} : Ct l E w yX4_init (wsM yX4_init cX4_init 3 none) (rmX 1 0 0) 0 0 [.ref (w.1 a0), .int x1, .int x2] z z Z Z X (wI (wI X a0 0 x1) a0 1 x2) none := by
  refine ct_of (by decide) (Nat.le_of_ble_eq_true rfl) ?_
  intro p e s m args below meth c hC hr hin hav
  refine ww_lv (lv' := [(0, .ref (w.1 a0)), (1, .int x1), (2, .int x2)]) rfl ?_
  refine ww_aload_n (pc := 0) hC dX4_init_0 0 rfl ?_
  refine ww_objInit (pc := 1) hC ql_X4_3 qi_java_lang_Object__init_ qc_java_lang_Object__init_ dX4_init_1 ⟨Nat.le_of_ble_eq_true rfl, Nat.le_of_ble_eq_true rfl⟩ (Nat.le_of_ble_eq_true rfl) ?_
  refine ww_aload_n (pc := 4) hC dX4_init_4 0 rfl ?_
  refine ww_iload_n (pc := 5) hC dX4_init_5 1 rfl ?_
  refine ww_putF (pc := 6) hC 8 0 h_a0 RX4 (by decide) (by decide) rfl qf_X4_9 rfl hin rfl rfl rfl rfl dX4_init_6 ?_
  refine ww_aload_n (pc := 9) hC dX4_init_9 0 rfl ?_
  refine ww_iload_n (pc := 10) hC dX4_init_10 2 rfl ?_
  refine ww_putF (pc := 11) hC 8 1 h_a0 RX4 (by decide) (by decide) rfl qf_X4_15 rfl hin rfl rfl rfl rfl dX4_init_11 ?_
  exact ww_vret (pc := 14) hC hr (u := ()) (r := ()) rfl dX4_init_14
set_option maxHeartbeats 40000000 in
set_option maxRecDepth 100000 in
theorem ceX8_init_8 {l : Launch} {E : XE} {w : XW} {z : Nat} {Z : XS} {a0 : Nat} (h_a0 : KK Z a0 8) {x1 x2 : Int32} {X : XD} : Ct l E w yX8_init (wsM yX8_init cX8_init 3 none) (rmX 2 0 0) 0 0 [.ref (w.1 a0), .int x1, .int x2] z z Z Z X (wI (wI X a0 0 x1) a0 1 x2) none := by
  refine ct_of (by decide) (Nat.le_of_ble_eq_true rfl) ?_
  intro p e s m args below meth c hC hr hin hav
  refine ww_lv (lv' := [(0, .ref (w.1 a0)), (1, .int x1), (2, .int x2)]) rfl ?_
  refine ww_aload_n (pc := 0) hC dX8_init_0 0 rfl ?_
  refine ww_iload_n (pc := 1) hC dX8_init_1 1 rfl ?_
  refine ww_iload_n (pc := 2) hC dX8_init_2 2 rfl ?_
  refine ww_callI0 (pc := 3) hC [.int x1, .int x2] (X' := (wI (wI X a0 0 x1) a0 1 x2)) (ceX4_init_8 h_a0) ql_X8_3 qi_X4_init qn_X4 qc_X4_init rfl ⟨by decide, by decide, rfl⟩ rfl ⟨Nat.le_of_ble_eq_true rfl, Nat.le_of_ble_eq_true rfl⟩ (by decide) (rest := []) (Nat.le_of_ble_eq_true rfl) dX8_init_3 ⟨Nat.le_of_ble_eq_true rfl, Nat.le_of_ble_eq_true rfl⟩ rfl ?_
  exact ww_vret (pc := 6) hC hr (u := ()) (r := ()) rfl dX8_init_6
set_option maxHeartbeats 40000000 in
set_option maxRecDepth 100000 in
theorem ceX4_init_5 {l : Launch} {E : XE} {w : XW} {z : Nat} {Z : XS} {a0 : Nat} (h_a0 : KK Z a0 5) {x1 x2 : Int32} {X : XD} : Ct l E w yX4_init (wsM yX4_init cX4_init 3 none) (rmX 1 0 0) 0 0 [.ref (w.1 a0), .int x1, .int x2] z z Z Z X (wI (wI X a0 0 x1) a0 1 x2) none := by
  refine ct_of (by decide) (Nat.le_of_ble_eq_true rfl) ?_
  intro p e s m args below meth c hC hr hin hav
  refine ww_lv (lv' := [(0, .ref (w.1 a0)), (1, .int x1), (2, .int x2)]) rfl ?_
  refine ww_aload_n (pc := 0) hC dX4_init_0 0 rfl ?_
  refine ww_objInit (pc := 1) hC ql_X4_3 qi_java_lang_Object__init_ qc_java_lang_Object__init_ dX4_init_1 ⟨Nat.le_of_ble_eq_true rfl, Nat.le_of_ble_eq_true rfl⟩ (Nat.le_of_ble_eq_true rfl) ?_
  refine ww_aload_n (pc := 4) hC dX4_init_4 0 rfl ?_
  refine ww_iload_n (pc := 5) hC dX4_init_5 1 rfl ?_
  refine ww_putF (pc := 6) hC 5 0 h_a0 RX4 (by decide) (by decide) rfl qf_X4_9 rfl hin rfl rfl rfl rfl dX4_init_6 ?_
  refine ww_aload_n (pc := 9) hC dX4_init_9 0 rfl ?_
  refine ww_iload_n (pc := 10) hC dX4_init_10 2 rfl ?_
  refine ww_putF (pc := 11) hC 5 1 h_a0 RX4 (by decide) (by decide) rfl qf_X4_15 rfl hin rfl rfl rfl rfl dX4_init_11 ?_
  exact ww_vret (pc := 14) hC hr (u := ()) (r := ()) rfl dX4_init_14
set_option maxHeartbeats 40000000 in
set_option maxRecDepth 100000 in
theorem ceX5_init_5 {l : Launch} {E : XE} {w : XW} {z : Nat} {Z : XS} {a0 : Nat} (h_a0 : KK Z a0 5) {x1 x2 : Int32} {X : XD} : Ct l E w yX5_init (wsM yX5_init cX5_init 3 none) (rmX 2 0 0) 0 0 [.ref (w.1 a0), .int x1, .int x2] z z Z Z X (wI (wI X a0 0 x1) a0 1 x2) none := by
  refine ct_of (by decide) (Nat.le_of_ble_eq_true rfl) ?_
  intro p e s m args below meth c hC hr hin hav
  refine ww_lv (lv' := [(0, .ref (w.1 a0)), (1, .int x1), (2, .int x2)]) rfl ?_
  refine ww_aload_n (pc := 0) hC dX5_init_0 0 rfl ?_
  refine ww_iload_n (pc := 1) hC dX5_init_1 1 rfl ?_
  refine ww_iload_n (pc := 2) hC dX5_init_2 2 rfl ?_
  refine ww_callI0 (pc := 3) hC [.int x1, .int x2] (X' := (wI (wI X a0 0 x1) a0 1 x2)) (ceX4_init_5 h_a0) ql_X5_3 qi_X4_init qn_X4 qc_X4_init rfl ⟨by decide, by decide, rfl⟩ rfl ⟨Nat.le_of_ble_eq_true rfl, Nat.le_of_ble_eq_true rfl⟩ (by decide) (rest := []) (Nat.le_of_ble_eq_true rfl) dX5_init_3 ⟨Nat.le_of_ble_eq_true rfl, Nat.le_of_ble_eq_true rfl⟩ rfl ?_
  exact ww_vret (pc := 6) hC hr (u := ()) (r := ()) rfl dX5_init_6
set_option maxHeartbeats 40000000 in
set_option maxRecDepth 100000 in
theorem ceX4_init_10 {l : Launch} {E : XE} {w : XW} {z : Nat} {Z : XS} {a0 : Nat} (h_a0 : KK Z a0 10) {x1 x2 : Int32} {X : XD} : Ct l E w yX4_init (wsM yX4_init cX4_init 3 none) (rmX 1 0 0) 0 0 [.ref (w.1 a0), .int x1, .int x2] z z Z Z X (wI (wI X a0 0 x1) a0 1 x2) none := by
  refine ct_of (by decide) (Nat.le_of_ble_eq_true rfl) ?_
  intro p e s m args below meth c hC hr hin hav
  refine ww_lv (lv' := [(0, .ref (w.1 a0)), (1, .int x1), (2, .int x2)]) rfl ?_
  refine ww_aload_n (pc := 0) hC dX4_init_0 0 rfl ?_
  refine ww_objInit (pc := 1) hC ql_X4_3 qi_java_lang_Object__init_ qc_java_lang_Object__init_ dX4_init_1 ⟨Nat.le_of_ble_eq_true rfl, Nat.le_of_ble_eq_true rfl⟩ (Nat.le_of_ble_eq_true rfl) ?_
  refine ww_aload_n (pc := 4) hC dX4_init_4 0 rfl ?_
  refine ww_iload_n (pc := 5) hC dX4_init_5 1 rfl ?_
  refine ww_putF (pc := 6) hC 10 0 h_a0 RX4 (by decide) (by decide) rfl qf_X4_9 rfl hin rfl rfl rfl rfl dX4_init_6 ?_
  refine ww_aload_n (pc := 9) hC dX4_init_9 0 rfl ?_
  refine ww_iload_n (pc := 10) hC dX4_init_10 2 rfl ?_
  refine ww_putF (pc := 11) hC 10 1 h_a0 RX4 (by decide) (by decide) rfl qf_X4_15 rfl hin rfl rfl rfl rfl dX4_init_11 ?_
  exact ww_vret (pc := 14) hC hr (u := ()) (r := ()) rfl dX4_init_14
set_option maxHeartbeats 40000000 in
set_option maxRecDepth 100000 in
theorem ceX10_init_10 {l : Launch} {E : XE} {w : XW} {z : Nat} {Z : XS} {a0 : Nat} (h_a0 : KK Z a0 10) {x1 x2 : Int32} {X : XD} : Ct l E w yX10_init (wsM yX10_init cX10_init 3 none) (rmX 2 0 0) 0 0 [.ref (w.1 a0), .int x1, .int x2] z z Z Z X (wI (wI X a0 0 x1) a0 1 x2) none := by
  refine ct_of (by decide) (Nat.le_of_ble_eq_true rfl) ?_
  intro p e s m args below meth c hC hr hin hav
  refine ww_lv (lv' := [(0, .ref (w.1 a0)), (1, .int x1), (2, .int x2)]) rfl ?_
  refine ww_aload_n (pc := 0) hC dX10_init_0 0 rfl ?_
  refine ww_iload_n (pc := 1) hC dX10_init_1 1 rfl ?_
  refine ww_iload_n (pc := 2) hC dX10_init_2 2 rfl ?_
  refine ww_callI0 (pc := 3) hC [.int x1, .int x2] (X' := (wI (wI X a0 0 x1) a0 1 x2)) (ceX4_init_10 h_a0) ql_X10_1 qi_X4_init qn_X4 qc_X4_init rfl ⟨by decide, by decide, rfl⟩ rfl ⟨Nat.le_of_ble_eq_true rfl, Nat.le_of_ble_eq_true rfl⟩ (by decide) (rest := []) (Nat.le_of_ble_eq_true rfl) dX10_init_3 ⟨Nat.le_of_ble_eq_true rfl, Nat.le_of_ble_eq_true rfl⟩ rfl ?_
  exact ww_vret (pc := 6) hC hr (u := ()) (r := ()) rfl dX10_init_6
set_option maxHeartbeats 40000000 in
set_option maxRecDepth 100000 in
theorem ceX4_init_0 {l : Launch} {E : XE} {w : XW} {z : Nat} {Z : XS} {a0 : Nat} (h_a0 : KK Z a0 0) {x1 x2 : Int32} {X : XD} : Ct l E w yX4_init (wsM yX4_init cX4_init 3 none) (rmX 1 0 0) 0 0 [.ref (w.1 a0), .int x1, .int x2] z z Z Z X (wI (wI X a0 0 x1) a0 1 x2) none := by
  refine ct_of (by decide) (Nat.le_of_ble_eq_true rfl) ?_
  intro p e s m args below meth c hC hr hin hav
  refine ww_lv (lv' := [(0, .ref (w.1 a0)), (1, .int x1), (2, .int x2)]) rfl ?_
  refine ww_aload_n (pc := 0) hC dX4_init_0 0 rfl ?_
  refine ww_objInit (pc := 1) hC ql_X4_3 qi_java_lang_Object__init_ qc_java_lang_Object__init_ dX4_init_1 ⟨Nat.le_of_ble_eq_true rfl, Nat.le_of_ble_eq_true rfl⟩ (Nat.le_of_ble_eq_true rfl) ?_
  refine ww_aload_n (pc := 4) hC dX4_init_4 0 rfl ?_
  refine ww_iload_n (pc := 5) hC dX4_init_5 1 rfl ?_
  refine ww_putF (pc := 6) hC 0 0 h_a0 RX4 (by decide) (by decide) rfl qf_X4_9 rfl hin rfl rfl rfl rfl dX4_init_6 ?_
  refine ww_aload_n (pc := 9) hC dX4_init_9 0 rfl ?_
  refine ww_iload_n (pc := 10) hC dX4_init_10 2 rfl ?_
  refine ww_putF (pc := 11) hC 0 1 h_a0 RX4 (by decide) (by decide) rfl qf_X4_15 rfl hin rfl rfl rfl rfl dX4_init_11 ?_
  exact ww_vret (pc := 14) hC hr (u := ()) (r := ()) rfl dX4_init_14
set_option maxHeartbeats 40000000 in
set_option maxRecDepth 100000 in
theorem ceX8_init_0 {l : Launch} {E : XE} {w : XW} {z : Nat} {Z : XS} {a0 : Nat} (h_a0 : KK Z a0 0) {x1 x2 : Int32} {X : XD} : Ct l E w yX8_init (wsM yX8_init cX8_init 3 none) (rmX 2 0 0) 0 0 [.ref (w.1 a0), .int x1, .int x2] z z Z Z X (wI (wI X a0 0 x1) a0 1 x2) none := by
  refine ct_of (by decide) (Nat.le_of_ble_eq_true rfl) ?_
  intro p e s m args below meth c hC hr hin hav
  refine ww_lv (lv' := [(0, .ref (w.1 a0)), (1, .int x1), (2, .int x2)]) rfl ?_
  refine ww_aload_n (pc := 0) hC dX8_init_0 0 rfl ?_
  refine ww_iload_n (pc := 1) hC dX8_init_1 1 rfl ?_
  refine ww_iload_n (pc := 2) hC dX8_init_2 2 rfl ?_
  refine ww_callI0 (pc := 3) hC [.int x1, .int x2] (X' := (wI (wI X a0 0 x1) a0 1 x2)) (ceX4_init_0 h_a0) ql_X8_3 qi_X4_init qn_X4 qc_X4_init rfl ⟨by decide, by decide, rfl⟩ rfl ⟨Nat.le_of_ble_eq_true rfl, Nat.le_of_ble_eq_true rfl⟩ (by decide) (rest := []) (Nat.le_of_ble_eq_true rfl) dX8_init_3 ⟨Nat.le_of_ble_eq_true rfl, Nat.le_of_ble_eq_true rfl⟩ rfl ?_
  exact ww_vret (pc := 6) hC hr (u := ()) (r := ()) rfl dX8_init_6
set_option maxHeartbeats 40000000 in
set_option maxRecDepth 100000 in
theorem ceX0_init_0 {l : Launch} {E : XE} {w : XW} {z : Nat} {Z : XS} {a0 : Nat} (h_a0 : KK Z a0 0) {x1 x2 : Int32} {X : XD} : Ct l E w yX0_init (wsM yX0_init cX0_init 3 none) (rmX 3 0 0) 0 0 [.ref (w.1 a0), .int x1, .int x2] z z Z Z X (wI (wI X a0 0 x1) a0 1 x2) none := by
  refine ct_of (by decide) (Nat.le_of_ble_eq_true rfl) ?_
  intro p e s m args below meth c hC hr hin hav
  refine ww_lv (lv' := [(0, .ref (w.1 a0)), (1, .int x1), (2, .int x2)]) rfl ?_
  refine ww_aload_n (pc := 0) hC dX0_init_0 0 rfl ?_
  refine ww_iload_n (pc := 1) hC dX0_init_1 1 rfl ?_
  refine ww_iload_n (pc := 2) hC dX0_init_2 2 rfl ?_
  refine ww_callI0 (pc := 3) hC [.int x1, .int x2] (X' := (wI (wI X a0 0 x1) a0 1 x2)) (ceX8_init_0 h_a0) ql_X0_3 qi_X8_init qn_X8 qc_X8_init rfl ⟨by decide, by decide, rfl⟩ rfl ⟨Nat.le_of_ble_eq_true rfl, Nat.le_of_ble_eq_true rfl⟩ (by decide) (rest := []) (Nat.le_of_ble_eq_true rfl) dX0_init_3 ⟨Nat.le_of_ble_eq_true rfl, Nat.le_of_ble_eq_true rfl⟩ rfl ?_
  exact ww_vret (pc := 6) hC hr (u := ()) (r := ()) rfl dX0_init_6
set_option maxHeartbeats 40000000 in
set_option maxRecDepth 100000 in
theorem ceX4_init_2 {l : Launch} {E : XE} {w : XW} {z : Nat} {Z : XS} {a0 : Nat} (h_a0 : KK Z a0 2) {x1 x2 : Int32} {X : XD} : Ct l E w yX4_init (wsM yX4_init cX4_init 3 none) (rmX 1 0 0) 0 0 [.ref (w.1 a0), .int x1, .int x2] z z Z Z X (wI (wI X a0 0 x1) a0 1 x2) none := by
  refine ct_of (by decide) (Nat.le_of_ble_eq_true rfl) ?_
  intro p e s m args below meth c hC hr hin hav
  refine ww_lv (lv' := [(0, .ref (w.1 a0)), (1, .int x1), (2, .int x2)]) rfl ?_
  refine ww_aload_n (pc := 0) hC dX4_init_0 0 rfl ?_
  refine ww_objInit (pc := 1) hC ql_X4_3 qi_java_lang_Object__init_ qc_java_lang_Object__init_ dX4_init_1 ⟨Nat.le_of_ble_eq_true rfl, Nat.le_of_ble_eq_true rfl⟩ (Nat.le_of_ble_eq_true rfl) ?_
  refine ww_aload_n (pc := 4) hC dX4_init_4 0 rfl ?_
  refine ww_iload_n (pc := 5) hC dX4_init_5 1 rfl ?_
  refine ww_putF (pc := 6) hC 2 0 h_a0 RX4 (by decide) (by decide) rfl qf_X4_9 rfl hin rfl rfl rfl rfl dX4_init_6 ?_
  refine ww_aload_n (pc := 9) hC dX4_init_9 0 rfl ?_
  refine ww_iload_n (pc := 10) hC dX4_init_10 2 rfl ?_
  refine ww_putF (pc := 11) hC 2 1 h_a0 RX4 (by decide) (by decide) rfl qf_X4_15 rfl hin rfl rfl rfl rfl dX4_init_11 ?_
  exact ww_vret (pc := 14) hC hr (u := ()) (r := ()) rfl dX4_init_14
set_option maxHeartbeats 40000000 in
set_option maxRecDepth 100000 in
theorem ceX5_init_2 {l : Launch} {E : XE} {w : XW} {z : Nat} {Z : XS} {a0 : Nat} (h_a0 : KK Z a0 2) {x1 x2 : Int32} {X : XD} : Ct l E w yX5_init (wsM yX5_init cX5_init 3 none) (rmX 2 0 0) 0 0 [.ref (w.1 a0), .int x1, .int x2] z z Z Z X (wI (wI X a0 0 x1) a0 1 x2) none := by
  refine ct_of (by decide) (Nat.le_of_ble_eq_true rfl) ?_
  intro p e s m args below meth c hC hr hin hav
  refine ww_lv (lv' := [(0, .ref (w.1 a0)), (1, .int x1), (2, .int x2)]) rfl ?_
  refine ww_aload_n (pc := 0) hC dX5_init_0 0 rfl ?_
  refine ww_iload_n (pc := 1) hC dX5_init_1 1 rfl ?_
  refine ww_iload_n (pc := 2) hC dX5_init_2 2 rfl ?_
  refine ww_callI0 (pc := 3) hC [.int x1, .int x2] (X' := (wI (wI X a0 0 x1) a0 1 x2)) (ceX4_init_2 h_a0) ql_X5_3 qi_X4_init qn_X4 qc_X4_init rfl ⟨by decide, by decide, rfl⟩ rfl ⟨Nat.le_of_ble_eq_true rfl, Nat.le_of_ble_eq_true rfl⟩ (by decide) (rest := []) (Nat.le_of_ble_eq_true rfl) dX5_init_3 ⟨Nat.le_of_ble_eq_true rfl, Nat.le_of_ble_eq_true rfl⟩ rfl ?_
  exact ww_vret (pc := 6) hC hr (u := ()) (r := ()) rfl dX5_init_6
set_option maxHeartbeats 40000000 in
set_option maxRecDepth 100000 in
theorem ceX2_init_2 {l : Launch} {E : XE} {w : XW} {z : Nat} {Z : XS} {a0 : Nat} (h_a0 : KK Z a0 2) {x1 x2 : Int32} {X : XD} : Ct l E w yX2_init (wsM yX2_init cX2_init 3 none) (rmX 3 0 0) 0 0 [.ref (w.1 a0), .int x1, .int x2] z z Z Z X (wI (wI X a0 0 x1) a0 1 x2) none := by
  refine ct_of (by decide) (Nat.le_of_ble_eq_true rfl) ?_
  intro p e s m args below meth c hC hr hin hav
  refine ww_lv (lv' := [(0, .ref (w.1 a0)), (1, .int x1), (2, .int x2)]) rfl ?_
  refine ww_aload_n (pc := 0) hC dX2_init_0 0 rfl ?_
  refine ww_iload_n (pc := 1) hC dX2_init_1 1 rfl ?_
  refine ww_iload_n (pc := 2) hC dX2_init_2 2 rfl ?_
  refine ww_callI0 (pc := 3) hC [.int x1, .int x2] (X' := (wI (wI X a0 0 x1) a0 1 x2)) (ceX5_init_2 h_a0) ql_X2_3 qi_X5_init qn_X5 qc_X5_init rfl ⟨by decide, by decide, rfl⟩ rfl ⟨Nat.le_of_ble_eq_true rfl, Nat.le_of_ble_eq_true rfl⟩ (by decide) (rest := []) (Nat.le_of_ble_eq_true rfl) dX2_init_3 ⟨Nat.le_of_ble_eq_true rfl, Nat.le_of_ble_eq_true rfl⟩ rfl ?_
  exact ww_vret (pc := 6) hC hr (u := ()) (r := ()) rfl dX2_init_6
set_option maxHeartbeats 40000000 in
set_option maxRecDepth 100000 in
theorem ceX4_init_7 {l : Launch} {E : XE} {w : XW} {z : Nat} {Z : XS} {a0 : Nat} (h_a0 : KK Z a0 7) {x1 x2 : Int32} {X : XD} : Ct l E w yX4_init (wsM yX4_init cX4_init 3 none) (rmX 1 0 0) 0 0 [.ref (w.1 a0), .int x1, .int x2] z z Z Z X (wI (wI X a0 0 x1) a0 1 x2) none := by
  refine ct_of (by decide) (Nat.le_of_ble_eq_true rfl) ?_
  intro p e s m args below meth c hC hr hin hav
  refine ww_lv (lv' := [(0, .ref (w.1 a0)), (1, .int x1), (2, .int x2)]) rfl ?_
  refine ww_aload_n (pc := 0) hC dX4_init_0 0 rfl ?_
  refine ww_objInit (pc := 1) hC ql_X4_3 qi_java_lang_Object__init_ qc_java_lang_Object__init_ dX4_init_1 ⟨Nat.le_of_ble_eq_true rfl, Nat.le_of_ble_eq_true rfl⟩ (Nat.le_of_ble_eq_true rfl) ?_
  refine ww_aload_n (pc := 4) hC dX4_init_4 0 rfl ?_
  refine ww_iload_n (pc := 5) hC dX4_init_5 1 rfl ?_
  refine ww_putF (pc := 6) hC 7 0 h_a0 RX4 (by decide) (by decide) rfl qf_X4_9 rfl hin rfl rfl rfl rfl dX4_init_6 ?_
  refine ww_aload_n (pc := 9) hC dX4_init_9 0 rfl ?_
  refine ww_iload_n (pc := 10) hC dX4_init_10 2 rfl ?_
  refine ww_putF (pc := 11) hC 7 1 h_a0 RX4 (by decide) (by decide) rfl qf_X4_15 rfl hin rfl rfl rfl rfl dX4_init_11 ?_
  exact ww_vret (pc := 14) hC hr (u := ()) (r := ()) rfl dX4_init_14
set_option maxHeartbeats 40000000 in
set_option maxRecDepth 100000 in
theorem ceX10_init_7 {l : Launch} {E : XE} {w : XW} {z : Nat} {Z : XS} {a0 : Nat} (h_a0 : KK Z a0 7) {x1 x2 : Int32} {X : XD} : Ct l E w yX10_init (wsM yX10_init cX10_init 3 none) (rmX 2 0 0) 0 0 [.ref (w.1 a0), .int x1, .int x2] z z Z Z X (wI (wI X a0 0 x1) a0 1 x2) none := by
  refine ct_of (by decide) (Nat.le_of_ble_eq_true rfl) ?_
  intro p e s m args below meth c hC hr hin hav
  refine ww_lv (lv' := [(0, .ref (w.1 a0)), (1, .int x1), (2, .int x2)]) rfl ?_
  refine ww_aload_n (pc := 0) hC dX10_init_0 0 rfl ?_
  refine ww_iload_n (pc := 1) hC dX10_init_1 1 rfl ?_
  refine ww_iload_n (pc := 2) hC dX10_init_2 2 rfl ?_
  refine ww_callI0 (pc := 3) hC [.int x1, .int x2] (X' := (wI (wI X a0 0 x1) a0 1 x2)) (ceX4_init_7 h_a0) ql_X10_1 qi_X4_init qn_X4 qc_X4_init rfl ⟨by decide, by decide, rfl⟩ rfl ⟨Nat.le_of_ble_eq_true rfl, Nat.le_of_ble_eq_true rfl⟩ (by decide) (rest := []) (Nat.le_of_ble_eq_true rfl) dX10_init_3 ⟨Nat.le_of_ble_eq_true rfl, Nat.le_of_ble_eq_true rfl⟩ rfl ?_
  exact ww_vret (pc := 6) hC hr (u := ()) (r := ()) rfl dX10_init_6
set_option maxHeartbeats 40000000 in
set_option maxRecDepth 100000 in
theorem ceX7_init_7 {l : Launch} {E : XE} {w : XW} {z : Nat} {Z : XS} {a0 : Nat} (h_a0 : KK Z a0 7) {x1 x2 : Int32} {X : XD} : Ct l E w yX7_init (wsM yX7_init cX7_init 3 none) (rmX 3 0 0) 0 0 [.ref (w.1 a0), .int x1, .int x2] z z Z Z X (wI (wI X a0 0 x1) a0 1 x2) none := by
  refine ct_of (by decide) (Nat.le_of_ble_eq_true rfl) ?_
  intro p e s m args below meth c hC hr hin hav
  refine ww_lv (lv' := [(0, .ref (w.1 a0)), (1, .int x1), (2, .int x2)]) rfl ?_
  refine ww_aload_n (pc := 0) hC dX7_init_0 0 rfl ?_
  refine ww_iload_n (pc := 1) hC dX7_init_1 1 rfl ?_
  refine ww_iload_n (pc := 2) hC dX7_init_2 2 rfl ?_
  refine ww_callI0 (pc := 3) hC [.int x1, .int x2] (X' := (wI (wI X a0 0 x1) a0 1 x2)) (ceX10_init_7 h_a0) ql_X7_3 qi_X10_init qn_X10 qc_X10_init rfl ⟨by decide, by decide, rfl⟩ rfl ⟨Nat.le_of_ble_eq_true rfl, Nat.le_of_ble_eq_true rfl⟩ (by decide) (rest := []) (Nat.le_of_ble_eq_true rfl) dX7_init_3 ⟨Nat.le_of_ble_eq_true rfl, Nat.le_of_ble_eq_true rfl⟩ rfl ?_
  exact ww_vret (pc := 6) hC hr (u := ()) (r := ()) rfl dX7_init_6
def nk (k : Int32) : Nat := if k = 1 then 8 else if k = 2 then 5 else if k = 3 then 10 else if k = 4 then 0 else if k = 5 then 2 else if k = 6 then 7 else 4
def nSX (Z : XS) (X : XD) (n v : Int32) : XD := wI (wI (zX X (sn Z)) (sn Z) 0 n) (sn Z) 1 v
set_option maxHeartbeats 40000000 in
set_option maxRecDepth 100000 in
theorem ceX11_newShooter {l : Launch} {E : XE} {w : XW} {Z : XS} (hT : CT w Z) {x0 x1 x2 : Int32} {X : XD} : Ct l E w yX11_newShooter (wsM yX11_newShooter cX11_newShooter 3 (some (.object "FootKeeper$Shooter"))) (rmX 4 1 2) 1 2 [.int x0, .int x1, .int x2] (w.1 (sn Z)) (w.1 (sn (newO (sn Z) Z (nk x0)))) Z (newO (sn Z) Z (nk x0)) X (nSX Z X x1 x2) (some (.ref (w.1 (sn Z)))) := by
  refine ct_of (by decide) (Nat.le_of_ble_eq_true rfl) ?_
  intro p e s m args below meth c hC hr hin hav
  refine ww_lv (lv' := [(0, .int x0), (1, .int x1), (2, .int x2)]) rfl ?_
  refine ww_iload_n (pc := 0) hC dX11_newShooter_0 0 rfl ?_
  rcases Classical.em (x0 = (1 : Int32)) with q1 | q1
  · have e : nk x0 = 8 := by rw [q1]; decide
    refine ww_tableIn (pc := 1) hC 40 dX11_newShooter_1 (1 : Int32) q1 (by decide) (by decide) rfl (by decide) ?_
    rw [e]
    refine ww_new (pc := 40) hC 8 (by decide) hT (n := sn Z) rfl rfl (Z' := newO (sn Z) Z 8) rfl (X' := zX X (sn Z)) rfl qk_X11_293 qa_X8 qn_X8 dX11_newShooter_40 (Nat.le_of_ble_eq_true rfl) (Nat.le_of_ble_eq_true rfl) ?_
    refine ww_dup (pc := 43) hC dX11_newShooter_43 rfl ?_
    refine ww_iload_n (pc := 44) hC dX11_newShooter_44 1 rfl ?_
    refine ww_iload_n (pc := 45) hC dX11_newShooter_45 2 rfl ?_
    refine ww_callI0 (pc := 46) hC [.int x1, .int x2] (X' := nSX Z X x1 x2) (ceX8_init_8 KK.new) ql_X11_295 qi_X8_init qn_X8 qc_X8_init rfl ⟨by decide, by decide, rfl⟩ rfl ⟨Nat.le_of_ble_eq_true rfl, Nat.le_of_ble_eq_true rfl⟩ (by decide) (rest := [.ref (w.1 (sn Z))]) (Nat.le_of_ble_eq_true rfl) dX11_newShooter_46 ⟨Nat.le_of_ble_eq_true rfl, Nat.le_of_ble_eq_true rfl⟩ rfl ?_
    refine ww_widen (k := 1) (n := 2) (by omega) (by decide) ?_
    exact ww_aret (pc := 49) hC hr (Or.inl ⟨_, rfl⟩) (Or.inr ⟨_, rfl⟩) rfl rfl dX11_newShooter_49
  rcases Classical.em (x0 = (2 : Int32)) with q2 | q2
  · have e : nk x0 = 5 := by rw [q2]; decide
    refine ww_tableIn (pc := 1) hC 50 dX11_newShooter_1 (2 : Int32) q2 (by decide) (by decide) rfl (by decide) ?_
    rw [e]
    refine ww_new (pc := 50) hC 5 (by decide) hT (n := sn Z) rfl rfl (Z' := newO (sn Z) Z 5) rfl (X' := zX X (sn Z)) rfl qk_X11_297 qa_X5 qn_X5 dX11_newShooter_50 (Nat.le_of_ble_eq_true rfl) (Nat.le_of_ble_eq_true rfl) ?_
    refine ww_dup (pc := 53) hC dX11_newShooter_53 rfl ?_
    refine ww_iload_n (pc := 54) hC dX11_newShooter_54 1 rfl ?_
    refine ww_iload_n (pc := 55) hC dX11_newShooter_55 2 rfl ?_
    refine ww_callI0 (pc := 56) hC [.int x1, .int x2] (X' := nSX Z X x1 x2) (ceX5_init_5 KK.new) ql_X11_299 qi_X5_init qn_X5 qc_X5_init rfl ⟨by decide, by decide, rfl⟩ rfl ⟨Nat.le_of_ble_eq_true rfl, Nat.le_of_ble_eq_true rfl⟩ (by decide) (rest := [.ref (w.1 (sn Z))]) (Nat.le_of_ble_eq_true rfl) dX11_newShooter_56 ⟨Nat.le_of_ble_eq_true rfl, Nat.le_of_ble_eq_true rfl⟩ rfl ?_
    refine ww_widen (k := 1) (n := 2) (by omega) (by decide) ?_
    exact ww_aret (pc := 59) hC hr (Or.inl ⟨_, rfl⟩) (Or.inr ⟨_, rfl⟩) rfl rfl dX11_newShooter_59
  rcases Classical.em (x0 = (3 : Int32)) with q3 | q3
  · have e : nk x0 = 10 := by rw [q3]; decide
    refine ww_tableIn (pc := 1) hC 60 dX11_newShooter_1 (3 : Int32) q3 (by decide) (by decide) rfl (by decide) ?_
    rw [e]
    refine ww_new (pc := 60) hC 10 (by decide) hT (n := sn Z) rfl rfl (Z' := newO (sn Z) Z 10) rfl (X' := zX X (sn Z)) rfl qk_X11_300 qa_X10 qn_X10 dX11_newShooter_60 (Nat.le_of_ble_eq_true rfl) (Nat.le_of_ble_eq_true rfl) ?_
    refine ww_dup (pc := 63) hC dX11_newShooter_63 rfl ?_
    refine ww_iload_n (pc := 64) hC dX11_newShooter_64 1 rfl ?_
    refine ww_iload_n (pc := 65) hC dX11_newShooter_65 2 rfl ?_
    refine ww_callI0 (pc := 66) hC [.int x1, .int x2] (X' := nSX Z X x1 x2) (ceX10_init_10 KK.new) ql_X11_302 qi_X10_init qn_X10 qc_X10_init rfl ⟨by decide, by decide, rfl⟩ rfl ⟨Nat.le_of_ble_eq_true rfl, Nat.le_of_ble_eq_true rfl⟩ (by decide) (rest := [.ref (w.1 (sn Z))]) (Nat.le_of_ble_eq_true rfl) dX11_newShooter_66 ⟨Nat.le_of_ble_eq_true rfl, Nat.le_of_ble_eq_true rfl⟩ rfl ?_
    refine ww_widen (k := 1) (n := 2) (by omega) (by decide) ?_
    exact ww_aret (pc := 69) hC hr (Or.inl ⟨_, rfl⟩) (Or.inr ⟨_, rfl⟩) rfl rfl dX11_newShooter_69
  rcases Classical.em (x0 = (4 : Int32)) with q4 | q4
  · have e : nk x0 = 0 := by rw [q4]; decide
    refine ww_tableIn (pc := 1) hC 70 dX11_newShooter_1 (4 : Int32) q4 (by decide) (by decide) rfl (by decide) ?_
    rw [e]
    refine ww_new (pc := 70) hC 0 (by decide) hT (n := sn Z) rfl rfl (Z' := newO (sn Z) Z 0) rfl (X' := zX X (sn Z)) rfl qk_X11_303 qa_X0 qn_X0 dX11_newShooter_70 (Nat.le_of_ble_eq_true rfl) (Nat.le_of_ble_eq_true rfl) ?_
    refine ww_dup (pc := 73) hC dX11_newShooter_73 rfl ?_
    refine ww_iload_n (pc := 74) hC dX11_newShooter_74 1 rfl ?_
    refine ww_iload_n (pc := 75) hC dX11_newShooter_75 2 rfl ?_
    refine ww_callI0 (pc := 76) hC [.int x1, .int x2] (X' := nSX Z X x1 x2) (ceX0_init_0 KK.new) ql_X11_305 qi_X0_init qn_X0 qc_X0_init rfl ⟨by decide, by decide, rfl⟩ rfl ⟨Nat.le_of_ble_eq_true rfl, Nat.le_of_ble_eq_true rfl⟩ (by decide) (rest := [.ref (w.1 (sn Z))]) (Nat.le_of_ble_eq_true rfl) dX11_newShooter_76 ⟨Nat.le_of_ble_eq_true rfl, Nat.le_of_ble_eq_true rfl⟩ rfl ?_
    refine ww_widen (k := 1) (n := 2) (by omega) (by decide) ?_
    exact ww_aret (pc := 79) hC hr (Or.inl ⟨_, rfl⟩) (Or.inr ⟨_, rfl⟩) rfl rfl dX11_newShooter_79
  rcases Classical.em (x0 = (5 : Int32)) with q5 | q5
  · have e : nk x0 = 2 := by rw [q5]; decide
    refine ww_tableIn (pc := 1) hC 80 dX11_newShooter_1 (5 : Int32) q5 (by decide) (by decide) rfl (by decide) ?_
    rw [e]
    refine ww_new (pc := 80) hC 2 (by decide) hT (n := sn Z) rfl rfl (Z' := newO (sn Z) Z 2) rfl (X' := zX X (sn Z)) rfl qk_X11_306 qa_X2 qn_X2 dX11_newShooter_80 (Nat.le_of_ble_eq_true rfl) (Nat.le_of_ble_eq_true rfl) ?_
    refine ww_dup (pc := 83) hC dX11_newShooter_83 rfl ?_
    refine ww_iload_n (pc := 84) hC dX11_newShooter_84 1 rfl ?_
    refine ww_iload_n (pc := 85) hC dX11_newShooter_85 2 rfl ?_
    refine ww_callI0 (pc := 86) hC [.int x1, .int x2] (X' := nSX Z X x1 x2) (ceX2_init_2 KK.new) ql_X11_308 qi_X2_init qn_X2 qc_X2_init rfl ⟨by decide, by decide, rfl⟩ rfl ⟨Nat.le_of_ble_eq_true rfl, Nat.le_of_ble_eq_true rfl⟩ (by decide) (rest := [.ref (w.1 (sn Z))]) (Nat.le_of_ble_eq_true rfl) dX11_newShooter_86 ⟨Nat.le_of_ble_eq_true rfl, Nat.le_of_ble_eq_true rfl⟩ rfl ?_
    refine ww_widen (k := 1) (n := 2) (by omega) (by decide) ?_
    exact ww_aret (pc := 89) hC hr (Or.inl ⟨_, rfl⟩) (Or.inr ⟨_, rfl⟩) rfl rfl dX11_newShooter_89
  rcases Classical.em (x0 = (6 : Int32)) with q6 | q6
  · have e : nk x0 = 7 := by rw [q6]; decide
    refine ww_tableIn (pc := 1) hC 90 dX11_newShooter_1 (6 : Int32) q6 (by decide) (by decide) rfl (by decide) ?_
    rw [e]
    refine ww_new (pc := 90) hC 7 (by decide) hT (n := sn Z) rfl rfl (Z' := newO (sn Z) Z 7) rfl (X' := zX X (sn Z)) rfl qk_X11_132 qa_X7 qn_X7 dX11_newShooter_90 (Nat.le_of_ble_eq_true rfl) (Nat.le_of_ble_eq_true rfl) ?_
    refine ww_dup (pc := 93) hC dX11_newShooter_93 rfl ?_
    refine ww_iload_n (pc := 94) hC dX11_newShooter_94 1 rfl ?_
    refine ww_iload_n (pc := 95) hC dX11_newShooter_95 2 rfl ?_
    refine ww_callI0 (pc := 96) hC [.int x1, .int x2] (X' := nSX Z X x1 x2) (ceX7_init_7 KK.new) ql_X11_309 qi_X7_init qn_X7 qc_X7_init rfl ⟨by decide, by decide, rfl⟩ rfl ⟨Nat.le_of_ble_eq_true rfl, Nat.le_of_ble_eq_true rfl⟩ (by decide) (rest := [.ref (w.1 (sn Z))]) (Nat.le_of_ble_eq_true rfl) dX11_newShooter_96 ⟨Nat.le_of_ble_eq_true rfl, Nat.le_of_ble_eq_true rfl⟩ rfl ?_
    refine ww_widen (k := 1) (n := 2) (by omega) (by decide) ?_
    exact ww_aret (pc := 99) hC hr (Or.inl ⟨_, rfl⟩) (Or.inr ⟨_, rfl⟩) rfl rfl dX11_newShooter_99
  have e : nk x0 = 4 := by unfold nk; simp only [q1, q2, q3, q4, q5, q6, if_false]
  refine ww_tableOut (pc := 1) hC 100 dX11_newShooter_1 (sw_out (fun k h1 h2 => by rcases (show k = 1 ∨ k = 2 ∨ k = 3 ∨ k = 4 ∨ k = 5 ∨ k = 6 by omega) with rfl | rfl | rfl | rfl | rfl | rfl <;> assumption)) (by decide) ?_
  rw [e]
  refine ww_new (pc := 100) hC 4 (by decide) hT (n := sn Z) rfl rfl (Z' := newO (sn Z) Z 4) rfl (X' := zX X (sn Z)) rfl qk_X11_11 qa_X4 qn_X4 dX11_newShooter_100 (Nat.le_of_ble_eq_true rfl) (Nat.le_of_ble_eq_true rfl) ?_
  refine ww_dup (pc := 103) hC dX11_newShooter_103 rfl ?_
  refine ww_iload_n (pc := 104) hC dX11_newShooter_104 1 rfl ?_
  refine ww_iload_n (pc := 105) hC dX11_newShooter_105 2 rfl ?_
  refine ww_callI0 (pc := 106) hC [.int x1, .int x2] (X' := nSX Z X x1 x2) (ceX4_init_4 KK.new) ql_X11_310 qi_X4_init qn_X4 qc_X4_init rfl ⟨by decide, by decide, rfl⟩ rfl ⟨Nat.le_of_ble_eq_true rfl, Nat.le_of_ble_eq_true rfl⟩ (by decide) (rest := [.ref (w.1 (sn Z))]) (Nat.le_of_ble_eq_true rfl) dX11_newShooter_106 ⟨Nat.le_of_ble_eq_true rfl, Nat.le_of_ble_eq_true rfl⟩ rfl ?_
  refine ww_widen (k := 1) (n := 2) (by omega) (by decide) ?_
  exact ww_aret (pc := 109) hC hr (Or.inl ⟨_, rfl⟩) (Or.inr ⟨_, rfl⟩) rfl rfl dX11_newShooter_109
def gShoot (Z : XS) (k v : Int32) (X : XD) : Option (Int32 × XS × XD) := if k < 0 then some (-1, Z, X) else if k < 7 then (if v < 0 then some (-2, Z, X) else if v ≤ 9 then (if X.1 47 0 < 0 then some (-4, Z, X) else if X.1 47 0 < 6 then gin (X.1 47 0) 6 (some (X.1 47 0, stR (newO (sn Z) Z (nk k)) 1 (X.1 47 0).toNatClampNeg (sn Z), wI (nSX Z X (X.1 47 0) v) 47 0 (X.1 47 0 + 1))) else some (-4, Z, X)) else some (-2, Z, X)) else some (-1, Z, X)
theorem nk_lt (k : Int32) : nk k < 13 := by unfold nk; repeat' split
                                            all_goals decide
theorem nk_cast {E : XE} {s : State} {H : Heap} (h : ES E s H) (k : Int32) : XR (nk k) = "FootKeeper$Shooter" ∨ va_Nw (.castable (XR (nk k)) "FootKeeper$Shooter") s := by
  have h2 := h.2.2.2.2.1
  unfold nk
  repeat' split
  · have h3 := h2 8 4 (by unfold isSh; decide) (by unfold isSh; decide) (by decide)
    rw [if_pos (by decide)] at h3
    exact Or.inr h3
  · have h3 := h2 5 4 (by unfold isSh; decide) (by unfold isSh; decide) (by decide)
    rw [if_pos (by decide)] at h3
    exact Or.inr h3
  · have h3 := h2 10 4 (by unfold isSh; decide) (by unfold isSh; decide) (by decide)
    rw [if_pos (by decide)] at h3
    exact Or.inr h3
  · have h3 := h2 0 4 (by unfold isSh; decide) (by unfold isSh; decide) (by decide)
    rw [if_pos (by decide)] at h3
    exact Or.inr h3
  · have h3 := h2 2 4 (by unfold isSh; decide) (by unfold isSh; decide) (by decide)
    rw [if_pos (by decide)] at h3
    exact Or.inr h3
  · have h3 := h2 7 4 (by unfold isSh; decide) (by unfold isSh; decide) (by decide)
    rw [if_pos (by decide)] at h3
    exact Or.inr h3
  · exact Or.inl rfl
set_option maxHeartbeats 40000000 in
set_option maxRecDepth 100000 in
theorem ceX11_shooter {l : Launch} {E : XE} {w : XW} {Z Z1 : XS} (hT : CT w Z) (hL : LayC Z) {x1 x2 r : Int32} {X X1 : XD} (h : gShoot Z x1 x2 X = some (r, Z1, X1)) : Ct l E w yX11_shooter (wsM yX11_shooter cX11_shooter 4 (some .int)) (rmX 5 1 2) 1 2 [.ref (w.1 0), .int x1, .int x2] (w.1 (sn Z)) (w.1 (sn Z1)) Z Z1 X X1 (some (.int r)) := by
  refine ct_of (by decide) (Nat.le_of_ble_eq_true rfl) ?_
  intro p e s m args below meth c hC hr hin hav
  unfold gShoot at h
  refine ww_lv (lv' := [(0, .ref (w.1 0)), (1, .int x1), (2, .int x2)]) rfl ?_
  refine ww_iload_n (pc := 0) hC dX11_shooter_0 1 rfl ?_
  refine ww_if_lt (pc := 1) hC h 10 dX11_shooter_1 (by decide) (fun h => ?_) (fun h => ?_)
  · refine ww_iconst (pc := 10) hC (v := (-1 : Int32)) dX11_shooter_10 (by decide) ?_
    refine ww_widen (k := 1) (n := 2) (by omega) (by omega) ?_
    cases h
    exact ww_iret (pc := 11) hC hr rfl dX11_shooter_11
  refine ww_iload_n (pc := 4) hC dX11_shooter_4 1 rfl ?_
  refine ww_bipush (pc := 5) hC (v := (7 : Int32)) dX11_shooter_5 (by decide) ?_
  refine ww_icmp_lt (pc := 7) hC h 12 dX11_shooter_7 (by decide) (fun h => ?_) (fun h => ?_)
  rotate_left
  · refine ww_iconst (pc := 10) hC (v := (-1 : Int32)) dX11_shooter_10 (by decide) ?_
    refine ww_widen (k := 1) (n := 2) (by omega) (by omega) ?_
    cases h
    exact ww_iret (pc := 11) hC hr rfl dX11_shooter_11
  refine ww_iload_n (pc := 12) hC dX11_shooter_12 2 rfl ?_
  refine ww_if_lt (pc := 13) hC h 22 dX11_shooter_13 (by decide) (fun h => ?_) (fun h => ?_)
  · refine ww_bipush (pc := 22) hC (v := (-2 : Int32)) dX11_shooter_22 (by decide) ?_
    refine ww_widen (k := 1) (n := 2) (by omega) (by omega) ?_
    cases h
    exact ww_iret (pc := 24) hC hr rfl dX11_shooter_24
  refine ww_iload_n (pc := 16) hC dX11_shooter_16 2 rfl ?_
  refine ww_bipush (pc := 17) hC (v := (9 : Int32)) dX11_shooter_17 (by decide) ?_
  refine ww_icmp_le (pc := 19) hC h 25 dX11_shooter_19 (by decide) (fun h => ?_) (fun h => ?_)
  rotate_left
  · refine ww_bipush (pc := 22) hC (v := (-2 : Int32)) dX11_shooter_22 (by decide) ?_
    refine ww_widen (k := 1) (n := 2) (by omega) (by omega) ?_
    cases h
    exact ww_iret (pc := 24) hC hr rfl dX11_shooter_24
  refine ww_aload_n (pc := 25) hC dX11_shooter_25 0 rfl ?_
  refine ww_getR (pc := 26) hC 11 4 47 hL.1 RX11 (by decide) (by decide) rfl (lay_11_4 hL).1 qf_X11_36 rfl dX11_shooter_26 ?_
  refine ww_getI (pc := 29) hC 6 0 ((lay_11_4 hL).2) RX6 (by decide) (by decide) rfl qf_X11_88 (Or.inl rfl) dX11_shooter_29 ?_
  refine ww_istore_n (pc := 32) hC [(3, .int (X.1 47 0)), (0, .ref (w.1 0)), (1, .int x1), (2, .int x2)] dX11_shooter_32 rfl (by decide) rfl ?_
  refine ww_iload_n (pc := 33) hC dX11_shooter_33 0 rfl ?_
  refine ww_if_lt (pc := 34) hC h 46 dX11_shooter_34 (by decide) (fun h => ?_) (fun h => ?_)
  · refine ww_bipush (pc := 46) hC (v := (-4 : Int32)) dX11_shooter_46 (by decide) ?_
    refine ww_widen (k := 1) (n := 2) (by omega) (by omega) ?_
    cases h
    exact ww_iret (pc := 48) hC hr rfl dX11_shooter_48
  refine ww_iload_n (pc := 37) hC dX11_shooter_37 0 rfl ?_
  refine ww_aload_n (pc := 38) hC dX11_shooter_38 1 rfl ?_
  refine ww_getR (pc := 39) hC 11 0 1 hL.1 RX11 (by decide) (by decide) rfl (lay_11_0 hL).1 qf_X11_13 rfl dX11_shooter_39 ?_
  refine ww_alen (pc := 42) hC (6 : Int32) (lay_11_0 hL).2 (by decide) (by decide) (by decide) dX11_shooter_42 ?_
  refine ww_icmp_lt (pc := 43) hC h 49 dX11_shooter_43 (by decide) (fun h => ?_) (fun h => ?_)
  rotate_left
  · refine ww_bipush (pc := 46) hC (v := (-4 : Int32)) dX11_shooter_46 (by decide) ?_
    refine ww_widen (k := 1) (n := 2) (by omega) (by omega) ?_
    cases h
    exact ww_iret (pc := 48) hC hr rfl dX11_shooter_48
  obtain ⟨hv, h⟩ := gin_i h
  cases h
  refine ww_aload_n (pc := 49) hC dX11_shooter_49 1 rfl ?_
  refine ww_getR (pc := 50) hC 11 0 1 hL.1 RX11 (by decide) (by decide) rfl (lay_11_0 hL).1 qf_X11_13 rfl dX11_shooter_50 ?_
  refine ww_iload_n (pc := 53) hC dX11_shooter_53 0 rfl ?_
  refine ww_iload_n (pc := 54) hC dX11_shooter_54 2 rfl ?_
  refine ww_iload_n (pc := 55) hC dX11_shooter_55 0 rfl ?_
  refine ww_iload_n (pc := 56) hC dX11_shooter_56 3 rfl ?_
  refine ww_callS (pc := 57) hC [.int x1, .int (X.1 47 0), .int x2] (mc := 1) (ms := 2) (Z' := newO (sn Z) Z (nk x1)) (X' := nSX Z X (X.1 47 0) x2) (rv := some (.ref (w.1 (sn Z)))) (ceX11_newShooter hT) ql_X11_91 qt_X11_newShooter qn_X11 qc_X11_newShooter ⟨by decide, by decide, rfl⟩ rfl ⟨Nat.le_of_ble_eq_true rfl, Nat.le_of_ble_eq_true rfl⟩ (by decide) (rest := [.int (X.1 47 0), .ref (w.1 1)]) (Nat.le_of_ble_eq_true rfl) dX11_shooter_57 ⟨Nat.le_of_ble_eq_true rfl, Nat.le_of_ble_eq_true rfl⟩ rfl ?_
  have hA := KA.o (d := nk x1) (lay_11_0 hL).2
  refine ww_aast (pc := 60) hC (a := 1) (t := sn Z) 17 (nk x1) hA (by decide) (by decide) rfl KK.new (nk_lt x1) (nk_cast hC.2.2.2.2.2.2.2.2 x1) hv (Z' := stR (newO (sn Z) Z (nk x1)) 1 (X.1 47 0).toNatClampNeg (sn Z)) rfl dX11_shooter_60 ?_
  refine ww_aload_n (pc := 61) hC dX11_shooter_61 1 rfl ?_
  have e1 : sR (stR (newO (sn Z) Z (nk x1)) 1 (X.1 47 0).toNatClampNeg (sn Z)) 0 4 = some 47 := by
    show (if 0 = 1 ∧ 4 = (X.1 47 0).toNatClampNeg then some (sn Z) else (if 0 = sn Z then fun _ => none else sR Z 0) 4) = some 47
    rw [if_neg (fun q => absurd q.1 (by decide)), if_neg (Nat.ne_of_lt hL.1.1)]
    exact (lay_11_4 hL).1
  have k0 : KK (stR (newO (sn Z) Z (nk x1)) 1 (X.1 47 0).toNatClampNeg (sn Z)) 0 11 := KK.o hL.1
  have k47 : KK (stR (newO (sn Z) Z (nk x1)) 1 (X.1 47 0).toNatClampNeg (sn Z)) 47 6 := KK.o (lay_11_4 hL).2
  refine ww_getR (pc := 62) hC 11 4 47 k0 RX11 (by decide) (by decide) rfl e1 qf_X11_36 rfl dX11_shooter_62 ?_
  refine ww_iload_n (pc := 65) hC dX11_shooter_65 0 rfl ?_
  refine ww_iconst (pc := 66) hC (v := (1 : Int32)) dX11_shooter_66 (by decide) ?_
  refine ww_iadd (pc := 67) hC dX11_shooter_67 ?_
  refine ww_putI (pc := 68) hC 6 0 k47 RX6 (by decide) (by decide) rfl qf_X11_88 rfl rfl rfl rfl dX11_shooter_68 ?_
  refine ww_iload_n (pc := 71) hC dX11_shooter_71 0 rfl ?_
  exact ww_iret (pc := 72) hC hr rfl dX11_shooter_72
