noncomputable def fX9_sureOf (Z : XS) (a0 : Nat) (x1 : Int32) (X : XD) : Option Int32 := if x1 < 0 then some ((0 : Int32)) else if ((3 : Int32)) ≤ x1 then some ((0 : Int32)) else gin x1 3 (some (X.1 (a0 + 1) (x1).toNatClampNeg))
set_option maxHeartbeats 40000000 in
set_option maxRecDepth 100000 in
theorem ceX9_sureOf {l : Launch} {E : XE} {w : XW} {z : Nat} {Z : XS}  (hL : LayC Z) {a0 : Nat} (h_a0 : KK Z a0 9) {x1 : Int32} {X : XD} {r : Int32} (h : fX9_sureOf Z a0 x1 X = some r) : Ct l E w yX9_sureOf (wsM yX9_sureOf cX9_sureOf 2 (some .int)) (rmX 1 0 0) 0 0 [.ref (w.1 a0), .int x1] z z Z Z X X (some (.int r)) := by
  refine ct_of (by decide) (Nat.le_of_ble_eq_true rfl) ?_
  intro p e s m args below meth c hC hr hin hav
  unfold fX9_sureOf at h
  refine ww_lv (lv' := [(0, .ref (w.1 a0)), (1, .int x1)]) rfl ?_
  refine ww_iload_n (pc := 0) hC dX9_sureOf_0 1 rfl ?_
  refine ww_if_lt (pc := 1) hC h 22 dX9_sureOf_1 (by decide) (fun h => ?_) (fun h => ?_)
  · refine ww_iconst (pc := 22) hC (v := (0 : Int32)) dX9_sureOf_22 (by decide) ?_
    exact ww_iret (pc := 23) hC hr (ret_r h) dX9_sureOf_23
  · refine ww_iload_n (pc := 4) hC dX9_sureOf_4 1 rfl ?_
    refine ww_aload_n (pc := 5) hC dX9_sureOf_5 0 rfl ?_
    refine ww_getR (pc := 6) hC 9 0 (a0 + 1) h_a0 RX9 (by decide) (by decide) rfl (lay_9_0 hL h_a0).1 qf_X9_9 rfl dX9_sureOf_6 ?_
    refine ww_alen (pc := 9) hC ((3 : Int32)) ((lay_9_0 hL h_a0).2) (by decide) (by decide) rfl dX9_sureOf_9 ?_
    refine ww_icmp_ge (pc := 10) hC h 22 dX9_sureOf_10 (by decide) (fun h => ?_) (fun h => ?_)
    · refine ww_iconst (pc := 22) hC (v := (0 : Int32)) dX9_sureOf_22 (by decide) ?_
      exact ww_iret (pc := 23) hC hr (ret_r h) dX9_sureOf_23
    · refine ww_aload_n (pc := 13) hC dX9_sureOf_13 0 rfl ?_
      refine ww_getR (pc := 14) hC 9 0 (a0 + 1) h_a0 RX9 (by decide) (by decide) rfl (lay_9_0 hL h_a0).1 qf_X9_9 rfl dX9_sureOf_14 ?_
      refine ww_iload_n (pc := 17) hC dX9_sureOf_17 1 rfl ?_
      refine ww_iald (pc := 18) hC ((lay_9_0 hL h_a0).2) h dX9_sureOf_18 (fun h => ?_)
      refine ww_goto (pc := 19) hC 23 dX9_sureOf_19 (by decide) ?_
      exact ww_iret (pc := 23) hC hr (ret_r h) dX9_sureOf_23
noncomputable def fX9_sideAway_45 (Z : XS) (a0 : Nat) (k17 : Int32 → Int32 → XD → Option Int32) (x1 : Int32) (x2 : Int32) (X : XD) : Option Int32 := nm (x2 + (1 : Int32)) (fun y6 => k17 x1 y6 X)
noncomputable def fX9_sideAway_17 (Z : XS) (a0 : Nat) (n : Nat) : Int32 → Int32 → XD → Option Int32 := Nat.rec (motive := fun _ => Int32 → Int32 → XD → Option Int32) (fun _ _ _ => none) (fun _ f => fun x1 x2 X => if ((3 : Int32)) ≤ x2 then some x1 else if x2 = (X.1 a0 2) then fX9_sideAway_45 Z a0 (f) x1 x2 X else bnd (fX9_sureOf Z a0 x2 X) (fun r3 => bnd (fX9_sureOf Z a0 x1 X) (fun r5 => if r3 ≤ r5 then fX9_sideAway_45 Z a0 (f) x1 x2 X else fX9_sideAway_45 Z a0 (f) x2 x2 X))) n
theorem fX9_sideAway_17_s (Z : XS) (a0 : Nat) (n : Nat) (x1 : Int32) (x2 : Int32) (X : XD) : fX9_sideAway_17 Z a0 (n + 1) x1 x2 X = if ((3 : Int32)) ≤ x2 then some x1 else if x2 = (X.1 a0 2) then fX9_sideAway_45 Z a0 ((fX9_sideAway_17 Z a0 n)) x1 x2 X else bnd (fX9_sureOf Z a0 x2 X) (fun r3 => bnd (fX9_sureOf Z a0 x1 X) (fun r5 => if r3 ≤ r5 then fX9_sideAway_45 Z a0 ((fX9_sideAway_17 Z a0 n)) x1 x2 X else fX9_sideAway_45 Z a0 ((fX9_sideAway_17 Z a0 n)) x2 x2 X)) := rfl
noncomputable def fX9_sideAway_12 (Z : XS) (a0 : Nat) (s0 : Int32) (X : XD) : Option Int32 := nm (s0 + ((1 : Int32))) (fun y1 => fX9_sideAway_17 Z a0 FU s0 y1 X)
noncomputable def fX9_sideAway (Z : XS) (a0 : Nat) (X : XD) : Option Int32 := if (X.1 a0 2) = 0 then fX9_sideAway_12 Z a0 ((1 : Int32)) X else fX9_sideAway_12 Z a0 ((0 : Int32)) X
set_option maxHeartbeats 40000000 in
set_option maxRecDepth 100000 in
theorem ceX9_sideAway {l : Launch} {E : XE} {w : XW} {z : Nat} {Z : XS}  (hL : LayC Z) {a0 : Nat} (h_a0 : KK Z a0 9) {X : XD} {r : Int32} (h : fX9_sideAway Z a0 X = some r) : Ct l E w yX9_sideAway (wsM yX9_sideAway cX9_sideAway 3 (some .int)) (rmX 2 0 0) 0 0 [.ref (w.1 a0)] z z Z Z X X (some (.int r)) := by
  refine ct_of (by decide) (Nat.le_of_ble_eq_true rfl) ?_
  intro p e s m args below meth c hC hr hin hav
  have j45 : ∀ (k17 : Int32 → Int32 → XD → Option Int32) (hk17 : ∀ (x1 : Int32) (x2 : Int32), k17 x1 x2 X = some r → WW p l e (rmX 2 0 0) s m args below meth c 3 (MQ below (XQ E w z Z X (some (.int r))) args s 0 0 (A0 E)) E w 0 0 z Z 17 [(0, .ref (w.1 a0)), (1, .int x1), (2, .int x2)] [] X), ∀ (x1 : Int32) (x2 : Int32), fX9_sideAway_45 Z a0 k17 x1 x2 X = some r → WW p l e (rmX 2 0 0) s m args below meth c 3 (MQ below (XQ E w z Z X (some (.int r))) args s 0 0 (A0 E)) E w 0 0 z Z 45 [(0, .ref (w.1 a0)), (1, .int x1), (2, .int x2)] [] X := by
    intro k17 hk17 x1 x2 h
    unfold fX9_sideAway_45 at h
    obtain ⟨y6, ey6⟩ : ∃ q, q = x2 + (1 : Int32) := ⟨_, rfl⟩
    replace h := nm_i h ey6
    refine ww_iinc (pc := 45) hC y6 [(2, .int y6), (0, .ref (w.1 a0)), (1, .int x1)] dX9_sideAway_45 2 rfl (by rw [ey6]; rfl) (by decide) rfl ?_
    refine ww_goto (pc := 48) hC 17 dX9_sideAway_48 (by decide) ?_
    refine ww_sub [1, 2, 0] rfl ?_
    exact hk17 _ _ h
  have j17 : ∀ (n : Nat), ∀ (x1 : Int32) (x2 : Int32), fX9_sideAway_17 Z a0 n x1 x2 X = some r → WW p l e (rmX 2 0 0) s m args below meth c 3 (MQ below (XQ E w z Z X (some (.int r))) args s 0 0 (A0 E)) E w 0 0 z Z 17 [(0, .ref (w.1 a0)), (1, .int x1), (2, .int x2)] [] X := by
    intro n
    induction n with
    | zero =>
      intro x1 x2 h
      cases (show none = some r from h)
    | succ n ih =>
      intro x1 x2 h
      rw [fX9_sideAway_17_s] at h
      refine ww_iload_n (pc := 17) hC dX9_sideAway_17 2 rfl ?_
      refine ww_iconst (pc := 18) hC (v := (3 : Int32)) dX9_sideAway_18 (by decide) ?_
      refine ww_icmp_ge (pc := 19) hC h 51 dX9_sideAway_19 (by decide) (fun h => ?_) (fun h => ?_)
      · refine ww_iload_n (pc := 51) hC dX9_sideAway_51 1 rfl ?_
        exact ww_iret (pc := 52) hC hr (ret_r h) dX9_sideAway_52
      · refine ww_iload_n (pc := 22) hC dX9_sideAway_22 2 rfl ?_
        refine ww_aload_n (pc := 23) hC dX9_sideAway_23 0 rfl ?_
        refine ww_getI (pc := 24) hC 9 2 h_a0 RX9 (by decide) (by decide) rfl qf_X9_24 (Or.inl rfl) dX9_sideAway_24 ?_
        refine ww_icmp_eq (pc := 27) hC h 45 dX9_sideAway_27 (by decide) (fun h => ?_) (fun h => ?_)
        · refine ww_sub [0, 1, 2] rfl ?_
          exact j45 _ ih _ _ h
        · refine ww_aload_n (pc := 30) hC dX9_sideAway_30 0 rfl ?_
          refine ww_iload_n (pc := 31) hC dX9_sideAway_31 2 rfl ?_
          obtain ⟨r3, h2, h⟩ := bnd_i h
          refine ww_callVi (pc := 32) hC [.int x2] h_a0.1 h_a0.2 (by decide) (ceX9_sureOf hL h_a0 h2) ql_X9_38 qi_X9_sureOf qs_X9_X9_sureOf qn_X9 qc_X9_sureOf rfl ⟨by decide, by decide, rfl⟩ rfl ⟨Nat.le_of_ble_eq_true rfl, Nat.le_of_ble_eq_true rfl⟩ (by decide) (rest := []) (Nat.le_of_ble_eq_true rfl) dX9_sideAway_32 ⟨Nat.le_of_ble_eq_true rfl, Nat.le_of_ble_eq_true rfl⟩ rfl ?_
          refine ww_aload_n (pc := 35) hC dX9_sideAway_35 0 rfl ?_
          refine ww_iload_n (pc := 36) hC dX9_sideAway_36 1 rfl ?_
          obtain ⟨r5, h4, h⟩ := bnd_i h
          refine ww_callVi (pc := 37) hC [.int x1] h_a0.1 h_a0.2 (by decide) (ceX9_sureOf hL h_a0 h4) ql_X9_38 qi_X9_sureOf qs_X9_X9_sureOf qn_X9 qc_X9_sureOf rfl ⟨by decide, by decide, rfl⟩ rfl ⟨Nat.le_of_ble_eq_true rfl, Nat.le_of_ble_eq_true rfl⟩ (by decide) (rest := [.int r3]) (Nat.le_of_ble_eq_true rfl) dX9_sideAway_37 ⟨Nat.le_of_ble_eq_true rfl, Nat.le_of_ble_eq_true rfl⟩ rfl ?_
          refine ww_icmp_le (pc := 40) hC h 45 dX9_sideAway_40 (by decide) (fun h => ?_) (fun h => ?_)
          · refine ww_sub [0, 1, 2] rfl ?_
            exact j45 _ ih _ _ h
          · refine ww_iload_n (pc := 43) hC dX9_sideAway_43 2 rfl ?_
            refine ww_istore_n (pc := 44) hC [(1, .int x2), (0, .ref (w.1 a0)), (2, .int x2)] dX9_sideAway_44 rfl (by decide) rfl ?_
            refine ww_sub [1, 0, 2] rfl ?_
            exact j45 _ ih _ _ h
  have j12 : ∀ (s0 : Int32), fX9_sideAway_12 Z a0 s0 X = some r → WW p l e (rmX 2 0 0) s m args below meth c 3 (MQ below (XQ E w z Z X (some (.int r))) args s 0 0 (A0 E)) E w 0 0 z Z 12 [(0, .ref (w.1 a0))] [.int s0] X := by
    intro s0 h
    unfold fX9_sideAway_12 at h
    refine ww_istore_n (pc := 12) hC [(1, .int s0), (0, .ref (w.1 a0))] dX9_sideAway_12 rfl (by decide) rfl ?_
    refine ww_iload_n (pc := 13) hC dX9_sideAway_13 0 rfl ?_
    refine ww_iconst (pc := 14) hC (v := (1 : Int32)) dX9_sideAway_14 (by decide) ?_
    refine ww_iadd (pc := 15) hC dX9_sideAway_15 ?_
    obtain ⟨y1, ey1⟩ : ∃ q, q = s0 + ((1 : Int32)) := ⟨_, rfl⟩
    replace h := nm_i h ey1
    refine ww_nmi ey1 ?_
    refine ww_istore_n (pc := 16) hC [(2, .int y1), (1, .int s0), (0, .ref (w.1 a0))] dX9_sideAway_16 rfl (by decide) rfl ?_
    refine ww_sub [2, 1, 0] rfl ?_
    exact j17 _ _ _ h
  unfold fX9_sideAway at h
  refine ww_lv (lv' := [(0, .ref (w.1 a0))]) rfl ?_
  refine ww_aload_n (pc := 0) hC dX9_sideAway_0 0 rfl ?_
  refine ww_getI (pc := 1) hC 9 2 h_a0 RX9 (by decide) (by decide) rfl qf_X9_24 (Or.inl rfl) dX9_sideAway_1 ?_
  refine ww_if_ne (pc := 4) hC h 11 dX9_sideAway_4 (by decide) (fun h => ?_) (fun h => ?_)
  · refine ww_iconst (pc := 11) hC (v := (0 : Int32)) dX9_sideAway_11 (by decide) ?_
    refine ww_sub [0] rfl ?_
    exact j12 _ h
  · refine ww_iconst (pc := 7) hC (v := (1 : Int32)) dX9_sideAway_7 (by decide) ?_
    refine ww_goto (pc := 8) hC 12 dX9_sideAway_8 (by decide) ?_
    refine ww_sub [0] rfl ?_
    exact j12 _ h
noncomputable def fX10_side (Z : XS) (a0 : Nat) (a1 : Nat) (a2 : Nat) (X : XD) : Option Int32 := bnd (fX9_sideAway Z a1 X) (fun r2 => some r2)
set_option maxHeartbeats 40000000 in
set_option maxRecDepth 100000 in
theorem ceX10_side {l : Launch} {E : XE} {w : XW} {z : Nat} {Z : XS}  (hL : LayC Z) {a0 : Nat} (h_a0 : KS Z a0) {a1 : Nat} (h_a1 : KK Z a1 9) {a2 : Nat} (h_a2 : KK Z a2 6) {X : XD} {r : Int32} (h : fX10_side Z a0 a1 a2 X = some r) : Ct l E w yX10_side (wsM yX10_side cX10_side 3 (some .int)) (rmX 3 0 0) 0 0 [.ref (w.1 a0), .ref (w.1 a1), .ref (w.1 a2)] z z Z Z X X (some (.int r)) := by
  refine ct_of (by decide) (Nat.le_of_ble_eq_true rfl) ?_
  intro p e s m args below meth c hC hr hin hav
  unfold fX10_side at h
  refine ww_lv (lv' := [(0, .ref (w.1 a0)), (1, .ref (w.1 a1)), (2, .ref (w.1 a2))]) rfl ?_
  refine ww_aload_n (pc := 0) hC dX10_side_0 1 rfl ?_
  obtain ⟨r2, h1, h⟩ := bnd_i h
  refine ww_callVi (pc := 1) hC [] h_a1.1 h_a1.2 (by decide) (ceX9_sideAway hL h_a1 h1) ql_X10_7 qi_X9_sideAway qs_X9_X9_sideAway qn_X9 qc_X9_sideAway rfl ⟨by decide, by decide, rfl⟩ rfl ⟨Nat.le_of_ble_eq_true rfl, Nat.le_of_ble_eq_true rfl⟩ (by decide) (rest := []) (Nat.le_of_ble_eq_true rfl) dX10_side_1 ⟨Nat.le_of_ble_eq_true rfl, Nat.le_of_ble_eq_true rfl⟩ rfl ?_
  exact ww_iret (pc := 4) hC hr (ret_r h) dX10_side_4
noncomputable def fX7_side (Z : XS) (a0 : Nat) (a1 : Nat) (a2 : Nat) (X : XD) : Option Int32 := if (X.1 a1 2) = ((1 : Int32)) then bnd (fX6_shotsOf Z a2 (X.1 a0 0) X) (fun r2 => bnd (fX6_toldOf Z a2 (X.1 a0 0) (r2 - r2 / ((4 : Int32)) * ((4 : Int32))) X) (fun r4 => some r4)) else bnd (fX10_side Z a0 a1 a2 X) (fun r6 => some r6)
set_option maxHeartbeats 40000000 in
set_option maxRecDepth 100000 in
theorem ceX7_side {l : Launch} {E : XE} {w : XW} {z : Nat} {Z : XS}  (hL : LayC Z) {a0 : Nat} (h_a0 : KS Z a0) {a1 : Nat} (h_a1 : KK Z a1 9) {a2 : Nat} (h_a2 : KK Z a2 6) {X : XD} {r : Int32} (h : fX7_side Z a0 a1 a2 X = some r) : Ct l E w yX7_side (wsM yX7_side cX7_side 3 (some .int)) (rmX 4 0 0) 0 0 [.ref (w.1 a0), .ref (w.1 a1), .ref (w.1 a2)] z z Z Z X X (some (.int r)) := by
  refine ct_of (by decide) (Nat.le_of_ble_eq_true rfl) ?_
  intro p e s m args below meth c hC hr hin hav
  unfold fX7_side at h
  refine ww_lv (lv' := [(0, .ref (w.1 a0)), (1, .ref (w.1 a1)), (2, .ref (w.1 a2))]) rfl ?_
  refine ww_aload_n (pc := 0) hC dX7_side_0 1 rfl ?_
  refine ww_getI (pc := 1) hC 9 2 h_a1 RX9 (by decide) (by decide) rfl qf_X7_9 (Or.inl rfl) dX7_side_1 ?_
  refine ww_iconst (pc := 4) hC (v := (1 : Int32)) dX7_side_4 (by decide) ?_
  refine ww_icmp_eq (pc := 5) hC h 15 dX7_side_5 (by decide) (fun h => ?_) (fun h => ?_)
  · refine ww_aload_n (pc := 15) hC dX7_side_15 2 rfl ?_
    refine ww_aload_n (pc := 16) hC dX7_side_16 0 rfl ?_
    refine ww_getS (pc := 17) hC 0 (by decide) h_a0 RX7 "number" rfl qf_X7_19 (Or.inr qd_X7_number) dX7_side_17 ?_
    refine ww_aload_n (pc := 20) hC dX7_side_20 2 rfl ?_
    refine ww_aload_n (pc := 21) hC dX7_side_21 0 rfl ?_
    refine ww_getS (pc := 22) hC 0 (by decide) h_a0 RX7 "number" rfl qf_X7_19 (Or.inr qd_X7_number) dX7_side_22 ?_
    obtain ⟨r2, h1, h⟩ := bnd_i h
    refine ww_callVi (pc := 25) hC [.int (X.1 a0 0)] h_a2.1 h_a2.2 (by decide) (ceX6_shotsOf hL h_a2 h1) ql_X7_24 qi_X6_shotsOf qs_X6_X6_shotsOf qn_X6 qc_X6_shotsOf rfl ⟨by decide, by decide, rfl⟩ rfl ⟨Nat.le_of_ble_eq_true rfl, Nat.le_of_ble_eq_true rfl⟩ (by decide) (rest := [.int (X.1 a0 0), .ref (w.1 a2)]) (Nat.le_of_ble_eq_true rfl) dX7_side_25 ⟨Nat.le_of_ble_eq_true rfl, Nat.le_of_ble_eq_true rfl⟩ rfl ?_
    refine ww_iconst (pc := 28) hC (v := (4 : Int32)) dX7_side_28 (by decide) ?_
    refine ww_irem (pc := 29) hC dX7_side_29 (by decide) ?_
    obtain ⟨r4, h3, h⟩ := bnd_i h
    refine ww_callVi (pc := 30) hC [.int (X.1 a0 0), .int (r2 - r2 / ((4 : Int32)) * ((4 : Int32)))] h_a2.1 h_a2.2 (by decide) (ceX6_toldOf hL h_a2 h3) ql_X7_30 qi_X6_toldOf qs_X6_X6_toldOf qn_X6 qc_X6_toldOf rfl ⟨by decide, by decide, rfl⟩ rfl ⟨Nat.le_of_ble_eq_true rfl, Nat.le_of_ble_eq_true rfl⟩ (by decide) (rest := []) (Nat.le_of_ble_eq_true rfl) dX7_side_30 ⟨Nat.le_of_ble_eq_true rfl, Nat.le_of_ble_eq_true rfl⟩ rfl ?_
    exact ww_iret (pc := 33) hC hr (ret_r h) dX7_side_33
  · refine ww_aload_n (pc := 8) hC dX7_side_8 0 rfl ?_
    refine ww_aload_n (pc := 9) hC dX7_side_9 1 rfl ?_
    refine ww_aload_n (pc := 10) hC dX7_side_10 2 rfl ?_
    obtain ⟨r6, h5, h⟩ := bnd_i h
    refine ww_callSUi (pc := 11) hC [.ref (w.1 a1), .ref (w.1 a2)] h_a0.1 (KS.lt h_a0) (ceX10_side hL h_a0 h_a1 h_a2 h5) ql_X7_15 qm_X10_X10_side qu_X7 (Or.inl rfl) rfl qi_X10_side qn_X10 qc_X10_side (by decide) rfl rfl ⟨Nat.le_of_ble_eq_true rfl, Nat.le_of_ble_eq_true rfl⟩ (by decide) (rest := []) (Nat.le_of_ble_eq_true rfl) dX7_side_11 ⟨Nat.le_of_ble_eq_true rfl, Nat.le_of_ble_eq_true rfl⟩ rfl ?_
    exact ww_iret (pc := 14) hC hr (ret_r h) dX7_side_14
noncomputable def fX9_savesOf (Z : XS) (a0 : Nat) (x1 : Int32) (X : XD) : Option Int32 := if x1 < 0 then some ((0 : Int32)) else if ((3 : Int32)) ≤ x1 then some ((0 : Int32)) else gin x1 3 (some (X.1 (a0 + 2) (x1).toNatClampNeg))
set_option maxHeartbeats 40000000 in
set_option maxRecDepth 100000 in
theorem ceX9_savesOf {l : Launch} {E : XE} {w : XW} {z : Nat} {Z : XS}  (hL : LayC Z) {a0 : Nat} (h_a0 : KK Z a0 9) {x1 : Int32} {X : XD} {r : Int32} (h : fX9_savesOf Z a0 x1 X = some r) : Ct l E w yX9_savesOf (wsM yX9_savesOf cX9_savesOf 2 (some .int)) (rmX 1 0 0) 0 0 [.ref (w.1 a0), .int x1] z z Z Z X X (some (.int r)) := by
  refine ct_of (by decide) (Nat.le_of_ble_eq_true rfl) ?_
  intro p e s m args below meth c hC hr hin hav
  unfold fX9_savesOf at h
  refine ww_lv (lv' := [(0, .ref (w.1 a0)), (1, .int x1)]) rfl ?_
  refine ww_iload_n (pc := 0) hC dX9_savesOf_0 1 rfl ?_
  refine ww_if_lt (pc := 1) hC h 22 dX9_savesOf_1 (by decide) (fun h => ?_) (fun h => ?_)
  · refine ww_iconst (pc := 22) hC (v := (0 : Int32)) dX9_savesOf_22 (by decide) ?_
    exact ww_iret (pc := 23) hC hr (ret_r h) dX9_savesOf_23
  · refine ww_iload_n (pc := 4) hC dX9_savesOf_4 1 rfl ?_
    refine ww_aload_n (pc := 5) hC dX9_savesOf_5 0 rfl ?_
    refine ww_getR (pc := 6) hC 9 1 (a0 + 2) h_a0 RX9 (by decide) (by decide) rfl (lay_9_1 hL h_a0).1 qf_X9_15 rfl dX9_savesOf_6 ?_
    refine ww_alen (pc := 9) hC ((3 : Int32)) ((lay_9_1 hL h_a0).2) (by decide) (by decide) rfl dX9_savesOf_9 ?_
    refine ww_icmp_ge (pc := 10) hC h 22 dX9_savesOf_10 (by decide) (fun h => ?_) (fun h => ?_)
    · refine ww_iconst (pc := 22) hC (v := (0 : Int32)) dX9_savesOf_22 (by decide) ?_
      exact ww_iret (pc := 23) hC hr (ret_r h) dX9_savesOf_23
    · refine ww_aload_n (pc := 13) hC dX9_savesOf_13 0 rfl ?_
      refine ww_getR (pc := 14) hC 9 1 (a0 + 2) h_a0 RX9 (by decide) (by decide) rfl (lay_9_1 hL h_a0).1 qf_X9_15 rfl dX9_savesOf_14 ?_
      refine ww_iload_n (pc := 17) hC dX9_savesOf_17 1 rfl ?_
      refine ww_iald (pc := 18) hC ((lay_9_1 hL h_a0).2) h dX9_savesOf_18 (fun h => ?_)
      refine ww_goto (pc := 19) hC 23 dX9_savesOf_19 (by decide) ?_
      exact ww_iret (pc := 23) hC hr (ret_r h) dX9_savesOf_23
noncomputable def fX9_chanceBy (Z : XS) (a0 : Nat) (x1 : Int32) (x2 : Int32) (X : XD) : Option Int32 := if x1 = x2 then bnd (fX9_sureOf Z a0 x1 X) (fun r4 => bnd (fX9_savesOf Z a0 x1 X) (fun r6 => some (if ((0 : Int32)) < (r4 - r6) then (r4 - r6) else ((0 : Int32))))) else bnd (fX9_sureOf Z a0 x1 X) (fun r2 => some r2)
set_option maxHeartbeats 40000000 in
set_option maxRecDepth 100000 in
theorem ceX9_chanceBy {l : Launch} {E : XE} {w : XW} {z : Nat} {Z : XS}  (hL : LayC Z) {a0 : Nat} (h_a0 : KK Z a0 9) {x1 : Int32} {x2 : Int32} {X : XD} {r : Int32} (h : fX9_chanceBy Z a0 x1 x2 X = some r) : Ct l E w yX9_chanceBy (wsM yX9_chanceBy cX9_chanceBy 3 (some .int)) (rmX 2 0 0) 0 0 [.ref (w.1 a0), .int x1, .int x2] z z Z Z X X (some (.int r)) := by
  refine ct_of (by decide) (Nat.le_of_ble_eq_true rfl) ?_
  intro p e s m args below meth c hC hr hin hav
  unfold fX9_chanceBy at h
  refine ww_lv (lv' := [(0, .ref (w.1 a0)), (1, .int x1), (2, .int x2)]) rfl ?_
  refine ww_iload_n (pc := 0) hC dX9_chanceBy_0 1 rfl ?_
  refine ww_iload_n (pc := 1) hC dX9_chanceBy_1 2 rfl ?_
  refine ww_icmp_ne (pc := 2) hC h 23 dX9_chanceBy_2 (by decide) (fun h => ?_) (fun h => ?_)
  · refine ww_aload_n (pc := 23) hC dX9_chanceBy_23 0 rfl ?_
    refine ww_iload_n (pc := 24) hC dX9_chanceBy_24 1 rfl ?_
    obtain ⟨r2, h1, h⟩ := bnd_i h
    refine ww_callVi (pc := 25) hC [.int x1] h_a0.1 h_a0.2 (by decide) (ceX9_sureOf hL h_a0 h1) ql_X9_38 qi_X9_sureOf qs_X9_X9_sureOf qn_X9 qc_X9_sureOf rfl ⟨by decide, by decide, rfl⟩ rfl ⟨Nat.le_of_ble_eq_true rfl, Nat.le_of_ble_eq_true rfl⟩ (by decide) (rest := []) (Nat.le_of_ble_eq_true rfl) dX9_chanceBy_25 ⟨Nat.le_of_ble_eq_true rfl, Nat.le_of_ble_eq_true rfl⟩ rfl ?_
    exact ww_iret (pc := 28) hC hr (ret_r h) dX9_chanceBy_28
  · refine ww_iconst (pc := 5) hC (v := (0 : Int32)) dX9_chanceBy_5 (by decide) ?_
    refine ww_aload_n (pc := 6) hC dX9_chanceBy_6 0 rfl ?_
    refine ww_iload_n (pc := 7) hC dX9_chanceBy_7 1 rfl ?_
    obtain ⟨r4, h3, h⟩ := bnd_i h
    refine ww_callVi (pc := 8) hC [.int x1] h_a0.1 h_a0.2 (by decide) (ceX9_sureOf hL h_a0 h3) ql_X9_38 qi_X9_sureOf qs_X9_X9_sureOf qn_X9 qc_X9_sureOf rfl ⟨by decide, by decide, rfl⟩ rfl ⟨Nat.le_of_ble_eq_true rfl, Nat.le_of_ble_eq_true rfl⟩ (by decide) (rest := [.int ((0 : Int32))]) (Nat.le_of_ble_eq_true rfl) dX9_chanceBy_8 ⟨Nat.le_of_ble_eq_true rfl, Nat.le_of_ble_eq_true rfl⟩ rfl ?_
    refine ww_aload_n (pc := 11) hC dX9_chanceBy_11 0 rfl ?_
    refine ww_iload_n (pc := 12) hC dX9_chanceBy_12 1 rfl ?_
    obtain ⟨r6, h5, h⟩ := bnd_i h
    refine ww_callVi (pc := 13) hC [.int x1] h_a0.1 h_a0.2 (by decide) (ceX9_savesOf hL h_a0 h5) ql_X9_42 qi_X9_savesOf qs_X9_X9_savesOf qn_X9 qc_X9_savesOf rfl ⟨by decide, by decide, rfl⟩ rfl ⟨Nat.le_of_ble_eq_true rfl, Nat.le_of_ble_eq_true rfl⟩ (by decide) (rest := [.int r4, .int ((0 : Int32))]) (Nat.le_of_ble_eq_true rfl) dX9_chanceBy_13 ⟨Nat.le_of_ble_eq_true rfl, Nat.le_of_ble_eq_true rfl⟩ rfl ?_
    refine ww_isub (pc := 16) hC dX9_chanceBy_16 ?_
    refine ww_max (pc := 17) hC ql_X9_45 qt_J9_max_7cf53 qn_J9 qc_J9_max_7cf53 dX9_chanceBy_17 ⟨Nat.le_of_ble_eq_true rfl, Nat.le_of_ble_eq_true rfl⟩ (Nat.le_of_ble_eq_true rfl) ⟨Nat.le_of_ble_eq_true rfl, Nat.le_of_ble_eq_true rfl⟩ ?_
    refine ww_goto (pc := 20) hC 28 dX9_chanceBy_20 (by decide) ?_
    exact ww_iret (pc := 28) hC hr (ret_r h) dX9_chanceBy_28
noncomputable def fX9_bestSide_32 (Z : XS) (a0 : Nat) (k4 : Int32 → Int32 → XD → Option Int32) (x1 : Int32) (x2 : Int32) (X : XD) : Option Int32 := nm (x2 + (1 : Int32)) (fun y5 => k4 x1 y5 X)
noncomputable def fX9_bestSide_4 (Z : XS) (a0 : Nat) (n : Nat) : Int32 → Int32 → XD → Option Int32 := Nat.rec (motive := fun _ => Int32 → Int32 → XD → Option Int32) (fun _ _ _ => none) (fun _ f => fun x1 x2 X => if ((3 : Int32)) ≤ x2 then some x1 else bnd (fX9_chanceBy Z a0 x2 (X.1 a0 2) X) (fun r2 => bnd (fX9_chanceBy Z a0 x1 (X.1 a0 2) X) (fun r4 => if r2 ≤ r4 then fX9_bestSide_32 Z a0 (f) x1 x2 X else fX9_bestSide_32 Z a0 (f) x2 x2 X))) n
theorem fX9_bestSide_4_s (Z : XS) (a0 : Nat) (n : Nat) (x1 : Int32) (x2 : Int32) (X : XD) : fX9_bestSide_4 Z a0 (n + 1) x1 x2 X = if ((3 : Int32)) ≤ x2 then some x1 else bnd (fX9_chanceBy Z a0 x2 (X.1 a0 2) X) (fun r2 => bnd (fX9_chanceBy Z a0 x1 (X.1 a0 2) X) (fun r4 => if r2 ≤ r4 then fX9_bestSide_32 Z a0 ((fX9_bestSide_4 Z a0 n)) x1 x2 X else fX9_bestSide_32 Z a0 ((fX9_bestSide_4 Z a0 n)) x2 x2 X)) := rfl
noncomputable def fX9_bestSide (Z : XS) (a0 : Nat) (X : XD) : Option Int32 := fX9_bestSide_4 Z a0 FU ((0 : Int32)) ((1 : Int32)) X
set_option maxHeartbeats 40000000 in
set_option maxRecDepth 100000 in
theorem ceX9_bestSide {l : Launch} {E : XE} {w : XW} {z : Nat} {Z : XS}  (hL : LayC Z) {a0 : Nat} (h_a0 : KK Z a0 9) {X : XD} {r : Int32} (h : fX9_bestSide Z a0 X = some r) : Ct l E w yX9_bestSide (wsM yX9_bestSide cX9_bestSide 3 (some .int)) (rmX 3 0 0) 0 0 [.ref (w.1 a0)] z z Z Z X X (some (.int r)) := by
  refine ct_of (by decide) (Nat.le_of_ble_eq_true rfl) ?_
  intro p e s m args below meth c hC hr hin hav
  have j32 : ∀ (k4 : Int32 → Int32 → XD → Option Int32) (hk4 : ∀ (x1 : Int32) (x2 : Int32), k4 x1 x2 X = some r → WW p l e (rmX 3 0 0) s m args below meth c 3 (MQ below (XQ E w z Z X (some (.int r))) args s 0 0 (A0 E)) E w 0 0 z Z 4 [(0, .ref (w.1 a0)), (1, .int x1), (2, .int x2)] [] X), ∀ (x1 : Int32) (x2 : Int32), fX9_bestSide_32 Z a0 k4 x1 x2 X = some r → WW p l e (rmX 3 0 0) s m args below meth c 3 (MQ below (XQ E w z Z X (some (.int r))) args s 0 0 (A0 E)) E w 0 0 z Z 32 [(0, .ref (w.1 a0)), (1, .int x1), (2, .int x2)] [] X := by
    intro k4 hk4 x1 x2 h
    unfold fX9_bestSide_32 at h
    obtain ⟨y5, ey5⟩ : ∃ q, q = x2 + (1 : Int32) := ⟨_, rfl⟩
    replace h := nm_i h ey5
    refine ww_iinc (pc := 32) hC y5 [(2, .int y5), (0, .ref (w.1 a0)), (1, .int x1)] dX9_bestSide_32 2 rfl (by rw [ey5]; rfl) (by decide) rfl ?_
    refine ww_goto (pc := 35) hC 4 dX9_bestSide_35 (by decide) ?_
    refine ww_sub [1, 2, 0] rfl ?_
    exact hk4 _ _ h
  have j4 : ∀ (n : Nat), ∀ (x1 : Int32) (x2 : Int32), fX9_bestSide_4 Z a0 n x1 x2 X = some r → WW p l e (rmX 3 0 0) s m args below meth c 3 (MQ below (XQ E w z Z X (some (.int r))) args s 0 0 (A0 E)) E w 0 0 z Z 4 [(0, .ref (w.1 a0)), (1, .int x1), (2, .int x2)] [] X := by
    intro n
    induction n with
    | zero =>
      intro x1 x2 h
      cases (show none = some r from h)
    | succ n ih =>
      intro x1 x2 h
      rw [fX9_bestSide_4_s] at h
      refine ww_iload_n (pc := 4) hC dX9_bestSide_4 2 rfl ?_
      refine ww_iconst (pc := 5) hC (v := (3 : Int32)) dX9_bestSide_5 (by decide) ?_
      refine ww_icmp_ge (pc := 6) hC h 38 dX9_bestSide_6 (by decide) (fun h => ?_) (fun h => ?_)
      · refine ww_iload_n (pc := 38) hC dX9_bestSide_38 1 rfl ?_
        exact ww_iret (pc := 39) hC hr (ret_r h) dX9_bestSide_39
      · refine ww_aload_n (pc := 9) hC dX9_bestSide_9 0 rfl ?_
        refine ww_iload_n (pc := 10) hC dX9_bestSide_10 2 rfl ?_
        refine ww_aload_n (pc := 11) hC dX9_bestSide_11 0 rfl ?_
        refine ww_getI (pc := 12) hC 9 2 h_a0 RX9 (by decide) (by decide) rfl qf_X9_24 (Or.inl rfl) dX9_bestSide_12 ?_
        obtain ⟨r2, h1, h⟩ := bnd_i h
        refine ww_callVi (pc := 15) hC [.int x2, .int (X.1 a0 2)] h_a0.1 h_a0.2 (by decide) (ceX9_chanceBy hL h_a0 h1) ql_X9_48 qi_X9_chanceBy qs_X9_X9_chanceBy qn_X9 qc_X9_chanceBy rfl ⟨by decide, by decide, rfl⟩ rfl ⟨Nat.le_of_ble_eq_true rfl, Nat.le_of_ble_eq_true rfl⟩ (by decide) (rest := []) (Nat.le_of_ble_eq_true rfl) dX9_bestSide_15 ⟨Nat.le_of_ble_eq_true rfl, Nat.le_of_ble_eq_true rfl⟩ rfl ?_
        refine ww_aload_n (pc := 18) hC dX9_bestSide_18 0 rfl ?_
        refine ww_iload_n (pc := 19) hC dX9_bestSide_19 1 rfl ?_
        refine ww_aload_n (pc := 20) hC dX9_bestSide_20 0 rfl ?_
        refine ww_getI (pc := 21) hC 9 2 h_a0 RX9 (by decide) (by decide) rfl qf_X9_24 (Or.inl rfl) dX9_bestSide_21 ?_
        obtain ⟨r4, h3, h⟩ := bnd_i h
        refine ww_callVi (pc := 24) hC [.int x1, .int (X.1 a0 2)] h_a0.1 h_a0.2 (by decide) (ceX9_chanceBy hL h_a0 h3) ql_X9_48 qi_X9_chanceBy qs_X9_X9_chanceBy qn_X9 qc_X9_chanceBy rfl ⟨by decide, by decide, rfl⟩ rfl ⟨Nat.le_of_ble_eq_true rfl, Nat.le_of_ble_eq_true rfl⟩ (by decide) (rest := [.int r2]) (Nat.le_of_ble_eq_true rfl) dX9_bestSide_24 ⟨Nat.le_of_ble_eq_true rfl, Nat.le_of_ble_eq_true rfl⟩ rfl ?_
        refine ww_icmp_le (pc := 27) hC h 32 dX9_bestSide_27 (by decide) (fun h => ?_) (fun h => ?_)
        · refine ww_sub [0, 1, 2] rfl ?_
          exact j32 _ ih _ _ h
        · refine ww_iload_n (pc := 30) hC dX9_bestSide_30 2 rfl ?_
          refine ww_istore_n (pc := 31) hC [(1, .int x2), (0, .ref (w.1 a0)), (2, .int x2)] dX9_bestSide_31 rfl (by decide) rfl ?_
          refine ww_sub [1, 0, 2] rfl ?_
          exact j32 _ ih _ _ h
  unfold fX9_bestSide at h
  refine ww_lv (lv' := [(0, .ref (w.1 a0))]) rfl ?_
  refine ww_iconst (pc := 0) hC (v := (0 : Int32)) dX9_bestSide_0 (by decide) ?_
  refine ww_istore_n (pc := 1) hC [(1, .int ((0 : Int32))), (0, .ref (w.1 a0))] dX9_bestSide_1 rfl (by decide) rfl ?_
  refine ww_iconst (pc := 2) hC (v := (1 : Int32)) dX9_bestSide_2 (by decide) ?_
  refine ww_istore_n (pc := 3) hC [(2, .int ((1 : Int32))), (1, .int ((0 : Int32))), (0, .ref (w.1 a0))] dX9_bestSide_3 rfl (by decide) rfl ?_
  refine ww_sub [2, 1, 0] rfl ?_
  exact j4 _ _ _ h
noncomputable def fX9_sum (Z : XS) (a0 : Nat) (x1 : Int32) (x2 : Int32) (x3 : Int32) (x4 : Int32) (X : XD) : Option Int32 := bnd (fX9_chanceBy Z a0 ((0 : Int32)) x4 X) (fun r2 => bnd (fX9_chanceBy Z a0 ((1 : Int32)) x4 X) (fun r4 => bnd (fX9_chanceBy Z a0 ((2 : Int32)) x4 X) (fun r6 => some (((x1 * r2) + (x2 * r4)) + (x3 * r6)))))
set_option maxHeartbeats 40000000 in
set_option maxRecDepth 100000 in
theorem ceX9_sum {l : Launch} {E : XE} {w : XW} {z : Nat} {Z : XS}  (hL : LayC Z) {a0 : Nat} (h_a0 : KK Z a0 9) {x1 : Int32} {x2 : Int32} {x3 : Int32} {x4 : Int32} {X : XD} {r : Int32} (h : fX9_sum Z a0 x1 x2 x3 x4 X = some r) : Ct l E w yX9_sum (wsM yX9_sum cX9_sum 5 (some .int)) (rmX 3 0 0) 0 0 [.ref (w.1 a0), .int x1, .int x2, .int x3, .int x4] z z Z Z X X (some (.int r)) := by
  refine ct_of (by decide) (Nat.le_of_ble_eq_true rfl) ?_
  intro p e s m args below meth c hC hr hin hav
  unfold fX9_sum at h
  refine ww_lv (lv' := [(0, .ref (w.1 a0)), (1, .int x1), (2, .int x2), (3, .int x3), (4, .int x4)]) rfl ?_
  refine ww_iload_n (pc := 0) hC dX9_sum_0 1 rfl ?_
  refine ww_aload_n (pc := 1) hC dX9_sum_1 0 rfl ?_
  refine ww_iconst (pc := 2) hC (v := (0 : Int32)) dX9_sum_2 (by decide) ?_
  refine ww_iload (pc := 3) hC dX9_sum_3 4 rfl ?_
  obtain ⟨r2, h1, h⟩ := bnd_i h
  refine ww_callVi (pc := 5) hC [.int ((0 : Int32)), .int x4] h_a0.1 h_a0.2 (by decide) (ceX9_chanceBy hL h_a0 h1) ql_X9_48 qi_X9_chanceBy qs_X9_X9_chanceBy qn_X9 qc_X9_chanceBy rfl ⟨by decide, by decide, rfl⟩ rfl ⟨Nat.le_of_ble_eq_true rfl, Nat.le_of_ble_eq_true rfl⟩ (by decide) (rest := [.int x1]) (Nat.le_of_ble_eq_true rfl) dX9_sum_5 ⟨Nat.le_of_ble_eq_true rfl, Nat.le_of_ble_eq_true rfl⟩ rfl ?_
  refine ww_imul (pc := 8) hC dX9_sum_8 ?_
  refine ww_iload_n (pc := 9) hC dX9_sum_9 2 rfl ?_
  refine ww_aload_n (pc := 10) hC dX9_sum_10 0 rfl ?_
  refine ww_iconst (pc := 11) hC (v := (1 : Int32)) dX9_sum_11 (by decide) ?_
  refine ww_iload (pc := 12) hC dX9_sum_12 4 rfl ?_
  obtain ⟨r4, h3, h⟩ := bnd_i h
  refine ww_callVi (pc := 14) hC [.int ((1 : Int32)), .int x4] h_a0.1 h_a0.2 (by decide) (ceX9_chanceBy hL h_a0 h3) ql_X9_48 qi_X9_chanceBy qs_X9_X9_chanceBy qn_X9 qc_X9_chanceBy rfl ⟨by decide, by decide, rfl⟩ rfl ⟨Nat.le_of_ble_eq_true rfl, Nat.le_of_ble_eq_true rfl⟩ (by decide) (rest := [.int x2, .int (x1 * r2)]) (Nat.le_of_ble_eq_true rfl) dX9_sum_14 ⟨Nat.le_of_ble_eq_true rfl, Nat.le_of_ble_eq_true rfl⟩ rfl ?_
  refine ww_imul (pc := 17) hC dX9_sum_17 ?_
  refine ww_iadd (pc := 18) hC dX9_sum_18 ?_
  refine ww_iload_n (pc := 19) hC dX9_sum_19 3 rfl ?_
  refine ww_aload_n (pc := 20) hC dX9_sum_20 0 rfl ?_
  refine ww_iconst (pc := 21) hC (v := (2 : Int32)) dX9_sum_21 (by decide) ?_
  refine ww_iload (pc := 22) hC dX9_sum_22 4 rfl ?_
  obtain ⟨r6, h5, h⟩ := bnd_i h
  refine ww_callVi (pc := 24) hC [.int ((2 : Int32)), .int x4] h_a0.1 h_a0.2 (by decide) (ceX9_chanceBy hL h_a0 h5) ql_X9_48 qi_X9_chanceBy qs_X9_X9_chanceBy qn_X9 qc_X9_chanceBy rfl ⟨by decide, by decide, rfl⟩ rfl ⟨Nat.le_of_ble_eq_true rfl, Nat.le_of_ble_eq_true rfl⟩ (by decide) (rest := [.int x3, .int ((x1 * r2) + (x2 * r4))]) (Nat.le_of_ble_eq_true rfl) dX9_sum_24 ⟨Nat.le_of_ble_eq_true rfl, Nat.le_of_ble_eq_true rfl⟩ rfl ?_
  refine ww_imul (pc := 27) hC dX9_sum_27 ?_
  refine ww_iadd (pc := 28) hC dX9_sum_28 ?_
  exact ww_iret (pc := 29) hC hr (ret_r h) dX9_sum_29
noncomputable def fX9_leastSum (Z : XS) (a0 : Nat) (x1 : Int32) (x2 : Int32) (x3 : Int32) (X : XD) : Option Int32 := bnd (fX9_sum Z a0 x1 x2 x3 ((0 : Int32)) X) (fun r2 => bnd (fX9_sum Z a0 x1 x2 x3 ((1 : Int32)) X) (fun r4 => bnd (fX9_sum Z a0 x1 x2 x3 ((2 : Int32)) X) (fun r6 => some (if (if r6 < r4 then r6 else r4) < r2 then (if r6 < r4 then r6 else r4) else r2))))
set_option maxHeartbeats 40000000 in
set_option maxRecDepth 100000 in
theorem ceX9_leastSum {l : Launch} {E : XE} {w : XW} {z : Nat} {Z : XS}  (hL : LayC Z) {a0 : Nat} (h_a0 : KK Z a0 9) {x1 : Int32} {x2 : Int32} {x3 : Int32} {X : XD} {r : Int32} (h : fX9_leastSum Z a0 x1 x2 x3 X = some r) : Ct l E w yX9_leastSum (wsM yX9_leastSum cX9_leastSum 7 (some .int)) (rmX 4 0 0) 0 0 [.ref (w.1 a0), .int x1, .int x2, .int x3] z z Z Z X X (some (.int r)) := by
  refine ct_of (by decide) (Nat.le_of_ble_eq_true rfl) ?_
  intro p e s m args below meth c hC hr hin hav
  unfold fX9_leastSum at h
  refine ww_lv (lv' := [(0, .ref (w.1 a0)), (1, .int x1), (2, .int x2), (3, .int x3)]) rfl ?_
  refine ww_aload_n (pc := 0) hC dX9_leastSum_0 0 rfl ?_
  refine ww_iload_n (pc := 1) hC dX9_leastSum_1 1 rfl ?_
  refine ww_iload_n (pc := 2) hC dX9_leastSum_2 2 rfl ?_
  refine ww_iload_n (pc := 3) hC dX9_leastSum_3 3 rfl ?_
  refine ww_iconst (pc := 4) hC (v := (0 : Int32)) dX9_leastSum_4 (by decide) ?_
  obtain ⟨r2, h1, h⟩ := bnd_i h
  refine ww_callVi (pc := 5) hC [.int x1, .int x2, .int x3, .int ((0 : Int32))] h_a0.1 h_a0.2 (by decide) (ceX9_sum hL h_a0 h1) ql_X9_51 qi_X9_sum qs_X9_X9_sum qn_X9 qc_X9_sum rfl ⟨by decide, by decide, rfl⟩ rfl ⟨Nat.le_of_ble_eq_true rfl, Nat.le_of_ble_eq_true rfl⟩ (by decide) (rest := []) (Nat.le_of_ble_eq_true rfl) dX9_leastSum_5 ⟨Nat.le_of_ble_eq_true rfl, Nat.le_of_ble_eq_true rfl⟩ rfl ?_
  refine ww_istore (pc := 8) hC [(4, .int r2), (0, .ref (w.1 a0)), (1, .int x1), (2, .int x2), (3, .int x3)] dX9_leastSum_8  (by decide) rfl ?_
  refine ww_aload_n (pc := 10) hC dX9_leastSum_10 1 rfl ?_
  refine ww_iload_n (pc := 11) hC dX9_leastSum_11 2 rfl ?_
  refine ww_iload_n (pc := 12) hC dX9_leastSum_12 3 rfl ?_
  refine ww_iload_n (pc := 13) hC dX9_leastSum_13 4 rfl ?_
  refine ww_iconst (pc := 14) hC (v := (1 : Int32)) dX9_leastSum_14 (by decide) ?_
  obtain ⟨r4, h3, h⟩ := bnd_i h
  refine ww_callVi (pc := 15) hC [.int x1, .int x2, .int x3, .int ((1 : Int32))] h_a0.1 h_a0.2 (by decide) (ceX9_sum hL h_a0 h3) ql_X9_51 qi_X9_sum qs_X9_X9_sum qn_X9 qc_X9_sum rfl ⟨by decide, by decide, rfl⟩ rfl ⟨Nat.le_of_ble_eq_true rfl, Nat.le_of_ble_eq_true rfl⟩ (by decide) (rest := []) (Nat.le_of_ble_eq_true rfl) dX9_leastSum_15 ⟨Nat.le_of_ble_eq_true rfl, Nat.le_of_ble_eq_true rfl⟩ rfl ?_
  refine ww_istore (pc := 18) hC [(5, .int r4), (4, .int r2), (0, .ref (w.1 a0)), (1, .int x1), (2, .int x2), (3, .int x3)] dX9_leastSum_18  (by decide) rfl ?_
  refine ww_aload_n (pc := 20) hC dX9_leastSum_20 2 rfl ?_
  refine ww_iload_n (pc := 21) hC dX9_leastSum_21 3 rfl ?_
  refine ww_iload_n (pc := 22) hC dX9_leastSum_22 4 rfl ?_
  refine ww_iload_n (pc := 23) hC dX9_leastSum_23 5 rfl ?_
  refine ww_iconst (pc := 24) hC (v := (2 : Int32)) dX9_leastSum_24 (by decide) ?_
  obtain ⟨r6, h5, h⟩ := bnd_i h
  refine ww_callVi (pc := 25) hC [.int x1, .int x2, .int x3, .int ((2 : Int32))] h_a0.1 h_a0.2 (by decide) (ceX9_sum hL h_a0 h5) ql_X9_51 qi_X9_sum qs_X9_X9_sum qn_X9 qc_X9_sum rfl ⟨by decide, by decide, rfl⟩ rfl ⟨Nat.le_of_ble_eq_true rfl, Nat.le_of_ble_eq_true rfl⟩ (by decide) (rest := []) (Nat.le_of_ble_eq_true rfl) dX9_leastSum_25 ⟨Nat.le_of_ble_eq_true rfl, Nat.le_of_ble_eq_true rfl⟩ rfl ?_
  refine ww_istore (pc := 28) hC [(6, .int r6), (5, .int r4), (4, .int r2), (0, .ref (w.1 a0)), (1, .int x1), (2, .int x2), (3, .int x3)] dX9_leastSum_28  (by decide) rfl ?_
  refine ww_iload (pc := 30) hC dX9_leastSum_30 2 rfl ?_
  refine ww_iload (pc := 32) hC dX9_leastSum_32 1 rfl ?_
  refine ww_iload (pc := 34) hC dX9_leastSum_34 0 rfl ?_
  refine ww_min (pc := 36) hC ql_X9_32 qt_J9_min_7cf53 qn_J9 qc_J9_min_7cf53 dX9_leastSum_36 ⟨Nat.le_of_ble_eq_true rfl, Nat.le_of_ble_eq_true rfl⟩ (Nat.le_of_ble_eq_true rfl) ⟨Nat.le_of_ble_eq_true rfl, Nat.le_of_ble_eq_true rfl⟩ ?_
  refine ww_min (pc := 39) hC ql_X9_32 qt_J9_min_7cf53 qn_J9 qc_J9_min_7cf53 dX9_leastSum_39 ⟨Nat.le_of_ble_eq_true rfl, Nat.le_of_ble_eq_true rfl⟩ (Nat.le_of_ble_eq_true rfl) ⟨Nat.le_of_ble_eq_true rfl, Nat.le_of_ble_eq_true rfl⟩ ?_
  exact ww_iret (pc := 42) hC hr (ret_r h) dX9_leastSum_42
noncomputable def fV_X10_shows (Z : XS) (a0 : Nat) (a2 : Nat) (x1 : Int32) (X : XD) : Option (Int32 × XD) := if sK Z a0 = 7 then fX7_shows Z a0 a2 x1 X else (fX4_shows Z a0 a2 x1 X)
set_option maxHeartbeats 4000000 in
theorem vd_X10_shows {p : Program} {l : Launch} {e : Env} {R : Room} {s : State} {m : MethodId} {args : Array Value} {below : List Frame} {meth : Method} {c : Code} {nL : Nat} {Q : State → Prop} {E : XE} {w : XW} {cells slots z : Nat} {Z : XS} {pc idx : Nat} {lv : List (Nat × Value)} {rest : List Value} {X X1 : XD} {cc : ByteArray} {own : String} {a0 : Nat} {x1 : Int32} {a2 : Nat} {r : Int32} (h : CX p s m args meth c E cc nL own) (hL : LayC Z) (hk : a0 < sn Z ∧ (sK Z a0 = 7 ∨ sK Z a0 = 10)) (h_a2 : KK Z a2 3) (hf : fV_X10_shows Z a0 a2 x1 X = some (r, X1)) (w1 : Cond.methodLink own idx ⟨"FootKeeper$Waiting", "shows", "(ILFootKeeper$Row;)I"⟩ ∈ xtb) (hR : 5 + 1 ≤ R.frames ∧ 60 * (5 + 1) ≤ R.locals) (hst : (rest.map fun v => v.category).sum ≤ 8) (hd : decode cc pc = .ok (.invokevirtual idx, 3)) (hfz : cells ≤ R.cells ∧ slots ≤ R.slots)
    (kk : WW p l e R s m args below meth c nL Q E w cells slots z Z (pc + 3) lv (.int r :: rest) X1) : WW p l e R s m args below meth c nL Q E w cells slots z Z pc lv (.ref (w.1 a2) :: .int x1 :: .ref (w.1 a0) :: rest) X := by
  obtain ⟨hn, hs⟩ := id hk
  unfold fV_X10_shows at hf
  rcases hs with e1 | e1
  · rw [if_pos e1] at hf; exact ww_callOi h [.int x1, .ref (w.1 a2)] hn e1 (by decide) (ceX7_shows hL ⟨hn, (by unfold isSh; omega)⟩ h_a2 hf) w1 qm_X10_X4_shows qi_X4_shows qc_X4_shows qs_X7_X10_shows qi_X7_shows qn_X7 qc_X7_shows ⟨by decide, by decide, rfl⟩ rfl ⟨Nat.le_trans (by decide) hR.1, Nat.le_trans (by decide) hR.2⟩ (by decide) hst hd hfz rfl kk
  · rw [if_neg (by rw [e1]; decide)] at hf; exact ww_callOi h [.int x1, .ref (w.1 a2)] hn e1 (by decide) (ceX4_shows hL ⟨hn, (by unfold isSh; omega)⟩ h_a2 hf) w1 qm_X10_X4_shows qi_X4_shows qc_X4_shows qs_X10_X10_shows qi_X4_shows qn_X4 qc_X4_shows ⟨by decide, by decide, rfl⟩ rfl ⟨Nat.le_trans (by decide) hR.1, Nat.le_trans (by decide) hR.2⟩ (by decide) hst hd hfz rfl kk
noncomputable def fX10_tells (Z : XS) (a0 : Nat) (a2 : Nat) (x1 : Int32) (X : XD) : Option (Int32 × XD) := bnw (fX3_add Z a2 ((40 : Int32)) X) (fun r2 X_3 => bnw (fX4_tells Z a0 a2 x1 X_3) (fun r5 X_6 => bnw (fV_X10_shows Z a0 a2 ((1 : Int32)) X_6) (fun r8 X_9 => some (r5 + r8, X_9))))
set_option maxHeartbeats 40000000 in
set_option maxRecDepth 100000 in
theorem ceX10_tells {l : Launch} {E : XE} {w : XW} {z : Nat} {Z : XS}  (hL : LayC Z) {a0 : Nat} (h_a0 : KS Z a0) (h_w : sK Z a0 = 7 ∨ sK Z a0 = 10) {a2 : Nat} (h_a2 : KK Z a2 3) {x1 : Int32} {X X1 : XD} {r : Int32} (h : fX10_tells Z a0 a2 x1 X = some (r, X1)) : Ct l E w yX10_tells (wsM yX10_tells cX10_tells 4 (some .int)) (rmX 8 0 0) 0 0 [.ref (w.1 a0), .int x1, .ref (w.1 a2)] z z Z Z X X1 (some (.int r)) := by
  refine ct_of (by decide) (Nat.le_of_ble_eq_true rfl) ?_
  intro p e s m args below meth c hC hr hin hav
  unfold fX10_tells at h
  refine ww_lv (lv' := [(0, .ref (w.1 a0)), (1, .int x1), (2, .ref (w.1 a2))]) rfl ?_
  refine ww_aload_n (pc := 0) hC dX10_tells_0 2 rfl ?_
  refine ww_bipush (pc := 1) hC (v := (40 : Int32)) dX10_tells_1 (by decide) ?_
  obtain ⟨r2, X_3, h1, h⟩ := bnw_i h
  refine ww_callVi (pc := 3) hC [.int ((40 : Int32))] h_a2.1 h_a2.2 (by decide) (ceX3_add hL h_a2 h1) ql_X10_13 qi_X3_add qs_X3_X3_add qn_X3 qc_X3_add rfl ⟨by decide, by decide, rfl⟩ rfl ⟨Nat.le_of_ble_eq_true rfl, Nat.le_of_ble_eq_true rfl⟩ (by decide) (rest := []) (Nat.le_of_ble_eq_true rfl) dX10_tells_3 ⟨Nat.le_of_ble_eq_true rfl, Nat.le_of_ble_eq_true rfl⟩ rfl ?_
  refine ww_pop (pc := 6) hC dX10_tells_6 rfl ?_
  refine ww_aload_n (pc := 7) hC dX10_tells_7 0 rfl ?_
  refine ww_iload_n (pc := 8) hC dX10_tells_8 1 rfl ?_
  refine ww_aload_n (pc := 9) hC dX10_tells_9 2 rfl ?_
  obtain ⟨r5, X_6, h4, h⟩ := bnw_i h
  refine ww_callSUi (pc := 10) hC [.int x1, .ref (w.1 a2)] h_a0.1 (KS.lt h_a0) (ceX4_tells hL h_a0 h_a2 h4) ql_X10_19 qm_X4_X4_tells qu_X10 (Or.inl rfl) rfl qi_X4_tells qn_X4 qc_X4_tells (by decide) rfl rfl ⟨Nat.le_of_ble_eq_true rfl, Nat.le_of_ble_eq_true rfl⟩ (by decide) (rest := []) (Nat.le_of_ble_eq_true rfl) dX10_tells_10 ⟨Nat.le_of_ble_eq_true rfl, Nat.le_of_ble_eq_true rfl⟩ rfl ?_
  refine ww_istore_n (pc := 13) hC [(3, .int r5), (0, .ref (w.1 a0)), (1, .int x1), (2, .ref (w.1 a2))] dX10_tells_13 rfl (by decide) rfl ?_
  refine ww_iload_n (pc := 14) hC dX10_tells_14 0 rfl ?_
  refine ww_aload_n (pc := 15) hC dX10_tells_15 1 rfl ?_
  refine ww_iconst (pc := 16) hC (v := (1 : Int32)) dX10_tells_16 (by decide) ?_
  refine ww_aload_n (pc := 17) hC dX10_tells_17 3 rfl ?_
  obtain ⟨r8, X_9, h7, h⟩ := bnw_i h
  refine vd_X10_shows (pc := 18) hC hL ⟨h_a0.1, h_w⟩ h_a2 h7 ql_X10_23 ⟨Nat.le_of_ble_eq_true rfl, Nat.le_of_ble_eq_true rfl⟩ (Nat.le_of_ble_eq_true rfl) dX10_tells_18 ⟨Nat.le_of_ble_eq_true rfl, Nat.le_of_ble_eq_true rfl⟩ ?_
  refine ww_iadd (pc := 21) hC dX10_tells_21 ?_
  exact ww_iret (pc := 22) hC hr h dX10_tells_22
noncomputable def fX11_find (Z : XS) (x1 : Int32) (X : XD) : Option (Option Nat) := if x1 < 0 then some none else if (X.1 47 0) ≤ x1 then some none else if x1 < ((6 : Int32)) then gin x1 6 (mto (sR Z 1 (x1).toNatClampNeg) (some none) (fun t1 => some (some t1))) else some none
set_option maxHeartbeats 40000000 in
set_option maxRecDepth 100000 in
theorem ceX11_find {l : Launch} {E : XE} {w : XW} {z : Nat} {Z : XS}  (hL : LayC Z) {x1 : Int32} {X : XD} {r : (Option Nat)} (h : fX11_find Z x1 X = some r) : Ct l E w yX11_find (wsM yX11_find cX11_find 2 (some (.object "FootKeeper$Shooter"))) (rmX 1 0 0) 0 0 [.ref (w.1 0), .int x1] z z Z Z X X (some (va_rf (r.map w.1))) := by
  refine ct_of (by decide) (Nat.le_of_ble_eq_true rfl) ?_
  intro p e s m args below meth c hC hr hin hav
  unfold fX11_find at h
  refine ww_lv (lv' := [(0, .ref (w.1 0)), (1, .int x1)]) rfl ?_
  refine ww_iload_n (pc := 0) hC dX11_find_0 1 rfl ?_
  refine ww_if_lt (pc := 1) hC h 24 dX11_find_1 (by decide) (fun h => ?_) (fun h => ?_)
  · refine ww_null (pc := 24) hC dX11_find_24 ?_
    exact ww_aret (pc := 25) hC hr (Or.inl ⟨_, rfl⟩) (Or.inl rfl) (by rw [← Option.some.inj h]; rfl) rfl dX11_find_25
  · refine ww_iload_n (pc := 4) hC dX11_find_4 1 rfl ?_
    refine ww_aload_n (pc := 5) hC dX11_find_5 0 rfl ?_
    refine ww_getR (pc := 6) hC 11 4 47 hL.1 RX11 (by decide) (by decide) rfl (lay_11_4 hL).1 qf_X11_36 rfl dX11_find_6 ?_
    refine ww_getI (pc := 9) hC 6 0 ((lay_11_4 hL).2) RX6 (by decide) (by decide) rfl qf_X11_88 (Or.inl rfl) dX11_find_9 ?_
    refine ww_icmp_ge (pc := 12) hC h 24 dX11_find_12 (by decide) (fun h => ?_) (fun h => ?_)
    · refine ww_null (pc := 24) hC dX11_find_24 ?_
      exact ww_aret (pc := 25) hC hr (Or.inl ⟨_, rfl⟩) (Or.inl rfl) (by rw [← Option.some.inj h]; rfl) rfl dX11_find_25
    · refine ww_iload_n (pc := 15) hC dX11_find_15 1 rfl ?_
      refine ww_aload_n (pc := 16) hC dX11_find_16 0 rfl ?_
      refine ww_getR (pc := 17) hC 11 0 1 hL.1 RX11 (by decide) (by decide) rfl (lay_11_0 hL).1 qf_X11_13 rfl dX11_find_17 ?_
      refine ww_alen (pc := 20) hC ((6 : Int32)) ((lay_11_0 hL).2) (by decide) (by decide) rfl dX11_find_20 ?_
      refine ww_icmp_lt (pc := 21) hC h 26 dX11_find_21 (by decide) (fun h => ?_) (fun h => ?_)
      · refine ww_aload_n (pc := 26) hC dX11_find_26 0 rfl ?_
        refine ww_getR (pc := 27) hC 11 0 1 hL.1 RX11 (by decide) (by decide) rfl (lay_11_0 hL).1 qf_X11_13 rfl dX11_find_27 ?_
        refine ww_iload_n (pc := 30) hC dX11_find_30 1 rfl ?_
        refine ww_aaldS (pc := 31) hC ((lay_11_0 hL).2) (lay_sh hL) h dX11_find_31 (fun h => ?_) (fun t1 hkt1 hot1 h => ?_)
        · exact ww_aret (pc := 32) hC hr (Or.inl ⟨_, rfl⟩) (Or.inl rfl) (by rw [← Option.some.inj h]; rfl) rfl dX11_find_32
        · exact ww_aret (pc := 32) hC hr (Or.inl ⟨_, rfl⟩) (Or.inr ⟨_, rfl⟩) (by rw [← Option.some.inj h]; rfl) rfl dX11_find_32
      · refine ww_null (pc := 24) hC dX11_find_24 ?_
        exact ww_aret (pc := 25) hC hr (Or.inl ⟨_, rfl⟩) (Or.inl rfl) (by rw [← Option.some.inj h]; rfl) rfl dX11_find_25
theorem ks_find {Z : XS} (hL : LayC Z) {x1 : Int32} {X : XD} {t : Nat} (h : fX11_find Z x1 X = some (some t)) : KS Z t := by
  unfold fX11_find at h
  have h2 : ∀ (o : Option Nat), (∀ t, o = some t → KS Z t) → mto o (some none) (fun t => some (some t)) = some (some t) → KS Z t := by
    intro o ho hh
    cases o with
    | none => cases hh
    | some u => cases hh; exact ho _ rfl
  repeat' split at h
  all_goals first | cases h | exact h2 _ (lay_sh hL _) (gin_i h).2 | skip
noncomputable def fX11_look_30 (Z : XS) (a1 : Nat) (a2 : Nat) (X : XD) : Option (Unit × XD) := bnd (fX6_lastOf Z a1 (X.1 a2 0) X) (fun r7 => bnw (fX9_begin Z 139 r7 X) (fun _ X_10 => bnw (fX9_end Z 139 ((0 : Int32)) ((0 : Int32)) X_10) (fun _ X_13 => some ((), X_13))))
noncomputable def fX11_look (Z : XS) (a1 : Nat) (a2 : Nat) (X : XD) : Option (Unit × XD) := nm (X.1 47 1) (fun y1 => if y1 < 0 then fX11_look_30 Z a1 a2 X else if ((6 : Int32)) ≤ y1 then fX11_look_30 Z a1 a2 X else gin y1 6 (bnw (fX1_tell Z (3 + 7 * (y1).toNatClampNeg) a1 a2 139 X) (fun _ X_5 => some ((), X_5))))
set_option maxHeartbeats 40000000 in
set_option maxRecDepth 100000 in
theorem ceX11_look {l : Launch} {E : XE} {w : XW} {z : Nat} {Z : XS}  (hL : LayC Z) {a1 : Nat} (h_a1 : KK Z a1 6) {a2 : Nat} (h_a2 : KS Z a2) {X X1 : XD} {r : Unit} (h : fX11_look Z a1 a2 X = some (r, X1)) : Ct l E w yX11_look (wsM yX11_look cX11_look 5 none) (rmX 5 0 0) 0 0 [.ref (w.1 0), .ref (w.1 a1), .ref (w.1 a2)] z z Z Z X X1 none := by
  refine ct_of (by decide) (Nat.le_of_ble_eq_true rfl) ?_
  intro p e s m args below meth c hC hr hin hav
  have j30 : ∀ (X : XD), fX11_look_30 Z a1 a2 X = some (r, X1) → WW p l e (rmX 5 0 0) s m args below meth c 5 (MQ below (XQ E w z Z X1 none) args s 0 0 (A0 E)) E w 0 0 z Z 30 [(0, .ref (w.1 0)), (1, .ref (w.1 a1)), (2, .ref (w.1 a2))] [] X := by
    intro X h
    unfold fX11_look_30 at h
    refine ww_null (pc := 30) hC dX11_look_30 ?_
    refine ww_astoreN (pc := 31) hC [(4, .null), (0, .ref (w.1 0)), (1, .ref (w.1 a1)), (2, .ref (w.1 a2))] dX11_look_31  (by decide) rfl ?_
    refine ww_aloadN (pc := 33) hC dX11_look_33 0 rfl ?_
    refine ww_ifnonnullN (pc := 35) hC dX11_look_35 ?_
    refine ww_aload_n (pc := 38) hC dX11_look_38 1 rfl ?_
    refine ww_getR (pc := 39) hC 11 8 139 hL.1 RX11 (by decide) (by decide) rfl (lay_11_8 hL).1 qf_X11_50 rfl dX11_look_39 ?_
    refine ww_aload_n (pc := 42) hC dX11_look_42 2 rfl ?_
    refine ww_aload_n (pc := 43) hC dX11_look_43 3 rfl ?_
    refine ww_getS (pc := 44) hC 0 (by decide) h_a2 RX4 "number" rfl qf_X11_241 (Or.inl rfl) dX11_look_44 ?_
    obtain ⟨r7, h6, h⟩ := bnd_i h
    refine ww_callVi (pc := 47) hC [.int (X.1 a2 0)] h_a1.1 h_a1.2 (by decide) (ceX6_lastOf hL h_a1 h6) ql_X11_106 qi_X6_lastOf qs_X6_X6_lastOf qn_X6 qc_X6_lastOf rfl ⟨by decide, by decide, rfl⟩ rfl ⟨Nat.le_of_ble_eq_true rfl, Nat.le_of_ble_eq_true rfl⟩ (by decide) (rest := [.ref (w.1 139)]) (Nat.le_of_ble_eq_true rfl) dX11_look_47 ⟨Nat.le_of_ble_eq_true rfl, Nat.le_of_ble_eq_true rfl⟩ rfl ?_
    obtain ⟨_, X_10, h8, h⟩ := bnw_i h
    refine ww_callVv (pc := 50) hC [.int r7] ((lay_11_8 hL).2).1 ((lay_11_8 hL).2).2 (by decide) (ceX9_begin hL ((lay_11_8 hL).2) h8) ql_X11_311 qi_X9_begin qs_X9_X9_begin qn_X9 qc_X9_begin rfl ⟨by decide, by decide, rfl⟩ rfl ⟨Nat.le_of_ble_eq_true rfl, Nat.le_of_ble_eq_true rfl⟩ (by decide) (rest := []) (Nat.le_of_ble_eq_true rfl) dX11_look_50 ⟨Nat.le_of_ble_eq_true rfl, Nat.le_of_ble_eq_true rfl⟩ rfl ?_
    refine ww_aload_n (pc := 53) hC dX11_look_53 1 rfl ?_
    refine ww_getR (pc := 54) hC 11 8 139 hL.1 RX11 (by decide) (by decide) rfl (lay_11_8 hL).1 qf_X11_50 rfl dX11_look_54 ?_
    refine ww_iconst (pc := 57) hC (v := (0 : Int32)) dX11_look_57 (by decide) ?_
    refine ww_iconst (pc := 58) hC (v := (0 : Int32)) dX11_look_58 (by decide) ?_
    obtain ⟨_, X_13, h11, h⟩ := bnw_i h
    refine ww_callVv (pc := 59) hC [.int ((0 : Int32)), .int ((0 : Int32))] ((lay_11_8 hL).2).1 ((lay_11_8 hL).2).2 (by decide) (ceX9_end hL ((lay_11_8 hL).2) h11) ql_X11_314 qi_X9_end qs_X9_X9_end qn_X9 qc_X9_end rfl ⟨by decide, by decide, rfl⟩ rfl ⟨Nat.le_of_ble_eq_true rfl, Nat.le_of_ble_eq_true rfl⟩ (by decide) (rest := []) (Nat.le_of_ble_eq_true rfl) dX11_look_59 ⟨Nat.le_of_ble_eq_true rfl, Nat.le_of_ble_eq_true rfl⟩ rfl ?_
    refine ww_goto (pc := 62) hC 76 dX11_look_62 (by decide) ?_
    exact ww_vret (pc := 76) hC hr h dX11_look_76
  unfold fX11_look at h
  refine ww_lv (lv' := [(0, .ref (w.1 0)), (1, .ref (w.1 a1)), (2, .ref (w.1 a2))]) rfl ?_
  refine ww_aload_n (pc := 0) hC dX11_look_0 0 rfl ?_
  refine ww_getR (pc := 1) hC 11 4 47 hL.1 RX11 (by decide) (by decide) rfl (lay_11_4 hL).1 qf_X11_36 rfl dX11_look_1 ?_
  refine ww_getI (pc := 4) hC 6 1 ((lay_11_4 hL).2) RX6 (by decide) (by decide) rfl qf_X11_158 (Or.inl rfl) dX11_look_4 ?_
  obtain ⟨y1, ey1⟩ : ∃ q, q = X.1 47 1 := ⟨_, rfl⟩
  replace h := nm_i h ey1
  refine ww_nmi ey1 ?_
  refine ww_istore_n (pc := 7) hC [(3, .int y1), (0, .ref (w.1 0)), (1, .ref (w.1 a1)), (2, .ref (w.1 a2))] dX11_look_7 rfl (by decide) rfl ?_
  refine ww_iload_n (pc := 8) hC dX11_look_8 0 rfl ?_
  refine ww_if_lt (pc := 9) hC h 30 dX11_look_9 (by decide) (fun h => ?_) (fun h => ?_)
  · refine ww_sub [1, 2, 3] rfl ?_
    exact j30 _ h
  · refine ww_iload_n (pc := 12) hC dX11_look_12 0 rfl ?_
    refine ww_aload_n (pc := 13) hC dX11_look_13 1 rfl ?_
    refine ww_getR (pc := 14) hC 11 1 2 hL.1 RX11 (by decide) (by decide) rfl (lay_11_1 hL).1 qf_X11_19 rfl dX11_look_14 ?_
    refine ww_alen (pc := 17) hC ((6 : Int32)) ((lay_11_1 hL).2) (by decide) (by decide) rfl dX11_look_17 ?_
    refine ww_icmp_ge (pc := 18) hC h 30 dX11_look_18 (by decide) (fun h => ?_) (fun h => ?_)
    · refine ww_sub [1, 2, 3] rfl ?_
      exact j30 _ h
    · refine ww_aload_n (pc := 21) hC dX11_look_21 1 rfl ?_
      refine ww_getR (pc := 22) hC 11 1 2 hL.1 RX11 (by decide) (by decide) rfl (lay_11_1 hL).1 qf_X11_19 rfl dX11_look_22 ?_
      refine ww_iload_n (pc := 25) hC dX11_look_25 0 rfl ?_
      have hin2 := (gin_i h).1
      refine ww_aald (pc := 26) hC (3 + 7 * (y1).toNatClampNeg) ((lay_11_1 hL).2) (by decide) (by decide) h (fun q => (lay_el16 hL q).1) dX11_look_26 (fun h => ?_)
      refine ww_goto (pc := 27) hC 31 dX11_look_27 (by decide) ?_
      refine ww_astore (pc := 31) hC [(4, .ref (w.1 (3 + 7 * (y1).toNatClampNeg))), (3, .int y1), (0, .ref (w.1 0)), (1, .ref (w.1 a1)), (2, .ref (w.1 a2))] dX11_look_31  (by decide) rfl ?_
      refine ww_aload (pc := 33) hC dX11_look_33 0 rfl ?_
      refine ww_ifnonnull (pc := 35) hC 65 dX11_look_35 (by decide) ?_
      refine ww_aload (pc := 65) hC dX11_look_65 0 rfl ?_
      refine ww_aload_n (pc := 67) hC dX11_look_67 3 rfl ?_
      refine ww_aload_n (pc := 68) hC dX11_look_68 4 rfl ?_
      refine ww_aload_n (pc := 69) hC dX11_look_69 2 rfl ?_
      refine ww_getR (pc := 70) hC 11 8 139 hL.1 RX11 (by decide) (by decide) rfl (lay_11_8 hL).1 qf_X11_50 rfl dX11_look_70 ?_
      obtain ⟨_, X_5, h3, h⟩ := bnw_i h
      refine ww_callVv (pc := 73) hC [.ref (w.1 a1), .ref (w.1 a2), .ref (w.1 139)] ((lay_el16 hL hin2).2).1 ((lay_el16 hL hin2).2).2 (by decide) (ceX1_tell hL ((lay_el16 hL hin2).2) h_a1 h_a2 ((lay_11_8 hL).2) h3) ql_X11_318 qi_X1_tell qs_X1_X1_tell qn_X1 qc_X1_tell rfl ⟨by decide, by decide, rfl⟩ rfl ⟨Nat.le_of_ble_eq_true rfl, Nat.le_of_ble_eq_true rfl⟩ (by decide) (rest := []) (Nat.le_of_ble_eq_true rfl) dX11_look_73 ⟨Nat.le_of_ble_eq_true rfl, Nat.le_of_ble_eq_true rfl⟩ rfl ?_
      exact ww_vret (pc := 76) hC hr h dX11_look_76
noncomputable def fV_X4_side (Z : XS) (a0 : Nat) (a1 : Nat) (a2 : Nat) (X : XD) : Option Int32 := if sK Z a0 = 0 then fX0_side Z a0 a1 a2 X else (if sK Z a0 = 2 then fX2_side Z a0 a1 a2 X else (if sK Z a0 = 4 then fX4_side Z a0 a1 a2 X else (if sK Z a0 = 5 then fX5_side Z a0 a1 a2 X else (if sK Z a0 = 7 then fX7_side Z a0 a1 a2 X else (if sK Z a0 = 8 then fX8_side Z a0 a1 a2 X else (fX10_side Z a0 a1 a2 X))))))
set_option maxHeartbeats 4000000 in
theorem vd_X4_side {p : Program} {l : Launch} {e : Env} {R : Room} {s : State} {m : MethodId} {args : Array Value} {below : List Frame} {meth : Method} {c : Code} {nL : Nat} {Q : State → Prop} {E : XE} {w : XW} {cells slots z : Nat} {Z : XS} {pc idx : Nat} {lv : List (Nat × Value)} {rest : List Value} {X : XD} {cc : ByteArray} {own : String} {a0 : Nat} {a1 : Nat} {a2 : Nat} {r : Int32} (h : CX p s m args meth c E cc nL own) (hL : LayC Z) (hk : KS Z a0) (h_a1 : KK Z a1 9) (h_a2 : KK Z a2 6) (hf : fV_X4_side Z a0 a1 a2 X = some r) (w1 : Cond.methodLink own idx yX4_side ∈ xtb) (hR : 4 + 1 ≤ R.frames ∧ 60 * (4 + 1) ≤ R.locals) (hst : (rest.map fun v => v.category).sum ≤ 8) (hd : decode cc pc = .ok (.invokevirtual idx, 3)) (hfz : cells ≤ R.cells ∧ slots ≤ R.slots)
    (kk : WW p l e R s m args below meth c nL Q E w cells slots z Z (pc + 3) lv (.int r :: rest) X) : WW p l e R s m args below meth c nL Q E w cells slots z Z pc lv (.ref (w.1 a2) :: .ref (w.1 a1) :: .ref (w.1 a0) :: rest) X := by
  obtain ⟨hn, hs⟩ := id hk
  unfold fV_X4_side at hf
  unfold isSh at hs
  rcases hs with e1 | e1 | e1 | e1 | e1 | e1 | e1
  · rw [if_pos e1] at hf; exact ww_callOi h [.ref (w.1 a1), .ref (w.1 a2)] hn e1 (by decide) (ceX0_side hL hk h_a1 h_a2 hf) w1 qm_X4_X4_side qi_X4_side qc_X4_side qs_X0_X4_side qi_X0_side qn_X0 qc_X0_side ⟨by decide, by decide, rfl⟩ rfl ⟨Nat.le_trans (by decide) hR.1, Nat.le_trans (by decide) hR.2⟩ (by decide) hst hd hfz rfl kk
  · rw [if_neg (by rw [e1]; decide)] at hf; rw [if_pos e1] at hf; exact ww_callOi h [.ref (w.1 a1), .ref (w.1 a2)] hn e1 (by decide) (ceX2_side hL hk h_a1 h_a2 hf) w1 qm_X4_X4_side qi_X4_side qc_X4_side qs_X2_X4_side qi_X2_side qn_X2 qc_X2_side ⟨by decide, by decide, rfl⟩ rfl ⟨Nat.le_trans (by decide) hR.1, Nat.le_trans (by decide) hR.2⟩ (by decide) hst hd hfz rfl kk
  · rw [if_neg (by rw [e1]; decide)] at hf; rw [if_neg (by rw [e1]; decide)] at hf; rw [if_pos e1] at hf; exact ww_callOi h [.ref (w.1 a1), .ref (w.1 a2)] hn e1 (by decide) (ceX4_side hL hk h_a1 h_a2 hf) w1 qm_X4_X4_side qi_X4_side qc_X4_side qs_X4_X4_side qi_X4_side qn_X4 qc_X4_side ⟨by decide, by decide, rfl⟩ rfl ⟨Nat.le_trans (by decide) hR.1, Nat.le_trans (by decide) hR.2⟩ (by decide) hst hd hfz rfl kk
  · rw [if_neg (by rw [e1]; decide)] at hf; rw [if_neg (by rw [e1]; decide)] at hf; rw [if_neg (by rw [e1]; decide)] at hf; rw [if_pos e1] at hf; exact ww_callOi h [.ref (w.1 a1), .ref (w.1 a2)] hn e1 (by decide) (ceX5_side hL hk h_a1 h_a2 hf) w1 qm_X4_X4_side qi_X4_side qc_X4_side qs_X5_X4_side qi_X5_side qn_X5 qc_X5_side ⟨by decide, by decide, rfl⟩ rfl ⟨Nat.le_trans (by decide) hR.1, Nat.le_trans (by decide) hR.2⟩ (by decide) hst hd hfz rfl kk
  · rw [if_neg (by rw [e1]; decide)] at hf; rw [if_neg (by rw [e1]; decide)] at hf; rw [if_neg (by rw [e1]; decide)] at hf; rw [if_neg (by rw [e1]; decide)] at hf; rw [if_pos e1] at hf; exact ww_callOi h [.ref (w.1 a1), .ref (w.1 a2)] hn e1 (by decide) (ceX7_side hL hk h_a1 h_a2 hf) w1 qm_X4_X4_side qi_X4_side qc_X4_side qs_X7_X4_side qi_X7_side qn_X7 qc_X7_side ⟨by decide, by decide, rfl⟩ rfl ⟨Nat.le_trans (by decide) hR.1, Nat.le_trans (by decide) hR.2⟩ (by decide) hst hd hfz rfl kk
  · rw [if_neg (by rw [e1]; decide)] at hf; rw [if_neg (by rw [e1]; decide)] at hf; rw [if_neg (by rw [e1]; decide)] at hf; rw [if_neg (by rw [e1]; decide)] at hf; rw [if_neg (by rw [e1]; decide)] at hf; rw [if_pos e1] at hf; exact ww_callOi h [.ref (w.1 a1), .ref (w.1 a2)] hn e1 (by decide) (ceX8_side hL hk h_a1 h_a2 hf) w1 qm_X4_X4_side qi_X4_side qc_X4_side qs_X8_X4_side qi_X8_side qn_X8 qc_X8_side ⟨by decide, by decide, rfl⟩ rfl ⟨Nat.le_trans (by decide) hR.1, Nat.le_trans (by decide) hR.2⟩ (by decide) hst hd hfz rfl kk
  · rw [if_neg (by rw [e1]; decide)] at hf; rw [if_neg (by rw [e1]; decide)] at hf; rw [if_neg (by rw [e1]; decide)] at hf; rw [if_neg (by rw [e1]; decide)] at hf; rw [if_neg (by rw [e1]; decide)] at hf; rw [if_neg (by rw [e1]; decide)] at hf; exact ww_callOi h [.ref (w.1 a1), .ref (w.1 a2)] hn e1 (by decide) (ceX10_side hL hk h_a1 h_a2 hf) w1 qm_X4_X4_side qi_X4_side qc_X4_side qs_X10_X4_side qi_X10_side qn_X10 qc_X10_side ⟨by decide, by decide, rfl⟩ rfl ⟨Nat.le_trans (by decide) hR.1, Nat.le_trans (by decide) hR.2⟩ (by decide) hst hd hfz rfl kk
noncomputable def fX11_seenOf (Z : XS) (a1 : Nat) (x2 : Int32) (X : XD) : Option Int32 := if x2 = (5 : Int32) then bnd (fV_X4_side Z a1 139 47 X) (fun r3 => some r3) else (if x2 = (6 : Int32) then some (X.1 139 2) else (if x2 = (7 : Int32) then some ((-1 : Int32)) else (if x2 = (8 : Int32) then some ((-1 : Int32)) else (if x2 = (9 : Int32) then some ((-1 : Int32)) else (if x2 = (10 : Int32) then bnd (fX9_sureOf Z 139 (x2 - ((10 : Int32))) X) (fun r10 => some r10) else (if x2 = (11 : Int32) then bnd (fX9_sureOf Z 139 (x2 - ((10 : Int32))) X) (fun r13 => some r13) else (if x2 = (12 : Int32) then bnd (fX9_sureOf Z 139 (x2 - ((10 : Int32))) X) (fun r16 => some r16) else (if x2 = (13 : Int32) then some ((-1 : Int32)) else (if x2 = (14 : Int32) then some ((-1 : Int32)) else (if x2 = (15 : Int32) then some ((-1 : Int32)) else (if x2 = (16 : Int32) then some ((-1 : Int32)) else (if x2 = (17 : Int32) then some ((-1 : Int32)) else (if x2 = (18 : Int32) then some ((-1 : Int32)) else (if x2 = (19 : Int32) then some ((-1 : Int32)) else (if x2 = (20 : Int32) then bnd (fX9_savesOf Z 139 (x2 - ((20 : Int32))) X) (fun r26 => some r26) else (if x2 = (21 : Int32) then bnd (fX9_savesOf Z 139 (x2 - ((20 : Int32))) X) (fun r29 => some r29) else (if x2 = (22 : Int32) then bnd (fX9_savesOf Z 139 (x2 - ((20 : Int32))) X) (fun r32 => some r32) else (some ((-1 : Int32))))))))))))))))))))
set_option maxHeartbeats 40000000 in
set_option maxRecDepth 100000 in
theorem ceX11_seenOf {l : Launch} {E : XE} {w : XW} {z : Nat} {Z : XS}  (hL : LayC Z) {a1 : Nat} (h_a1 : KS Z a1) {x2 : Int32} {X : XD} {r : Int32} (h : fX11_seenOf Z a1 x2 X = some r) : Ct l E w yX11_seenOf (wsM yX11_seenOf cX11_seenOf 3 (some .int)) (rmX 5 0 0) 0 0 [.ref (w.1 0), .ref (w.1 a1), .int x2] z z Z Z X X (some (.int r)) := by
  refine ct_of (by decide) (Nat.le_of_ble_eq_true rfl) ?_
  intro p e s m args below meth c hC hr hin hav
  unfold fX11_seenOf at h
  refine ww_lv (lv' := [(0, .ref (w.1 0)), (1, .ref (w.1 a1)), (2, .int x2)]) rfl ?_
  refine ww_iload_n (pc := 0) hC dX11_seenOf_0 2 rfl ?_
  rcases Classical.em (x2 = (5 : Int32)) with q1 | q1
  · replace h := ite_t h q1
    refine ww_tableIn (pc := 1) hC 88 dX11_seenOf_1 (5 : Int32) q1 (by decide) (by decide) rfl (by decide) ?_
    refine ww_aload_n (pc := 88) hC dX11_seenOf_88 1 rfl ?_
    refine ww_aload_n (pc := 89) hC dX11_seenOf_89 0 rfl ?_
    refine ww_getR (pc := 90) hC 11 8 139 hL.1 RX11 (by decide) (by decide) rfl (lay_11_8 hL).1 qf_X11_50 rfl dX11_seenOf_90 ?_
    refine ww_aload_n (pc := 93) hC dX11_seenOf_93 0 rfl ?_
    refine ww_getR (pc := 94) hC 11 4 47 hL.1 RX11 (by decide) (by decide) rfl (lay_11_4 hL).1 qf_X11_36 rfl dX11_seenOf_94 ?_
    obtain ⟨r3, h2, h⟩ := bnd_i h
    refine vd_X4_side (pc := 97) hC hL h_a1 ((lay_11_8 hL).2) ((lay_11_4 hL).2) h2 ql_X11_173 ⟨Nat.le_of_ble_eq_true rfl, Nat.le_of_ble_eq_true rfl⟩ (Nat.le_of_ble_eq_true rfl) dX11_seenOf_97 ⟨Nat.le_of_ble_eq_true rfl, Nat.le_of_ble_eq_true rfl⟩ ?_
    exact ww_iret (pc := 100) hC hr (ret_r h) dX11_seenOf_100
  replace h := ite_f h q1
  rcases Classical.em (x2 = (6 : Int32)) with q4 | q4
  · replace h := ite_t h q4
    refine ww_tableIn (pc := 1) hC 101 dX11_seenOf_1 (6 : Int32) q4 (by decide) (by decide) rfl (by decide) ?_
    refine ww_aload_n (pc := 101) hC dX11_seenOf_101 0 rfl ?_
    refine ww_getR (pc := 102) hC 11 8 139 hL.1 RX11 (by decide) (by decide) rfl (lay_11_8 hL).1 qf_X11_50 rfl dX11_seenOf_102 ?_
    refine ww_getI (pc := 105) hC 9 2 ((lay_11_8 hL).2) RX9 (by decide) (by decide) rfl qf_X11_177 (Or.inl rfl) dX11_seenOf_105 ?_
    exact ww_iret (pc := 108) hC hr (ret_r h) dX11_seenOf_108
  replace h := ite_f h q4
  rcases Classical.em (x2 = (7 : Int32)) with q5 | q5
  · replace h := ite_t h q5
    refine ww_tableIn (pc := 1) hC 133 dX11_seenOf_1 (7 : Int32) q5 (by decide) (by decide) rfl (by decide) ?_
    refine ww_iconst (pc := 133) hC (v := (-1 : Int32)) dX11_seenOf_133 (by decide) ?_
    exact ww_iret (pc := 134) hC hr (ret_r h) dX11_seenOf_134
  replace h := ite_f h q5
  rcases Classical.em (x2 = (8 : Int32)) with q6 | q6
  · replace h := ite_t h q6
    refine ww_tableIn (pc := 1) hC 133 dX11_seenOf_1 (8 : Int32) q6 (by decide) (by decide) rfl (by decide) ?_
    refine ww_iconst (pc := 133) hC (v := (-1 : Int32)) dX11_seenOf_133 (by decide) ?_
    exact ww_iret (pc := 134) hC hr (ret_r h) dX11_seenOf_134
  replace h := ite_f h q6
  rcases Classical.em (x2 = (9 : Int32)) with q7 | q7
  · replace h := ite_t h q7
    refine ww_tableIn (pc := 1) hC 133 dX11_seenOf_1 (9 : Int32) q7 (by decide) (by decide) rfl (by decide) ?_
    refine ww_iconst (pc := 133) hC (v := (-1 : Int32)) dX11_seenOf_133 (by decide) ?_
    exact ww_iret (pc := 134) hC hr (ret_r h) dX11_seenOf_134
  replace h := ite_f h q7
  rcases Classical.em (x2 = (10 : Int32)) with q8 | q8
  · replace h := ite_t h q8
    refine ww_tableIn (pc := 1) hC 109 dX11_seenOf_1 (10 : Int32) q8 (by decide) (by decide) rfl (by decide) ?_
    refine ww_aload_n (pc := 109) hC dX11_seenOf_109 0 rfl ?_
    refine ww_getR (pc := 110) hC 11 8 139 hL.1 RX11 (by decide) (by decide) rfl (lay_11_8 hL).1 qf_X11_50 rfl dX11_seenOf_110 ?_
    refine ww_iload_n (pc := 113) hC dX11_seenOf_113 2 rfl ?_
    refine ww_bipush (pc := 114) hC (v := (10 : Int32)) dX11_seenOf_114 (by decide) ?_
    refine ww_isub (pc := 116) hC dX11_seenOf_116 ?_
    obtain ⟨r10, h9, h⟩ := bnd_i h
    refine ww_callVi (pc := 117) hC [.int (x2 - ((10 : Int32)))] ((lay_11_8 hL).2).1 ((lay_11_8 hL).2).2 (by decide) (ceX9_sureOf hL ((lay_11_8 hL).2) h9) ql_X11_322 qi_X9_sureOf qs_X9_X9_sureOf qn_X9 qc_X9_sureOf rfl ⟨by decide, by decide, rfl⟩ rfl ⟨Nat.le_of_ble_eq_true rfl, Nat.le_of_ble_eq_true rfl⟩ (by decide) (rest := []) (Nat.le_of_ble_eq_true rfl) dX11_seenOf_117 ⟨Nat.le_of_ble_eq_true rfl, Nat.le_of_ble_eq_true rfl⟩ rfl ?_
    exact ww_iret (pc := 120) hC hr (ret_r h) dX11_seenOf_120
  replace h := ite_f h q8
  rcases Classical.em (x2 = (11 : Int32)) with q11 | q11
  · replace h := ite_t h q11
    refine ww_tableIn (pc := 1) hC 109 dX11_seenOf_1 (11 : Int32) q11 (by decide) (by decide) rfl (by decide) ?_
    refine ww_aload_n (pc := 109) hC dX11_seenOf_109 0 rfl ?_
    refine ww_getR (pc := 110) hC 11 8 139 hL.1 RX11 (by decide) (by decide) rfl (lay_11_8 hL).1 qf_X11_50 rfl dX11_seenOf_110 ?_
    refine ww_iload_n (pc := 113) hC dX11_seenOf_113 2 rfl ?_
    refine ww_bipush (pc := 114) hC (v := (10 : Int32)) dX11_seenOf_114 (by decide) ?_
    refine ww_isub (pc := 116) hC dX11_seenOf_116 ?_
    obtain ⟨r13, h12, h⟩ := bnd_i h
    refine ww_callVi (pc := 117) hC [.int (x2 - ((10 : Int32)))] ((lay_11_8 hL).2).1 ((lay_11_8 hL).2).2 (by decide) (ceX9_sureOf hL ((lay_11_8 hL).2) h12) ql_X11_322 qi_X9_sureOf qs_X9_X9_sureOf qn_X9 qc_X9_sureOf rfl ⟨by decide, by decide, rfl⟩ rfl ⟨Nat.le_of_ble_eq_true rfl, Nat.le_of_ble_eq_true rfl⟩ (by decide) (rest := []) (Nat.le_of_ble_eq_true rfl) dX11_seenOf_117 ⟨Nat.le_of_ble_eq_true rfl, Nat.le_of_ble_eq_true rfl⟩ rfl ?_
    exact ww_iret (pc := 120) hC hr (ret_r h) dX11_seenOf_120
  replace h := ite_f h q11
  rcases Classical.em (x2 = (12 : Int32)) with q14 | q14
  · replace h := ite_t h q14
    refine ww_tableIn (pc := 1) hC 109 dX11_seenOf_1 (12 : Int32) q14 (by decide) (by decide) rfl (by decide) ?_
    refine ww_aload_n (pc := 109) hC dX11_seenOf_109 0 rfl ?_
    refine ww_getR (pc := 110) hC 11 8 139 hL.1 RX11 (by decide) (by decide) rfl (lay_11_8 hL).1 qf_X11_50 rfl dX11_seenOf_110 ?_
    refine ww_iload_n (pc := 113) hC dX11_seenOf_113 2 rfl ?_
    refine ww_bipush (pc := 114) hC (v := (10 : Int32)) dX11_seenOf_114 (by decide) ?_
    refine ww_isub (pc := 116) hC dX11_seenOf_116 ?_
    obtain ⟨r16, h15, h⟩ := bnd_i h
    refine ww_callVi (pc := 117) hC [.int (x2 - ((10 : Int32)))] ((lay_11_8 hL).2).1 ((lay_11_8 hL).2).2 (by decide) (ceX9_sureOf hL ((lay_11_8 hL).2) h15) ql_X11_322 qi_X9_sureOf qs_X9_X9_sureOf qn_X9 qc_X9_sureOf rfl ⟨by decide, by decide, rfl⟩ rfl ⟨Nat.le_of_ble_eq_true rfl, Nat.le_of_ble_eq_true rfl⟩ (by decide) (rest := []) (Nat.le_of_ble_eq_true rfl) dX11_seenOf_117 ⟨Nat.le_of_ble_eq_true rfl, Nat.le_of_ble_eq_true rfl⟩ rfl ?_
    exact ww_iret (pc := 120) hC hr (ret_r h) dX11_seenOf_120
  replace h := ite_f h q14
  rcases Classical.em (x2 = (13 : Int32)) with q17 | q17
  · replace h := ite_t h q17
    refine ww_tableIn (pc := 1) hC 133 dX11_seenOf_1 (13 : Int32) q17 (by decide) (by decide) rfl (by decide) ?_
    refine ww_iconst (pc := 133) hC (v := (-1 : Int32)) dX11_seenOf_133 (by decide) ?_
    exact ww_iret (pc := 134) hC hr (ret_r h) dX11_seenOf_134
  replace h := ite_f h q17
  rcases Classical.em (x2 = (14 : Int32)) with q18 | q18
  · replace h := ite_t h q18
    refine ww_tableIn (pc := 1) hC 133 dX11_seenOf_1 (14 : Int32) q18 (by decide) (by decide) rfl (by decide) ?_
    refine ww_iconst (pc := 133) hC (v := (-1 : Int32)) dX11_seenOf_133 (by decide) ?_
    exact ww_iret (pc := 134) hC hr (ret_r h) dX11_seenOf_134
  replace h := ite_f h q18
  rcases Classical.em (x2 = (15 : Int32)) with q19 | q19
  · replace h := ite_t h q19
    refine ww_tableIn (pc := 1) hC 133 dX11_seenOf_1 (15 : Int32) q19 (by decide) (by decide) rfl (by decide) ?_
    refine ww_iconst (pc := 133) hC (v := (-1 : Int32)) dX11_seenOf_133 (by decide) ?_
    exact ww_iret (pc := 134) hC hr (ret_r h) dX11_seenOf_134
  replace h := ite_f h q19
  rcases Classical.em (x2 = (16 : Int32)) with q20 | q20
  · replace h := ite_t h q20
    refine ww_tableIn (pc := 1) hC 133 dX11_seenOf_1 (16 : Int32) q20 (by decide) (by decide) rfl (by decide) ?_
    refine ww_iconst (pc := 133) hC (v := (-1 : Int32)) dX11_seenOf_133 (by decide) ?_
    exact ww_iret (pc := 134) hC hr (ret_r h) dX11_seenOf_134
  replace h := ite_f h q20
  rcases Classical.em (x2 = (17 : Int32)) with q21 | q21
  · replace h := ite_t h q21
    refine ww_tableIn (pc := 1) hC 133 dX11_seenOf_1 (17 : Int32) q21 (by decide) (by decide) rfl (by decide) ?_
    refine ww_iconst (pc := 133) hC (v := (-1 : Int32)) dX11_seenOf_133 (by decide) ?_
    exact ww_iret (pc := 134) hC hr (ret_r h) dX11_seenOf_134
  replace h := ite_f h q21
  rcases Classical.em (x2 = (18 : Int32)) with q22 | q22
  · replace h := ite_t h q22
    refine ww_tableIn (pc := 1) hC 133 dX11_seenOf_1 (18 : Int32) q22 (by decide) (by decide) rfl (by decide) ?_
    refine ww_iconst (pc := 133) hC (v := (-1 : Int32)) dX11_seenOf_133 (by decide) ?_
    exact ww_iret (pc := 134) hC hr (ret_r h) dX11_seenOf_134
  replace h := ite_f h q22
  rcases Classical.em (x2 = (19 : Int32)) with q23 | q23
  · replace h := ite_t h q23
    refine ww_tableIn (pc := 1) hC 133 dX11_seenOf_1 (19 : Int32) q23 (by decide) (by decide) rfl (by decide) ?_
    refine ww_iconst (pc := 133) hC (v := (-1 : Int32)) dX11_seenOf_133 (by decide) ?_
    exact ww_iret (pc := 134) hC hr (ret_r h) dX11_seenOf_134
  replace h := ite_f h q23
  rcases Classical.em (x2 = (20 : Int32)) with q24 | q24
  · replace h := ite_t h q24
    refine ww_tableIn (pc := 1) hC 121 dX11_seenOf_1 (20 : Int32) q24 (by decide) (by decide) rfl (by decide) ?_
    refine ww_aload_n (pc := 121) hC dX11_seenOf_121 0 rfl ?_
    refine ww_getR (pc := 122) hC 11 8 139 hL.1 RX11 (by decide) (by decide) rfl (lay_11_8 hL).1 qf_X11_50 rfl dX11_seenOf_122 ?_
    refine ww_iload_n (pc := 125) hC dX11_seenOf_125 2 rfl ?_
    refine ww_bipush (pc := 126) hC (v := (20 : Int32)) dX11_seenOf_126 (by decide) ?_
    refine ww_isub (pc := 128) hC dX11_seenOf_128 ?_
    obtain ⟨r26, h25, h⟩ := bnd_i h
    refine ww_callVi (pc := 129) hC [.int (x2 - ((20 : Int32)))] ((lay_11_8 hL).2).1 ((lay_11_8 hL).2).2 (by decide) (ceX9_savesOf hL ((lay_11_8 hL).2) h25) ql_X11_325 qi_X9_savesOf qs_X9_X9_savesOf qn_X9 qc_X9_savesOf rfl ⟨by decide, by decide, rfl⟩ rfl ⟨Nat.le_of_ble_eq_true rfl, Nat.le_of_ble_eq_true rfl⟩ (by decide) (rest := []) (Nat.le_of_ble_eq_true rfl) dX11_seenOf_129 ⟨Nat.le_of_ble_eq_true rfl, Nat.le_of_ble_eq_true rfl⟩ rfl ?_
    exact ww_iret (pc := 132) hC hr (ret_r h) dX11_seenOf_132
  replace h := ite_f h q24
  rcases Classical.em (x2 = (21 : Int32)) with q27 | q27
  · replace h := ite_t h q27
    refine ww_tableIn (pc := 1) hC 121 dX11_seenOf_1 (21 : Int32) q27 (by decide) (by decide) rfl (by decide) ?_
    refine ww_aload_n (pc := 121) hC dX11_seenOf_121 0 rfl ?_
    refine ww_getR (pc := 122) hC 11 8 139 hL.1 RX11 (by decide) (by decide) rfl (lay_11_8 hL).1 qf_X11_50 rfl dX11_seenOf_122 ?_
    refine ww_iload_n (pc := 125) hC dX11_seenOf_125 2 rfl ?_
    refine ww_bipush (pc := 126) hC (v := (20 : Int32)) dX11_seenOf_126 (by decide) ?_
    refine ww_isub (pc := 128) hC dX11_seenOf_128 ?_
    obtain ⟨r29, h28, h⟩ := bnd_i h
    refine ww_callVi (pc := 129) hC [.int (x2 - ((20 : Int32)))] ((lay_11_8 hL).2).1 ((lay_11_8 hL).2).2 (by decide) (ceX9_savesOf hL ((lay_11_8 hL).2) h28) ql_X11_325 qi_X9_savesOf qs_X9_X9_savesOf qn_X9 qc_X9_savesOf rfl ⟨by decide, by decide, rfl⟩ rfl ⟨Nat.le_of_ble_eq_true rfl, Nat.le_of_ble_eq_true rfl⟩ (by decide) (rest := []) (Nat.le_of_ble_eq_true rfl) dX11_seenOf_129 ⟨Nat.le_of_ble_eq_true rfl, Nat.le_of_ble_eq_true rfl⟩ rfl ?_
    exact ww_iret (pc := 132) hC hr (ret_r h) dX11_seenOf_132
  replace h := ite_f h q27
  rcases Classical.em (x2 = (22 : Int32)) with q30 | q30
  · replace h := ite_t h q30
    refine ww_tableIn (pc := 1) hC 121 dX11_seenOf_1 (22 : Int32) q30 (by decide) (by decide) rfl (by decide) ?_
    refine ww_aload_n (pc := 121) hC dX11_seenOf_121 0 rfl ?_
    refine ww_getR (pc := 122) hC 11 8 139 hL.1 RX11 (by decide) (by decide) rfl (lay_11_8 hL).1 qf_X11_50 rfl dX11_seenOf_122 ?_
    refine ww_iload_n (pc := 125) hC dX11_seenOf_125 2 rfl ?_
    refine ww_bipush (pc := 126) hC (v := (20 : Int32)) dX11_seenOf_126 (by decide) ?_
    refine ww_isub (pc := 128) hC dX11_seenOf_128 ?_
    obtain ⟨r32, h31, h⟩ := bnd_i h
    refine ww_callVi (pc := 129) hC [.int (x2 - ((20 : Int32)))] ((lay_11_8 hL).2).1 ((lay_11_8 hL).2).2 (by decide) (ceX9_savesOf hL ((lay_11_8 hL).2) h31) ql_X11_325 qi_X9_savesOf qs_X9_X9_savesOf qn_X9 qc_X9_savesOf rfl ⟨by decide, by decide, rfl⟩ rfl ⟨Nat.le_of_ble_eq_true rfl, Nat.le_of_ble_eq_true rfl⟩ (by decide) (rest := []) (Nat.le_of_ble_eq_true rfl) dX11_seenOf_129 ⟨Nat.le_of_ble_eq_true rfl, Nat.le_of_ble_eq_true rfl⟩ rfl ?_
    exact ww_iret (pc := 132) hC hr (ret_r h) dX11_seenOf_132
  replace h := ite_f h q30
  refine ww_tableOut (pc := 1) hC 133 dX11_seenOf_1 (sw_out (fun k h1 h2 => by rcases (show k = 5 ∨ k = 6 ∨ k = 7 ∨ k = 8 ∨ k = 9 ∨ k = 10 ∨ k = 11 ∨ k = 12 ∨ k = 13 ∨ k = 14 ∨ k = 15 ∨ k = 16 ∨ k = 17 ∨ k = 18 ∨ k = 19 ∨ k = 20 ∨ k = 21 ∨ k = 22 by omega) with rfl | rfl | rfl | rfl | rfl | rfl | rfl | rfl | rfl | rfl | rfl | rfl | rfl | rfl | rfl | rfl | rfl | rfl; exact q1; exact q4; exact q5; exact q6; exact q7; exact q8; exact q11; exact q14; exact q17; exact q18; exact q19; exact q20; exact q21; exact q22; exact q23; exact q24; exact q27; exact q30)) (by decide) ?_
  refine ww_iconst (pc := 133) hC (v := (-1 : Int32)) dX11_seenOf_133 (by decide) ?_
  exact ww_iret (pc := 134) hC hr (ret_r h) dX11_seenOf_134
noncomputable def fX11_of (Z : XS) (x1 : Int32) (x2 : Int32) (X : XD) : Option (Int32 × XD) := bnd (fX11_find Z x1 X) (fun r2 => mto r2 (some ((-1 : Int32), X)) (fun t3 => if x2 = (0 : Int32) then bnd (fV_X4_kind Z t3 X) (fun r6 => some (r6, X)) else (if x2 = (1 : Int32) then some (X.1 t3 1, X) else (if x2 = (2 : Int32) then bnd (fX6_lastOf Z 47 x1 X) (fun r10 => some (r10, X)) else (if x2 = (3 : Int32) then bnd (fX6_shotsOf Z 47 x1 X) (fun r13 => some (r13, X)) else (if x2 = (4 : Int32) then bnd (fX6_goalsOf Z 47 x1 X) (fun r16 => some (r16, X)) else (bnw (fX11_look Z 47 t3 X) (fun _ X_19 => bnd (fX11_seenOf Z t3 x2 X_19) (fun r21 => some (r21, X_19))))))))))
set_option maxHeartbeats 40000000 in
set_option maxRecDepth 100000 in
theorem ceX11_of {l : Launch} {E : XE} {w : XW} {z : Nat} {Z : XS}  (hL : LayC Z) {x1 : Int32} {x2 : Int32} {X X1 : XD} {r : Int32} (h : fX11_of Z x1 x2 X = some (r, X1)) : Ct l E w yX11_of (wsM yX11_of cX11_of 4 (some .int)) (rmX 6 0 0) 0 0 [.ref (w.1 0), .int x1, .int x2] z z Z Z X X1 (some (.int r)) := by
  refine ct_of (by decide) (Nat.le_of_ble_eq_true rfl) ?_
  intro p e s m args below meth c hC hr hin hav
  unfold fX11_of at h
  refine ww_lv (lv' := [(0, .ref (w.1 0)), (1, .int x1), (2, .int x2)]) rfl ?_
  refine ww_aload_n (pc := 0) hC dX11_of_0 0 rfl ?_
  refine ww_iload_n (pc := 1) hC dX11_of_1 1 rfl ?_
  obtain ⟨r2, h1, h⟩ := bnd_i h
  rcases r2 with _ | t3
  · replace h := mto_n h
    refine ww_callVn (pc := 2) hC [.int x1] hL.1.1 hL.1.2 (by decide) (ceX11_find hL h1) ql_X11_95 qi_X11_find qs_X11_X11_find qn_X11 qc_X11_find rfl ⟨by decide, by decide, rfl⟩ rfl ⟨Nat.le_of_ble_eq_true rfl, Nat.le_of_ble_eq_true rfl⟩ (by decide) (rest := []) (Nat.le_of_ble_eq_true rfl) dX11_of_2 ⟨Nat.le_of_ble_eq_true rfl, Nat.le_of_ble_eq_true rfl⟩ rfl ?_
    refine ww_astore_nN (pc := 5) hC [(3, .null), (0, .ref (w.1 0)), (1, .int x1), (2, .int x2)] dX11_of_5 rfl (by decide) rfl ?_
    refine ww_aload_nN (pc := 6) hC dX11_of_6 0 rfl ?_
    refine ww_ifnonnullN (pc := 7) hC dX11_of_7 ?_
    refine ww_iconst (pc := 10) hC (v := (-1 : Int32)) dX11_of_10 (by decide) ?_
    exact ww_iret (pc := 11) hC hr h dX11_of_11
  · replace h := mto_s h
    have hkt3 : KS Z t3 := ks_find hL h1
    refine ww_callVr (pc := 2) hC [.int x1] hL.1.1 hL.1.2 (by decide) (ceX11_find hL h1) ql_X11_95 qi_X11_find qs_X11_X11_find qn_X11 qc_X11_find rfl ⟨by decide, by decide, rfl⟩ rfl ⟨Nat.le_of_ble_eq_true rfl, Nat.le_of_ble_eq_true rfl⟩ (by decide) (rest := []) (Nat.le_of_ble_eq_true rfl) dX11_of_2 ⟨Nat.le_of_ble_eq_true rfl, Nat.le_of_ble_eq_true rfl⟩ rfl ?_
    refine ww_astore_n (pc := 5) hC [(3, .ref (w.1 t3)), (0, .ref (w.1 0)), (1, .int x1), (2, .int x2)] dX11_of_5 rfl (by decide) rfl ?_
    refine ww_aload_n (pc := 6) hC dX11_of_6 0 rfl ?_
    refine ww_ifnonnull (pc := 7) hC 12 dX11_of_7 (by decide) ?_
    refine ww_iload_n (pc := 12) hC dX11_of_12 3 rfl ?_
    rcases Classical.em (x2 = (0 : Int32)) with q4 | q4
    · replace h := ite_t h q4
      refine ww_tableIn (pc := 13) hC 48 dX11_of_13 (0 : Int32) q4 (by decide) (by decide) rfl (by decide) ?_
      refine ww_aload_n (pc := 48) hC dX11_of_48 0 rfl ?_
      obtain ⟨r6, h5, h⟩ := bnd_i h
      refine vd_X4_kind (pc := 49) hC hL hkt3 h5 ql_X11_99 ⟨Nat.le_of_ble_eq_true rfl, Nat.le_of_ble_eq_true rfl⟩ (Nat.le_of_ble_eq_true rfl) dX11_of_49 ⟨Nat.le_of_ble_eq_true rfl, Nat.le_of_ble_eq_true rfl⟩ ?_
      exact ww_iret (pc := 52) hC hr h dX11_of_52
    replace h := ite_f h q4
    rcases Classical.em (x2 = (1 : Int32)) with q7 | q7
    · replace h := ite_t h q7
      refine ww_tableIn (pc := 13) hC 53 dX11_of_13 (1 : Int32) q7 (by decide) (by decide) rfl (by decide) ?_
      refine ww_aload_n (pc := 53) hC dX11_of_53 0 rfl ?_
      refine ww_getS (pc := 54) hC 1 (by decide) hkt3 RX4 "v" rfl qf_X11_103 (Or.inl rfl) dX11_of_54 ?_
      exact ww_iret (pc := 57) hC hr h dX11_of_57
    replace h := ite_f h q7
    rcases Classical.em (x2 = (2 : Int32)) with q8 | q8
    · replace h := ite_t h q8
      refine ww_tableIn (pc := 13) hC 58 dX11_of_13 (2 : Int32) q8 (by decide) (by decide) rfl (by decide) ?_
      refine ww_aload_n (pc := 58) hC dX11_of_58 1 rfl ?_
      refine ww_getR (pc := 59) hC 11 4 47 hL.1 RX11 (by decide) (by decide) rfl (lay_11_4 hL).1 qf_X11_36 rfl dX11_of_59 ?_
      refine ww_iload_n (pc := 62) hC dX11_of_62 2 rfl ?_
      obtain ⟨r10, h9, h⟩ := bnd_i h
      refine ww_callVi (pc := 63) hC [.int x1] ((lay_11_4 hL).2).1 ((lay_11_4 hL).2).2 (by decide) (ceX6_lastOf hL ((lay_11_4 hL).2) h9) ql_X11_106 qi_X6_lastOf qs_X6_X6_lastOf qn_X6 qc_X6_lastOf rfl ⟨by decide, by decide, rfl⟩ rfl ⟨Nat.le_of_ble_eq_true rfl, Nat.le_of_ble_eq_true rfl⟩ (by decide) (rest := []) (Nat.le_of_ble_eq_true rfl) dX11_of_63 ⟨Nat.le_of_ble_eq_true rfl, Nat.le_of_ble_eq_true rfl⟩ rfl ?_
      exact ww_iret (pc := 66) hC hr h dX11_of_66
    replace h := ite_f h q8
    rcases Classical.em (x2 = (3 : Int32)) with q11 | q11
    · replace h := ite_t h q11
      refine ww_tableIn (pc := 13) hC 67 dX11_of_13 (3 : Int32) q11 (by decide) (by decide) rfl (by decide) ?_
      refine ww_aload_n (pc := 67) hC dX11_of_67 1 rfl ?_
      refine ww_getR (pc := 68) hC 11 4 47 hL.1 RX11 (by decide) (by decide) rfl (lay_11_4 hL).1 qf_X11_36 rfl dX11_of_68 ?_
      refine ww_iload_n (pc := 71) hC dX11_of_71 2 rfl ?_
      obtain ⟨r13, h12, h⟩ := bnd_i h
      refine ww_callVi (pc := 72) hC [.int x1] ((lay_11_4 hL).2).1 ((lay_11_4 hL).2).2 (by decide) (ceX6_shotsOf hL ((lay_11_4 hL).2) h12) ql_X11_110 qi_X6_shotsOf qs_X6_X6_shotsOf qn_X6 qc_X6_shotsOf rfl ⟨by decide, by decide, rfl⟩ rfl ⟨Nat.le_of_ble_eq_true rfl, Nat.le_of_ble_eq_true rfl⟩ (by decide) (rest := []) (Nat.le_of_ble_eq_true rfl) dX11_of_72 ⟨Nat.le_of_ble_eq_true rfl, Nat.le_of_ble_eq_true rfl⟩ rfl ?_
      exact ww_iret (pc := 75) hC hr h dX11_of_75
    replace h := ite_f h q11
    rcases Classical.em (x2 = (4 : Int32)) with q14 | q14
    · replace h := ite_t h q14
      refine ww_tableIn (pc := 13) hC 76 dX11_of_13 (4 : Int32) q14 (by decide) (by decide) rfl (by decide) ?_
      refine ww_aload_n (pc := 76) hC dX11_of_76 1 rfl ?_
      refine ww_getR (pc := 77) hC 11 4 47 hL.1 RX11 (by decide) (by decide) rfl (lay_11_4 hL).1 qf_X11_36 rfl dX11_of_77 ?_
      refine ww_iload_n (pc := 80) hC dX11_of_80 2 rfl ?_
      obtain ⟨r16, h15, h⟩ := bnd_i h
      refine ww_callVi (pc := 81) hC [.int x1] ((lay_11_4 hL).2).1 ((lay_11_4 hL).2).2 (by decide) (ceX6_goalsOf hL ((lay_11_4 hL).2) h15) ql_X11_113 qi_X6_goalsOf qs_X6_X6_goalsOf qn_X6 qc_X6_goalsOf rfl ⟨by decide, by decide, rfl⟩ rfl ⟨Nat.le_of_ble_eq_true rfl, Nat.le_of_ble_eq_true rfl⟩ (by decide) (rest := []) (Nat.le_of_ble_eq_true rfl) dX11_of_81 ⟨Nat.le_of_ble_eq_true rfl, Nat.le_of_ble_eq_true rfl⟩ rfl ?_
      exact ww_iret (pc := 84) hC hr h dX11_of_84
    replace h := ite_f h q14
    refine ww_tableOut (pc := 13) hC 85 dX11_of_13 (sw_out (fun k h1 h2 => by rcases (show k = 0 ∨ k = 1 ∨ k = 2 ∨ k = 3 ∨ k = 4 by omega) with rfl | rfl | rfl | rfl | rfl; exact q4; exact q7; exact q8; exact q11; exact q14)) (by decide) ?_
    refine ww_aload_n (pc := 85) hC dX11_of_85 1 rfl ?_
    refine ww_aload_n (pc := 86) hC dX11_of_86 1 rfl ?_
    refine ww_getR (pc := 87) hC 11 4 47 hL.1 RX11 (by decide) (by decide) rfl (lay_11_4 hL).1 qf_X11_36 rfl dX11_of_87 ?_
    refine ww_aload_n (pc := 90) hC dX11_of_90 0 rfl ?_
    obtain ⟨_, X_19, h17, h⟩ := bnw_i h
    refine ww_callVv (pc := 91) hC [.ref (w.1 47), .ref (w.1 t3)] hL.1.1 hL.1.2 (by decide) (ceX11_look hL ((lay_11_4 hL).2) hkt3 h17) ql_X11_116 qi_X11_look qs_X11_X11_look qn_X11 qc_X11_look rfl ⟨by decide, by decide, rfl⟩ rfl ⟨Nat.le_of_ble_eq_true rfl, Nat.le_of_ble_eq_true rfl⟩ (by decide) (rest := []) (Nat.le_of_ble_eq_true rfl) dX11_of_91 ⟨Nat.le_of_ble_eq_true rfl, Nat.le_of_ble_eq_true rfl⟩ rfl ?_
    refine ww_aload_n (pc := 94) hC dX11_of_94 1 rfl ?_
    refine ww_aload_n (pc := 95) hC dX11_of_95 0 rfl ?_
    refine ww_iload_n (pc := 96) hC dX11_of_96 3 rfl ?_
    obtain ⟨r21, h20, h⟩ := bnd_i h
    refine ww_callVi (pc := 97) hC [.ref (w.1 t3), .int x2] hL.1.1 hL.1.2 (by decide) (ceX11_seenOf hL hkt3 h20) ql_X11_120 qi_X11_seenOf qs_X11_X11_seenOf qn_X11 qc_X11_seenOf rfl ⟨by decide, by decide, rfl⟩ rfl ⟨Nat.le_of_ble_eq_true rfl, Nat.le_of_ble_eq_true rfl⟩ (by decide) (rest := []) (Nat.le_of_ble_eq_true rfl) dX11_of_97 ⟨Nat.le_of_ble_eq_true rfl, Nat.le_of_ble_eq_true rfl⟩ rfl ?_
    exact ww_iret (pc := 100) hC hr h dX11_of_100
noncomputable def fX11_last (Z : XS) (x1 : Int32) (x2 : Int32) (X : XD) : Option (Int32 × XD) := bnd (fX11_find Z x1 X) (fun r2 => mto r2 (some ((-1 : Int32), X)) (fun t3 => if x2 < 0 then some ((-1 : Int32), X) else if x2 ≤ ((3 : Int32)) then bnd (fX6_lastOf Z 47 x1 X) (fun r5 => bnw (fX6_setLast Z 47 x1 x2 X) (fun _ X_8 => some (r5, X_8))) else some ((-1 : Int32), X)))
set_option maxHeartbeats 40000000 in
set_option maxRecDepth 100000 in
theorem ceX11_last {l : Launch} {E : XE} {w : XW} {z : Nat} {Z : XS}  (hL : LayC Z) {x1 : Int32} {x2 : Int32} {X X1 : XD} {r : Int32} (h : fX11_last Z x1 x2 X = some (r, X1)) : Ct l E w yX11_last (wsM yX11_last cX11_last 4 (some .int)) (rmX 2 0 0) 0 0 [.ref (w.1 0), .int x1, .int x2] z z Z Z X X1 (some (.int r)) := by
  refine ct_of (by decide) (Nat.le_of_ble_eq_true rfl) ?_
  intro p e s m args below meth c hC hr hin hav
  unfold fX11_last at h
  refine ww_lv (lv' := [(0, .ref (w.1 0)), (1, .int x1), (2, .int x2)]) rfl ?_
  refine ww_aload_n (pc := 0) hC dX11_last_0 0 rfl ?_
  refine ww_iload_n (pc := 1) hC dX11_last_1 1 rfl ?_
  obtain ⟨r2, h1, h⟩ := bnd_i h
  rcases r2 with _ | t3
  · replace h := mto_n h
    refine ww_callVn (pc := 2) hC [.int x1] hL.1.1 hL.1.2 (by decide) (ceX11_find hL h1) ql_X11_95 qi_X11_find qs_X11_X11_find qn_X11 qc_X11_find rfl ⟨by decide, by decide, rfl⟩ rfl ⟨Nat.le_of_ble_eq_true rfl, Nat.le_of_ble_eq_true rfl⟩ (by decide) (rest := []) (Nat.le_of_ble_eq_true rfl) dX11_last_2 ⟨Nat.le_of_ble_eq_true rfl, Nat.le_of_ble_eq_true rfl⟩ rfl ?_
    refine ww_ifnullN (pc := 5) hC 17 dX11_last_5 (by decide) ?_
    refine ww_iconst (pc := 17) hC (v := (-1 : Int32)) dX11_last_17 (by decide) ?_
    exact ww_iret (pc := 18) hC hr h dX11_last_18
  · replace h := mto_s h
    have hkt3 : KS Z t3 := ks_find hL h1
    refine ww_callVr (pc := 2) hC [.int x1] hL.1.1 hL.1.2 (by decide) (ceX11_find hL h1) ql_X11_95 qi_X11_find qs_X11_X11_find qn_X11 qc_X11_find rfl ⟨by decide, by decide, rfl⟩ rfl ⟨Nat.le_of_ble_eq_true rfl, Nat.le_of_ble_eq_true rfl⟩ (by decide) (rest := []) (Nat.le_of_ble_eq_true rfl) dX11_last_2 ⟨Nat.le_of_ble_eq_true rfl, Nat.le_of_ble_eq_true rfl⟩ rfl ?_
    refine ww_ifnull (pc := 5) hC dX11_last_5 ?_
    refine ww_iload_n (pc := 8) hC dX11_last_8 2 rfl ?_
    refine ww_if_lt (pc := 9) hC h 17 dX11_last_9 (by decide) (fun h => ?_) (fun h => ?_)
    · refine ww_iconst (pc := 17) hC (v := (-1 : Int32)) dX11_last_17 (by decide) ?_
      exact ww_iret (pc := 18) hC hr h dX11_last_18
    · refine ww_iload_n (pc := 12) hC dX11_last_12 2 rfl ?_
      refine ww_iconst (pc := 13) hC (v := (3 : Int32)) dX11_last_13 (by decide) ?_
      refine ww_icmp_le (pc := 14) hC h 19 dX11_last_14 (by decide) (fun h => ?_) (fun h => ?_)
      · refine ww_aload_n (pc := 19) hC dX11_last_19 0 rfl ?_
        refine ww_getR (pc := 20) hC 11 4 47 hL.1 RX11 (by decide) (by decide) rfl (lay_11_4 hL).1 qf_X11_36 rfl dX11_last_20 ?_
        refine ww_iload_n (pc := 23) hC dX11_last_23 1 rfl ?_
        obtain ⟨r5, h4, h⟩ := bnd_i h
        refine ww_callVi (pc := 24) hC [.int x1] ((lay_11_4 hL).2).1 ((lay_11_4 hL).2).2 (by decide) (ceX6_lastOf hL ((lay_11_4 hL).2) h4) ql_X11_106 qi_X6_lastOf qs_X6_X6_lastOf qn_X6 qc_X6_lastOf rfl ⟨by decide, by decide, rfl⟩ rfl ⟨Nat.le_of_ble_eq_true rfl, Nat.le_of_ble_eq_true rfl⟩ (by decide) (rest := []) (Nat.le_of_ble_eq_true rfl) dX11_last_24 ⟨Nat.le_of_ble_eq_true rfl, Nat.le_of_ble_eq_true rfl⟩ rfl ?_
        refine ww_istore_n (pc := 27) hC [(3, .int r5), (0, .ref (w.1 0)), (1, .int x1), (2, .int x2)] dX11_last_27 rfl (by decide) rfl ?_
        refine ww_aload_n (pc := 28) hC dX11_last_28 1 rfl ?_
        refine ww_getR (pc := 29) hC 11 4 47 hL.1 RX11 (by decide) (by decide) rfl (lay_11_4 hL).1 qf_X11_36 rfl dX11_last_29 ?_
        refine ww_iload_n (pc := 32) hC dX11_last_32 2 rfl ?_
        refine ww_iload_n (pc := 33) hC dX11_last_33 3 rfl ?_
        obtain ⟨_, X_8, h6, h⟩ := bnw_i h
        refine ww_callVv (pc := 34) hC [.int x1, .int x2] ((lay_11_4 hL).2).1 ((lay_11_4 hL).2).2 (by decide) (ceX6_setLast hL ((lay_11_4 hL).2) h6) ql_X11_124 qi_X6_setLast qs_X6_X6_setLast qn_X6 qc_X6_setLast rfl ⟨by decide, by decide, rfl⟩ rfl ⟨Nat.le_of_ble_eq_true rfl, Nat.le_of_ble_eq_true rfl⟩ (by decide) (rest := []) (Nat.le_of_ble_eq_true rfl) dX11_last_34 ⟨Nat.le_of_ble_eq_true rfl, Nat.le_of_ble_eq_true rfl⟩ rfl ?_
        refine ww_iload_n (pc := 37) hC dX11_last_37 0 rfl ?_
        exact ww_iret (pc := 38) hC hr h dX11_last_38
      · refine ww_iconst (pc := 17) hC (v := (-1 : Int32)) dX11_last_17 (by decide) ?_
        exact ww_iret (pc := 18) hC hr h dX11_last_18
noncomputable def fX11_isSide (Z : XS) (x0 : Int32) (X : XD) : Option Int32 := if x0 < 0 then some ((0 : Int32)) else if ((3 : Int32)) ≤ x0 then some ((0 : Int32)) else some ((1 : Int32))
set_option maxHeartbeats 40000000 in
set_option maxRecDepth 100000 in
theorem ceX11_isSide {l : Launch} {E : XE} {w : XW} {z : Nat} {Z : XS}  (hL : LayC Z) {x0 : Int32} {X : XD} {r : Int32} (h : fX11_isSide Z x0 X = some r) : Ct l E w yX11_isSide (wsM yX11_isSide cX11_isSide 1 (some .boolean)) (rmX 1 0 0) 0 0 [.int x0] z z Z Z X X (some (.int r)) := by
  refine ct_of (by decide) (Nat.le_of_ble_eq_true rfl) ?_
  intro p e s m args below meth c hC hr hin hav
  unfold fX11_isSide at h
  refine ww_lv (lv' := [(0, .int x0)]) rfl ?_
  refine ww_iload_n (pc := 0) hC dX11_isSide_0 0 rfl ?_
  refine ww_if_lt (pc := 1) hC h 13 dX11_isSide_1 (by decide) (fun h => ?_) (fun h => ?_)
  · refine ww_iconst (pc := 13) hC (v := (0 : Int32)) dX11_isSide_13 (by decide) ?_
    exact ww_zret (pc := 14) hC hr rfl (ret_r h) dX11_isSide_14
  · refine ww_iload_n (pc := 4) hC dX11_isSide_4 0 rfl ?_
    refine ww_iconst (pc := 5) hC (v := (3 : Int32)) dX11_isSide_5 (by decide) ?_
    refine ww_icmp_ge (pc := 6) hC h 13 dX11_isSide_6 (by decide) (fun h => ?_) (fun h => ?_)
    · refine ww_iconst (pc := 13) hC (v := (0 : Int32)) dX11_isSide_13 (by decide) ?_
      exact ww_zret (pc := 14) hC hr rfl (ret_r h) dX11_isSide_14
    · refine ww_iconst (pc := 9) hC (v := (1 : Int32)) dX11_isSide_9 (by decide) ?_
      refine ww_goto (pc := 10) hC 14 dX11_isSide_10 (by decide) ?_
      exact ww_zret (pc := 14) hC hr rfl (ret_r h) dX11_isSide_14
noncomputable def fX11_row (Z : XS) (x1 : Int32) (x2 : Int32) (x3 : Int32) (X : XD) : Option (Int32 × XD) := bnd (fX11_find Z x1 X) (fun r2 => mto r2 (some ((-1 : Int32), X)) (fun t3 => if x2 < 0 then some ((-1 : Int32), X) else if x2 < ((4 : Int32)) then bnd (fX11_isSide Z x3 X) (fun r5 => if r5 = 0 then some ((-2 : Int32), X) else if (isY Z t3 7) = 0 then some ((-3 : Int32), X) else bnd (fX6_toldOf Z 47 x1 x2 X) (fun r7 => bnw (fX6_setTold Z 47 x1 x2 x3 X) (fun _ X_10 => some (r7, X_10)))) else some ((-1 : Int32), X)))
set_option maxHeartbeats 40000000 in
set_option maxRecDepth 100000 in
theorem ceX11_row {l : Launch} {E : XE} {w : XW} {z : Nat} {Z : XS}  (hL : LayC Z) {x1 : Int32} {x2 : Int32} {x3 : Int32} {X X1 : XD} {r : Int32} (h : fX11_row Z x1 x2 x3 X = some (r, X1)) : Ct l E w yX11_row (wsM yX11_row cX11_row 6 (some .int)) (rmX 2 0 0) 0 0 [.ref (w.1 0), .int x1, .int x2, .int x3] z z Z Z X X1 (some (.int r)) := by
  refine ct_of (by decide) (Nat.le_of_ble_eq_true rfl) ?_
  intro p e s m args below meth c hC hr hin hav
  unfold fX11_row at h
  refine ww_lv (lv' := [(0, .ref (w.1 0)), (1, .int x1), (2, .int x2), (3, .int x3)]) rfl ?_
  refine ww_aload_n (pc := 0) hC dX11_row_0 0 rfl ?_
  refine ww_iload_n (pc := 1) hC dX11_row_1 1 rfl ?_
  obtain ⟨r2, h1, h⟩ := bnd_i h
  rcases r2 with _ | t3
  · replace h := mto_n h
    refine ww_callVn (pc := 2) hC [.int x1] hL.1.1 hL.1.2 (by decide) (ceX11_find hL h1) ql_X11_95 qi_X11_find qs_X11_X11_find qn_X11 qc_X11_find rfl ⟨by decide, by decide, rfl⟩ rfl ⟨Nat.le_of_ble_eq_true rfl, Nat.le_of_ble_eq_true rfl⟩ (by decide) (rest := []) (Nat.le_of_ble_eq_true rfl) dX11_row_2 ⟨Nat.le_of_ble_eq_true rfl, Nat.le_of_ble_eq_true rfl⟩ rfl ?_
    refine ww_astoreN (pc := 5) hC [(4, .null), (0, .ref (w.1 0)), (1, .int x1), (2, .int x2), (3, .int x3)] dX11_row_5  (by decide) rfl ?_
    refine ww_aloadN (pc := 7) hC dX11_row_7 0 rfl ?_
    refine ww_ifnullN (pc := 9) hC 21 dX11_row_9 (by decide) ?_
    refine ww_iconst (pc := 21) hC (v := (-1 : Int32)) dX11_row_21 (by decide) ?_
    exact ww_iret (pc := 22) hC hr h dX11_row_22
  · replace h := mto_s h
    have hkt3 : KS Z t3 := ks_find hL h1
    refine ww_callVr (pc := 2) hC [.int x1] hL.1.1 hL.1.2 (by decide) (ceX11_find hL h1) ql_X11_95 qi_X11_find qs_X11_X11_find qn_X11 qc_X11_find rfl ⟨by decide, by decide, rfl⟩ rfl ⟨Nat.le_of_ble_eq_true rfl, Nat.le_of_ble_eq_true rfl⟩ (by decide) (rest := []) (Nat.le_of_ble_eq_true rfl) dX11_row_2 ⟨Nat.le_of_ble_eq_true rfl, Nat.le_of_ble_eq_true rfl⟩ rfl ?_
    refine ww_astore (pc := 5) hC [(4, .ref (w.1 t3)), (0, .ref (w.1 0)), (1, .int x1), (2, .int x2), (3, .int x3)] dX11_row_5  (by decide) rfl ?_
    refine ww_aload (pc := 7) hC dX11_row_7 0 rfl ?_
    refine ww_ifnull (pc := 9) hC dX11_row_9 ?_
    refine ww_iload_n (pc := 12) hC dX11_row_12 3 rfl ?_
    refine ww_if_lt (pc := 13) hC h 21 dX11_row_13 (by decide) (fun h => ?_) (fun h => ?_)
    · refine ww_iconst (pc := 21) hC (v := (-1 : Int32)) dX11_row_21 (by decide) ?_
      exact ww_iret (pc := 22) hC hr h dX11_row_22
    · refine ww_iload_n (pc := 16) hC dX11_row_16 3 rfl ?_
      refine ww_iconst (pc := 17) hC (v := (4 : Int32)) dX11_row_17 (by decide) ?_
      refine ww_icmp_lt (pc := 18) hC h 23 dX11_row_18 (by decide) (fun h => ?_) (fun h => ?_)
      · refine ww_iload_n (pc := 23) hC dX11_row_23 4 rfl ?_
        obtain ⟨r5, h4, h⟩ := bnd_i h
        refine ww_callSi (pc := 24) hC [.int x3] (ceX11_isSide hL h4) ql_X11_128 qt_X11_isSide qn_X11 qc_X11_isSide ⟨by decide, by decide, rfl⟩ rfl ⟨Nat.le_of_ble_eq_true rfl, Nat.le_of_ble_eq_true rfl⟩ (by decide) (rest := []) (Nat.le_of_ble_eq_true rfl) dX11_row_24 ⟨Nat.le_of_ble_eq_true rfl, Nat.le_of_ble_eq_true rfl⟩ rfl ?_
        refine ww_if_ne (pc := 27) hC h 33 dX11_row_27 (by decide) (fun h => ?_) (fun h => ?_)
        · refine ww_aload (pc := 33) hC dX11_row_33 0 rfl ?_
          refine ww_inst (pc := 35) hC 7 (by unfold isSh; decide) hkt3 qk_X11_132 dX11_row_35 ?_
          refine ww_if_ne (pc := 38) hC h 44 dX11_row_38 (by decide) (fun h => ?_) (fun h => ?_)
          · refine ww_aload_n (pc := 44) hC dX11_row_44 1 rfl ?_
            refine ww_getR (pc := 45) hC 11 4 47 hL.1 RX11 (by decide) (by decide) rfl (lay_11_4 hL).1 qf_X11_36 rfl dX11_row_45 ?_
            refine ww_iload_n (pc := 48) hC dX11_row_48 2 rfl ?_
            refine ww_iload_n (pc := 49) hC dX11_row_49 3 rfl ?_
            obtain ⟨r7, h6, h⟩ := bnd_i h
            refine ww_callVi (pc := 50) hC [.int x1, .int x2] ((lay_11_4 hL).2).1 ((lay_11_4 hL).2).2 (by decide) (ceX6_toldOf hL ((lay_11_4 hL).2) h6) ql_X11_134 qi_X6_toldOf qs_X6_X6_toldOf qn_X6 qc_X6_toldOf rfl ⟨by decide, by decide, rfl⟩ rfl ⟨Nat.le_of_ble_eq_true rfl, Nat.le_of_ble_eq_true rfl⟩ (by decide) (rest := []) (Nat.le_of_ble_eq_true rfl) dX11_row_50 ⟨Nat.le_of_ble_eq_true rfl, Nat.le_of_ble_eq_true rfl⟩ rfl ?_
            refine ww_istore (pc := 53) hC [(5, .int r7), (4, .ref (w.1 t3)), (0, .ref (w.1 0)), (1, .int x1), (2, .int x2), (3, .int x3)] dX11_row_53  (by decide) rfl ?_
            refine ww_aload_n (pc := 55) hC dX11_row_55 2 rfl ?_
            refine ww_getR (pc := 56) hC 11 4 47 hL.1 RX11 (by decide) (by decide) rfl (lay_11_4 hL).1 qf_X11_36 rfl dX11_row_56 ?_
            refine ww_iload_n (pc := 59) hC dX11_row_59 3 rfl ?_
            refine ww_iload_n (pc := 60) hC dX11_row_60 4 rfl ?_
            refine ww_iload_n (pc := 61) hC dX11_row_61 5 rfl ?_
            obtain ⟨_, X_10, h8, h⟩ := bnw_i h
            refine ww_callVv (pc := 62) hC [.int x1, .int x2, .int x3] ((lay_11_4 hL).2).1 ((lay_11_4 hL).2).2 (by decide) (ceX6_setTold hL ((lay_11_4 hL).2) h8) ql_X11_138 qi_X6_setTold qs_X6_X6_setTold qn_X6 qc_X6_setTold rfl ⟨by decide, by decide, rfl⟩ rfl ⟨Nat.le_of_ble_eq_true rfl, Nat.le_of_ble_eq_true rfl⟩ (by decide) (rest := []) (Nat.le_of_ble_eq_true rfl) dX11_row_62 ⟨Nat.le_of_ble_eq_true rfl, Nat.le_of_ble_eq_true rfl⟩ rfl ?_
            refine ww_iload (pc := 65) hC dX11_row_65 0 rfl ?_
            exact ww_iret (pc := 67) hC hr h dX11_row_67
          · refine ww_bipush (pc := 41) hC (v := (-3 : Int32)) dX11_row_41 (by decide) ?_
            exact ww_iret (pc := 43) hC hr h dX11_row_43
        · refine ww_bipush (pc := 30) hC (v := (-2 : Int32)) dX11_row_30 (by decide) ?_
          exact ww_iret (pc := 32) hC hr h dX11_row_32
      · refine ww_iconst (pc := 21) hC (v := (-1 : Int32)) dX11_row_21 (by decide) ?_
        exact ww_iret (pc := 22) hC hr h dX11_row_22
noncomputable def fX11_feed (Z : XS) (x1 : Int32) (X : XD) : Option (Int32 × XD) := if x1 < 0 then some ((-2 : Int32), X) else if x1 ≤ ((127 : Int32)) then bnw (fX3_add Z 45 x1 X) (fun r2 X_3 => if r2 = 0 then some ((-4 : Int32), X_3) else some (X_3.1 45 1, X_3)) else some ((-2 : Int32), X)
set_option maxHeartbeats 40000000 in
set_option maxRecDepth 100000 in
theorem ceX11_feed {l : Launch} {E : XE} {w : XW} {z : Nat} {Z : XS}  (hL : LayC Z) {x1 : Int32} {X X1 : XD} {r : Int32} (h : fX11_feed Z x1 X = some (r, X1)) : Ct l E w yX11_feed (wsM yX11_feed cX11_feed 2 (some .int)) (rmX 2 0 0) 0 0 [.ref (w.1 0), .int x1] z z Z Z X X1 (some (.int r)) := by
  refine ct_of (by decide) (Nat.le_of_ble_eq_true rfl) ?_
  intro p e s m args below meth c hC hr hin hav
  unfold fX11_feed at h
  refine ww_lv (lv' := [(0, .ref (w.1 0)), (1, .int x1)]) rfl ?_
  refine ww_iload_n (pc := 0) hC dX11_feed_0 1 rfl ?_
  refine ww_if_lt (pc := 1) hC h 10 dX11_feed_1 (by decide) (fun h => ?_) (fun h => ?_)
  · refine ww_bipush (pc := 10) hC (v := (-2 : Int32)) dX11_feed_10 (by decide) ?_
    exact ww_iret (pc := 12) hC hr h dX11_feed_12
  · refine ww_iload_n (pc := 4) hC dX11_feed_4 1 rfl ?_
    refine ww_bipush (pc := 5) hC (v := (127 : Int32)) dX11_feed_5 (by decide) ?_
    refine ww_icmp_le (pc := 7) hC h 13 dX11_feed_7 (by decide) (fun h => ?_) (fun h => ?_)
    · refine ww_aload_n (pc := 13) hC dX11_feed_13 0 rfl ?_
      refine ww_getR (pc := 14) hC 11 3 45 hL.1 RX11 (by decide) (by decide) rfl (lay_11_3 hL).1 qf_X11_29 rfl dX11_feed_14 ?_
      refine ww_iload_n (pc := 17) hC dX11_feed_17 1 rfl ?_
      obtain ⟨r2, X_3, h1, h⟩ := bnw_i h
      refine ww_callVi (pc := 18) hC [.int x1] ((lay_11_3 hL).2).1 ((lay_11_3 hL).2).2 (by decide) (ceX3_add hL ((lay_11_3 hL).2) h1) ql_X11_142 qi_X3_add qs_X3_X3_add qn_X3 qc_X3_add rfl ⟨by decide, by decide, rfl⟩ rfl ⟨Nat.le_of_ble_eq_true rfl, Nat.le_of_ble_eq_true rfl⟩ (by decide) (rest := []) (Nat.le_of_ble_eq_true rfl) dX11_feed_18 ⟨Nat.le_of_ble_eq_true rfl, Nat.le_of_ble_eq_true rfl⟩ rfl ?_
      refine ww_if_eq (pc := 21) hC h 34 dX11_feed_21 (by decide) (fun h => ?_) (fun h => ?_)
      · refine ww_bipush (pc := 34) hC (v := (-4 : Int32)) dX11_feed_34 (by decide) ?_
        exact ww_iret (pc := 36) hC hr h dX11_feed_36
      · refine ww_aload_n (pc := 24) hC dX11_feed_24 0 rfl ?_
        refine ww_getR (pc := 25) hC 11 3 45 hL.1 RX11 (by decide) (by decide) rfl (lay_11_3 hL).1 qf_X11_29 rfl dX11_feed_25 ?_
        refine ww_getI (pc := 28) hC 3 1 ((lay_11_3 hL).2) RX3 (by decide) (by decide) rfl qf_X11_145 (Or.inl rfl) dX11_feed_28 ?_
        refine ww_goto (pc := 31) hC 36 dX11_feed_31 (by decide) ?_
        exact ww_iret (pc := 36) hC hr h dX11_feed_36
    · refine ww_bipush (pc := 10) hC (v := (-2 : Int32)) dX11_feed_10 (by decide) ?_
      exact ww_iret (pc := 12) hC hr h dX11_feed_12
noncomputable def fX11_told (Z : XS) (x1 : Int32) (X : XD) : Option Int32 := if x1 = 0 then some (X.1 47 2) else if x1 = ((1 : Int32)) then some (X.1 47 3) else some ((-1 : Int32))
set_option maxHeartbeats 40000000 in
set_option maxRecDepth 100000 in
theorem ceX11_told {l : Launch} {E : XE} {w : XW} {z : Nat} {Z : XS}  (hL : LayC Z) {x1 : Int32} {X : XD} {r : Int32} (h : fX11_told Z x1 X = some r) : Ct l E w yX11_told (wsM yX11_told cX11_told 2 (some .int)) (rmX 1 0 0) 0 0 [.ref (w.1 0), .int x1] z z Z Z X X (some (.int r)) := by
  refine ct_of (by decide) (Nat.le_of_ble_eq_true rfl) ?_
  intro p e s m args below meth c hC hr hin hav
  unfold fX11_told at h
  refine ww_lv (lv' := [(0, .ref (w.1 0)), (1, .int x1)]) rfl ?_
  refine ww_iload_n (pc := 0) hC dX11_told_0 1 rfl ?_
  refine ww_if_ne (pc := 1) hC h 12 dX11_told_1 (by decide) (fun h => ?_) (fun h => ?_)
  · refine ww_iload_n (pc := 12) hC dX11_told_12 1 rfl ?_
    refine ww_iconst (pc := 13) hC (v := (1 : Int32)) dX11_told_13 (by decide) ?_
    refine ww_icmp_ne (pc := 14) hC h 27 dX11_told_14 (by decide) (fun h => ?_) (fun h => ?_)
    · refine ww_iconst (pc := 27) hC (v := (-1 : Int32)) dX11_told_27 (by decide) ?_
      exact ww_iret (pc := 28) hC hr (ret_r h) dX11_told_28
    · refine ww_aload_n (pc := 17) hC dX11_told_17 0 rfl ?_
      refine ww_getR (pc := 18) hC 11 4 47 hL.1 RX11 (by decide) (by decide) rfl (lay_11_4 hL).1 qf_X11_36 rfl dX11_told_18 ?_
      refine ww_getI (pc := 21) hC 6 3 ((lay_11_4 hL).2) RX6 (by decide) (by decide) rfl qf_X11_164 (Or.inl rfl) dX11_told_21 ?_
      refine ww_goto (pc := 24) hC 28 dX11_told_24 (by decide) ?_
      exact ww_iret (pc := 28) hC hr (ret_r h) dX11_told_28
  · refine ww_aload_n (pc := 4) hC dX11_told_4 0 rfl ?_
    refine ww_getR (pc := 5) hC 11 4 47 hL.1 RX11 (by decide) (by decide) rfl (lay_11_4 hL).1 qf_X11_36 rfl dX11_told_5 ?_
    refine ww_getI (pc := 8) hC 6 2 ((lay_11_4 hL).2) RX6 (by decide) (by decide) rfl qf_X11_161 (Or.inl rfl) dX11_told_8 ?_
    exact ww_iret (pc := 11) hC hr (ret_r h) dX11_told_11
