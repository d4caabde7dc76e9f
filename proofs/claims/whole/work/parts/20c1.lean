noncomputable def fX1_setValues (Z : XS) (a0 : Nat) (a1 : Nat) (a2 : Nat) (X : XD) : Option (Unit × XD) := gin ((0 : Int32)) 6 (nm (wI X (a0 + 6) ((0 : Int32)).toNatClampNeg (X.1 a2 0)) (fun X_1 => bnd (fV_X4_kind Z a2 X_1) (fun r3 => gin ((1 : Int32)) 6 (nm (wI X_1 (a0 + 6) ((1 : Int32)).toNatClampNeg r3) (fun X_4 => bnd (fX6_shotsOf Z a1 (X_4.1 a2 0) X_4) (fun r6 => gin ((3 : Int32)) 6 (nm (wI X_4 (a0 + 6) ((3 : Int32)).toNatClampNeg (r6 - r6 / ((10 : Int32)) * ((10 : Int32)))) (fun X_7 => gin ((4 : Int32)) 6 (nm (wI X_7 (a0 + 6) ((4 : Int32)).toNatClampNeg ((X_7.1 a1 3) - (X_7.1 a1 3) / ((10 : Int32)) * ((10 : Int32)))) (fun X_8 => gin ((5 : Int32)) 6 (nm (wI X_8 (a0 + 6) ((5 : Int32)).toNatClampNeg ((X_8.1 a1 2) - (X_8.1 a1 2) / ((10 : Int32)) * ((10 : Int32)))) (fun X_9 => some ((), X_9)))))))))))))
set_option maxHeartbeats 40000000 in
set_option maxRecDepth 100000 in
theorem ceX1_setValues {l : Launch} {E : XE} {w : XW} {z : Nat} {Z : XS}  (hL : LayC Z) {a0 : Nat} (h_a0 : KK Z a0 1) {a1 : Nat} (h_a1 : KK Z a1 6) {a2 : Nat} (h_a2 : KS Z a2) {X X1 : XD} {r : Unit} (h : fX1_setValues Z a0 a1 a2 X = some (r, X1)) : Ct l E w yX1_setValues (wsM yX1_setValues cX1_setValues 3 none) (rmX 2 0 0) 0 0 [.ref (w.1 a0), .ref (w.1 a1), .ref (w.1 a2)] z z Z Z X X1 none := by
  refine ct_of (by decide) (Nat.le_of_ble_eq_true rfl) ?_
  intro p e s m args below meth c hC hr hin hav
  unfold fX1_setValues at h
  refine ww_lv (lv' := [(0, .ref (w.1 a0)), (1, .ref (w.1 a1)), (2, .ref (w.1 a2))]) rfl ?_
  refine ww_aload_n (pc := 0) hC dX1_setValues_0 0 rfl ?_
  refine ww_getR (pc := 1) hC 1 8 (a0 + 6) h_a0 RX1 (by decide) (by decide) rfl (lay_1_8 hL h_a0).1 qf_X1_27 rfl dX1_setValues_1 ?_
  refine ww_iconst (pc := 4) hC (v := (0 : Int32)) dX1_setValues_4 (by decide) ?_
  refine ww_aload_n (pc := 5) hC dX1_setValues_5 2 rfl ?_
  refine ww_getS (pc := 6) hC 0 (by decide) h_a2 RX4 "number" rfl qf_X1_127 (Or.inl rfl) dX1_setValues_6 ?_
  refine ww_iast (pc := 9) hC ((lay_1_8 hL h_a0).2) h dX1_setValues_9 (fun h => ?_)
  obtain ⟨X_1, eX_1⟩ : ∃ q, q = wI X (a0 + 6) ((0 : Int32)).toNatClampNeg (X.1 a2 0) := ⟨_, rfl⟩
  replace h := nm_i h eX_1
  refine ww_nmX eX_1 ?_
  refine ww_aload_n (pc := 10) hC dX1_setValues_10 0 rfl ?_
  refine ww_getR (pc := 11) hC 1 8 (a0 + 6) h_a0 RX1 (by decide) (by decide) rfl (lay_1_8 hL h_a0).1 qf_X1_27 rfl dX1_setValues_11 ?_
  refine ww_iconst (pc := 14) hC (v := (1 : Int32)) dX1_setValues_14 (by decide) ?_
  refine ww_aload_n (pc := 15) hC dX1_setValues_15 2 rfl ?_
  obtain ⟨r3, h2, h⟩ := bnd_i h
  refine vd_X4_kind (pc := 16) hC hL h_a2 h2 ql_X1_166 ⟨Nat.le_of_ble_eq_true rfl, Nat.le_of_ble_eq_true rfl⟩ (Nat.le_of_ble_eq_true rfl) dX1_setValues_16 ⟨Nat.le_of_ble_eq_true rfl, Nat.le_of_ble_eq_true rfl⟩ ?_
  refine ww_iast (pc := 19) hC ((lay_1_8 hL h_a0).2) h dX1_setValues_19 (fun h => ?_)
  obtain ⟨X_4, eX_4⟩ : ∃ q, q = wI X_1 (a0 + 6) ((1 : Int32)).toNatClampNeg r3 := ⟨_, rfl⟩
  replace h := nm_i h eX_4
  refine ww_nmX eX_4 ?_
  refine ww_aload_n (pc := 20) hC dX1_setValues_20 0 rfl ?_
  refine ww_getR (pc := 21) hC 1 8 (a0 + 6) h_a0 RX1 (by decide) (by decide) rfl (lay_1_8 hL h_a0).1 qf_X1_27 rfl dX1_setValues_21 ?_
  refine ww_iconst (pc := 24) hC (v := (3 : Int32)) dX1_setValues_24 (by decide) ?_
  refine ww_aload_n (pc := 25) hC dX1_setValues_25 1 rfl ?_
  refine ww_aload_n (pc := 26) hC dX1_setValues_26 2 rfl ?_
  refine ww_getS (pc := 27) hC 0 (by decide) h_a2 RX4 "number" rfl qf_X1_127 (Or.inl rfl) dX1_setValues_27 ?_
  obtain ⟨r6, h5, h⟩ := bnd_i h
  refine ww_callVi (pc := 30) hC [.int (X_4.1 a2 0)] h_a1.1 h_a1.2 (by decide) (ceX6_shotsOf hL h_a1 h5) ql_X1_169 qi_X6_shotsOf qs_X6_X6_shotsOf qn_X6 qc_X6_shotsOf rfl ⟨by decide, by decide, rfl⟩ rfl ⟨Nat.le_of_ble_eq_true rfl, Nat.le_of_ble_eq_true rfl⟩ (by decide) (rest := [.int ((3 : Int32)), .ref (w.1 (a0 + 6))]) (Nat.le_of_ble_eq_true rfl) dX1_setValues_30 ⟨Nat.le_of_ble_eq_true rfl, Nat.le_of_ble_eq_true rfl⟩ rfl ?_
  refine ww_bipush (pc := 33) hC (v := (10 : Int32)) dX1_setValues_33 (by decide) ?_
  refine ww_irem (pc := 35) hC dX1_setValues_35 (by decide) ?_
  refine ww_iast (pc := 36) hC ((lay_1_8 hL h_a0).2) h dX1_setValues_36 (fun h => ?_)
  obtain ⟨X_7, eX_7⟩ : ∃ q, q = wI X_4 (a0 + 6) ((3 : Int32)).toNatClampNeg (r6 - r6 / ((10 : Int32)) * ((10 : Int32))) := ⟨_, rfl⟩
  replace h := nm_i h eX_7
  refine ww_nmX eX_7 ?_
  refine ww_aload_n (pc := 37) hC dX1_setValues_37 0 rfl ?_
  refine ww_getR (pc := 38) hC 1 8 (a0 + 6) h_a0 RX1 (by decide) (by decide) rfl (lay_1_8 hL h_a0).1 qf_X1_27 rfl dX1_setValues_38 ?_
  refine ww_iconst (pc := 41) hC (v := (4 : Int32)) dX1_setValues_41 (by decide) ?_
  refine ww_aload_n (pc := 42) hC dX1_setValues_42 1 rfl ?_
  refine ww_getI (pc := 43) hC 6 3 h_a1 RX6 (by decide) (by decide) rfl qf_X1_172 (Or.inl rfl) dX1_setValues_43 ?_
  refine ww_bipush (pc := 46) hC (v := (10 : Int32)) dX1_setValues_46 (by decide) ?_
  refine ww_irem (pc := 48) hC dX1_setValues_48 (by decide) ?_
  refine ww_iast (pc := 49) hC ((lay_1_8 hL h_a0).2) h dX1_setValues_49 (fun h => ?_)
  obtain ⟨X_8, eX_8⟩ : ∃ q, q = wI X_7 (a0 + 6) ((4 : Int32)).toNatClampNeg ((X_7.1 a1 3) - (X_7.1 a1 3) / ((10 : Int32)) * ((10 : Int32))) := ⟨_, rfl⟩
  replace h := nm_i h eX_8
  refine ww_nmX eX_8 ?_
  refine ww_aload_n (pc := 50) hC dX1_setValues_50 0 rfl ?_
  refine ww_getR (pc := 51) hC 1 8 (a0 + 6) h_a0 RX1 (by decide) (by decide) rfl (lay_1_8 hL h_a0).1 qf_X1_27 rfl dX1_setValues_51 ?_
  refine ww_iconst (pc := 54) hC (v := (5 : Int32)) dX1_setValues_54 (by decide) ?_
  refine ww_aload_n (pc := 55) hC dX1_setValues_55 1 rfl ?_
  refine ww_getI (pc := 56) hC 6 2 h_a1 RX6 (by decide) (by decide) rfl qf_X1_175 (Or.inl rfl) dX1_setValues_56 ?_
  refine ww_bipush (pc := 59) hC (v := (10 : Int32)) dX1_setValues_59 (by decide) ?_
  refine ww_irem (pc := 61) hC dX1_setValues_61 (by decide) ?_
  refine ww_iast (pc := 62) hC ((lay_1_8 hL h_a0).2) h dX1_setValues_62 (fun h => ?_)
  obtain ⟨X_9, eX_9⟩ : ∃ q, q = wI X_8 (a0 + 6) ((5 : Int32)).toNatClampNeg ((X_8.1 a1 2) - (X_8.1 a1 2) / ((10 : Int32)) * ((10 : Int32))) := ⟨_, rfl⟩
  replace h := nm_i h eX_9
  refine ww_nmX eX_9 ?_
  exact ww_vret (pc := 63) hC hr h dX1_setValues_63
noncomputable def fX1_sideOf (Z : XS) (x0 : Int32) (X : XD) : Option Int32 := if x0 = ((2 : Int32)) then some ((0 : Int32)) else if x0 = ((3 : Int32)) then some ((2 : Int32)) else some ((1 : Int32))
set_option maxHeartbeats 40000000 in
set_option maxRecDepth 100000 in
theorem ceX1_sideOf {l : Launch} {E : XE} {w : XW} {z : Nat} {Z : XS}  (hL : LayC Z) {x0 : Int32} {X : XD} {r : Int32} (h : fX1_sideOf Z x0 X = some r) : Ct l E w yX1_sideOf (wsM yX1_sideOf cX1_sideOf 1 (some .int)) (rmX 1 0 0) 0 0 [.int x0] z z Z Z X X (some (.int r)) := by
  refine ct_of (by decide) (Nat.le_of_ble_eq_true rfl) ?_
  intro p e s m args below meth c hC hr hin hav
  unfold fX1_sideOf at h
  refine ww_lv (lv' := [(0, .int x0)]) rfl ?_
  refine ww_iload_n (pc := 0) hC dX1_sideOf_0 0 rfl ?_
  refine ww_iconst (pc := 1) hC (v := (2 : Int32)) dX1_sideOf_1 (by decide) ?_
  refine ww_icmp_ne (pc := 2) hC h 7 dX1_sideOf_2 (by decide) (fun h => ?_) (fun h => ?_)
  · refine ww_iload_n (pc := 7) hC dX1_sideOf_7 0 rfl ?_
    refine ww_iconst (pc := 8) hC (v := (3 : Int32)) dX1_sideOf_8 (by decide) ?_
    refine ww_icmp_ne (pc := 9) hC h 16 dX1_sideOf_9 (by decide) (fun h => ?_) (fun h => ?_)
    · refine ww_iconst (pc := 16) hC (v := (1 : Int32)) dX1_sideOf_16 (by decide) ?_
      exact ww_iret (pc := 17) hC hr (ret_r h) dX1_sideOf_17
    · refine ww_iconst (pc := 12) hC (v := (2 : Int32)) dX1_sideOf_12 (by decide) ?_
      refine ww_goto (pc := 13) hC 17 dX1_sideOf_13 (by decide) ?_
      exact ww_iret (pc := 17) hC hr (ret_r h) dX1_sideOf_17
  · refine ww_iconst (pc := 5) hC (v := (0 : Int32)) dX1_sideOf_5 (by decide) ?_
    exact ww_iret (pc := 6) hC hr (ret_r h) dX1_sideOf_6
noncomputable def fX9_addTo_30 (Z : XS) (a0 : Nat) (k2 : Int32 → Int32 → Int32 → XD → Option (Unit × XD)) (x1 : Int32) (x2 : Int32) (x3 : Int32) (X : XD) : Option (Unit × XD) := nm (x3 + (1 : Int32)) (fun y2 => k2 x1 x2 y2 X)
noncomputable def fX9_addTo_2 (Z : XS) (a0 : Nat) (n : Nat) : Int32 → Int32 → Int32 → XD → Option (Unit × XD) := Nat.rec (motive := fun _ => Int32 → Int32 → Int32 → XD → Option (Unit × XD)) (fun _ _ _ _ => none) (fun _ f => fun x1 x2 x3 X => if (Int32.ofNat (sL Z a0)) ≤ x3 then some ((), X) else if ((x1 >>> (x3 &&& 31)) &&& ((1 : Int32))) = ((1 : Int32)) then gin x3 (sL Z a0) (gin x3 (sL Z a0) (nm (wI X a0 (x3).toNatClampNeg (if ((X.1 a0 (x3).toNatClampNeg) + x2) < ((100 : Int32)) then ((X.1 a0 (x3).toNatClampNeg) + x2) else ((100 : Int32)))) (fun X_1 => fX9_addTo_30 Z a0 (f) x1 x2 x3 X_1))) else fX9_addTo_30 Z a0 (f) x1 x2 x3 X) n
theorem fX9_addTo_2_s (Z : XS) (a0 : Nat) (n : Nat) (x1 : Int32) (x2 : Int32) (x3 : Int32) (X : XD) : fX9_addTo_2 Z a0 (n + 1) x1 x2 x3 X = if (Int32.ofNat (sL Z a0)) ≤ x3 then some ((), X) else if ((x1 >>> (x3 &&& 31)) &&& ((1 : Int32))) = ((1 : Int32)) then gin x3 (sL Z a0) (gin x3 (sL Z a0) (nm (wI X a0 (x3).toNatClampNeg (if ((X.1 a0 (x3).toNatClampNeg) + x2) < ((100 : Int32)) then ((X.1 a0 (x3).toNatClampNeg) + x2) else ((100 : Int32)))) (fun X_1 => fX9_addTo_30 Z a0 ((fX9_addTo_2 Z a0 n)) x1 x2 x3 X_1))) else fX9_addTo_30 Z a0 ((fX9_addTo_2 Z a0 n)) x1 x2 x3 X := rfl
noncomputable def fX9_addTo (Z : XS) (a0 : Nat) (x1 : Int32) (x2 : Int32) (X : XD) : Option (Unit × XD) := fX9_addTo_2 Z a0 FU x1 x2 ((0 : Int32)) X
set_option maxHeartbeats 40000000 in
set_option maxRecDepth 100000 in
theorem ceX9_addTo {l : Launch} {E : XE} {w : XW} {z : Nat} {Z : XS}  (hL : LayC Z) {a0 : Nat} (h_a0 : KA Z a0 13 (sL Z a0)) {x1 : Int32} {x2 : Int32} {X X1 : XD} {r : Unit} (h : fX9_addTo Z a0 x1 x2 X = some (r, X1)) : Ct l E w yX9_addTo (wsM yX9_addTo cX9_addTo 4 none) (rmX 1 0 0) 0 0 [.ref (w.1 a0), .int x1, .int x2] z z Z Z X X1 none := by
  refine ct_of (by decide) (Nat.le_of_ble_eq_true rfl) ?_
  intro p e s m args below meth c hC hr hin hav
  have j30 : ∀ (k2 : Int32 → Int32 → Int32 → XD → Option (Unit × XD)) (hk2 : ∀ (x1 : Int32) (x2 : Int32) (x3 : Int32) (X : XD), k2 x1 x2 x3 X = some (r, X1) → WW p l e (rmX 1 0 0) s m args below meth c 4 (MQ below (XQ E w z Z X1 none) args s 0 0 (A0 E)) E w 0 0 z Z 2 [(0, .ref (w.1 a0)), (1, .int x1), (2, .int x2), (3, .int x3)] [] X), ∀ (x1 : Int32) (x2 : Int32) (x3 : Int32) (X : XD), fX9_addTo_30 Z a0 k2 x1 x2 x3 X = some (r, X1) → WW p l e (rmX 1 0 0) s m args below meth c 4 (MQ below (XQ E w z Z X1 none) args s 0 0 (A0 E)) E w 0 0 z Z 30 [(0, .ref (w.1 a0)), (1, .int x1), (2, .int x2), (3, .int x3)] [] X := by
    intro k2 hk2 x1 x2 x3 X h
    unfold fX9_addTo_30 at h
    obtain ⟨y2, ey2⟩ : ∃ q, q = x3 + (1 : Int32) := ⟨_, rfl⟩
    replace h := nm_i h ey2
    refine ww_iinc (pc := 30) hC y2 [(3, .int y2), (0, .ref (w.1 a0)), (1, .int x1), (2, .int x2)] dX9_addTo_30 3 rfl (by rw [ey2]; rfl) (by decide) rfl ?_
    refine ww_goto (pc := 33) hC 2 dX9_addTo_33 (by decide) ?_
    refine ww_sub [1, 2, 3, 0] rfl ?_
    exact hk2 _ _ _ _ h
  have j2 : ∀ (n : Nat), ∀ (x1 : Int32) (x2 : Int32) (x3 : Int32) (X : XD), fX9_addTo_2 Z a0 n x1 x2 x3 X = some (r, X1) → WW p l e (rmX 1 0 0) s m args below meth c 4 (MQ below (XQ E w z Z X1 none) args s 0 0 (A0 E)) E w 0 0 z Z 2 [(0, .ref (w.1 a0)), (1, .int x1), (2, .int x2), (3, .int x3)] [] X := by
    intro n
    induction n with
    | zero =>
      intro x1 x2 x3 X h
      cases (show none = some (r, X1) from h)
    | succ n ih =>
      intro x1 x2 x3 X h
      rw [fX9_addTo_2_s] at h
      refine ww_iload_n (pc := 2) hC dX9_addTo_2 3 rfl ?_
      refine ww_aload_n (pc := 3) hC dX9_addTo_3 0 rfl ?_
      refine ww_alen (pc := 4) hC (Int32.ofNat (sL Z a0)) h_a0 (by decide) (by decide) rfl dX9_addTo_4 ?_
      refine ww_icmp_ge (pc := 5) hC h 36 dX9_addTo_5 (by decide) (fun h => ?_) (fun h => ?_)
      · exact ww_vret (pc := 36) hC hr h dX9_addTo_36
      · refine ww_iload_n (pc := 8) hC dX9_addTo_8 1 rfl ?_
        refine ww_iload_n (pc := 9) hC dX9_addTo_9 3 rfl ?_
        refine ww_ishr (pc := 10) hC dX9_addTo_10 ?_
        refine ww_iconst (pc := 11) hC (v := (1 : Int32)) dX9_addTo_11 (by decide) ?_
        refine ww_iand (pc := 12) hC dX9_addTo_12 ?_
        refine ww_iconst (pc := 13) hC (v := (1 : Int32)) dX9_addTo_13 (by decide) ?_
        refine ww_icmp_ne (pc := 14) hC h 30 dX9_addTo_14 (by decide) (fun h => ?_) (fun h => ?_)
        · refine ww_sub [0, 1, 2, 3] rfl ?_
          exact j30 _ ih _ _ _ _ h
        · refine ww_aload_n (pc := 17) hC dX9_addTo_17 0 rfl ?_
          refine ww_iload_n (pc := 18) hC dX9_addTo_18 3 rfl ?_
          refine ww_bipush (pc := 19) hC (v := (100 : Int32)) dX9_addTo_19 (by decide) ?_
          refine ww_aload_n (pc := 21) hC dX9_addTo_21 0 rfl ?_
          refine ww_iload_n (pc := 22) hC dX9_addTo_22 3 rfl ?_
          refine ww_iald (pc := 23) hC h_a0 h dX9_addTo_23 (fun h => ?_)
          refine ww_iload_n (pc := 24) hC dX9_addTo_24 2 rfl ?_
          refine ww_iadd (pc := 25) hC dX9_addTo_25 ?_
          refine ww_min (pc := 26) hC ql_X9_32 qt_J9_min_7cf53 qn_J9 qc_J9_min_7cf53 dX9_addTo_26 ⟨Nat.le_of_ble_eq_true rfl, Nat.le_of_ble_eq_true rfl⟩ (Nat.le_of_ble_eq_true rfl) ⟨Nat.le_of_ble_eq_true rfl, Nat.le_of_ble_eq_true rfl⟩ ?_
          refine ww_iast (pc := 29) hC h_a0 h dX9_addTo_29 (fun h => ?_)
          obtain ⟨X_1, eX_1⟩ : ∃ q, q = wI X a0 (x3).toNatClampNeg (if ((X.1 a0 (x3).toNatClampNeg) + x2) < ((100 : Int32)) then ((X.1 a0 (x3).toNatClampNeg) + x2) else ((100 : Int32))) := ⟨_, rfl⟩
          replace h := nm_i h eX_1
          refine ww_nmX eX_1 ?_
          refine ww_sub [0, 1, 2, 3] rfl ?_
          exact j30 _ ih _ _ _ _ h
  unfold fX9_addTo at h
  refine ww_lv (lv' := [(0, .ref (w.1 a0)), (1, .int x1), (2, .int x2)]) rfl ?_
  refine ww_iconst (pc := 0) hC (v := (0 : Int32)) dX9_addTo_0 (by decide) ?_
  refine ww_istore_n (pc := 1) hC [(3, .int ((0 : Int32))), (0, .ref (w.1 a0)), (1, .int x1), (2, .int x2)] dX9_addTo_1 rfl (by decide) rfl ?_
  refine ww_sub [1, 2, 3, 0] rfl ?_
  exact j2 _ _ _ _ _ h
noncomputable def fX9_addSaves (Z : XS) (a0 : Nat) (x1 : Int32) (x2 : Int32) (X : XD) : Option (Unit × XD) := bnw (fX9_addTo Z (a0 + 2) x1 x2 X) (fun _ X_3 => some ((), X_3))
set_option maxHeartbeats 40000000 in
set_option maxRecDepth 100000 in
theorem ceX9_addSaves {l : Launch} {E : XE} {w : XW} {z : Nat} {Z : XS}  (hL : LayC Z) {a0 : Nat} (h_a0 : KK Z a0 9) {x1 : Int32} {x2 : Int32} {X X1 : XD} {r : Unit} (h : fX9_addSaves Z a0 x1 x2 X = some (r, X1)) : Ct l E w yX9_addSaves (wsM yX9_addSaves cX9_addSaves 3 none) (rmX 2 0 0) 0 0 [.ref (w.1 a0), .int x1, .int x2] z z Z Z X X1 none := by
  refine ct_of (by decide) (Nat.le_of_ble_eq_true rfl) ?_
  intro p e s m args below meth c hC hr hin hav
  unfold fX9_addSaves at h
  refine ww_lv (lv' := [(0, .ref (w.1 a0)), (1, .int x1), (2, .int x2)]) rfl ?_
  refine ww_aload_n (pc := 0) hC dX9_addSaves_0 0 rfl ?_
  refine ww_getR (pc := 1) hC 9 1 (a0 + 2) h_a0 RX9 (by decide) (by decide) rfl (lay_9_1 hL h_a0).1 qf_X9_15 rfl dX9_addSaves_1 ?_
  refine ww_iload_n (pc := 4) hC dX9_addSaves_4 1 rfl ?_
  refine ww_iload_n (pc := 5) hC dX9_addSaves_5 2 rfl ?_
  obtain ⟨_, X_3, h1, h⟩ := bnw_i h
  refine ww_callSv (pc := 6) hC [.ref (w.1 (a0 + 2)), .int x1, .int x2] (ceX9_addTo hL ⟨((lay_9_1 hL h_a0).2).1, ((lay_9_1 hL h_a0).2).2.1, rfl⟩ h1) ql_X9_28 qt_X9_addTo qn_X9 qc_X9_addTo ⟨by decide, by decide, rfl⟩ rfl ⟨Nat.le_of_ble_eq_true rfl, Nat.le_of_ble_eq_true rfl⟩ (by decide) (rest := []) (Nat.le_of_ble_eq_true rfl) dX9_addSaves_6 ⟨Nat.le_of_ble_eq_true rfl, Nat.le_of_ble_eq_true rfl⟩ rfl ?_
  exact ww_vret (pc := 9) hC hr h dX9_addSaves_9
noncomputable def fX9_addSure (Z : XS) (a0 : Nat) (x1 : Int32) (x2 : Int32) (X : XD) : Option (Unit × XD) := bnw (fX9_addTo Z (a0 + 1) x1 x2 X) (fun _ X_3 => some ((), X_3))
set_option maxHeartbeats 40000000 in
set_option maxRecDepth 100000 in
theorem ceX9_addSure {l : Launch} {E : XE} {w : XW} {z : Nat} {Z : XS}  (hL : LayC Z) {a0 : Nat} (h_a0 : KK Z a0 9) {x1 : Int32} {x2 : Int32} {X X1 : XD} {r : Unit} (h : fX9_addSure Z a0 x1 x2 X = some (r, X1)) : Ct l E w yX9_addSure (wsM yX9_addSure cX9_addSure 3 none) (rmX 2 0 0) 0 0 [.ref (w.1 a0), .int x1, .int x2] z z Z Z X X1 none := by
  refine ct_of (by decide) (Nat.le_of_ble_eq_true rfl) ?_
  intro p e s m args below meth c hC hr hin hav
  unfold fX9_addSure at h
  refine ww_lv (lv' := [(0, .ref (w.1 a0)), (1, .int x1), (2, .int x2)]) rfl ?_
  refine ww_aload_n (pc := 0) hC dX9_addSure_0 0 rfl ?_
  refine ww_getR (pc := 1) hC 9 0 (a0 + 1) h_a0 RX9 (by decide) (by decide) rfl (lay_9_0 hL h_a0).1 qf_X9_9 rfl dX9_addSure_1 ?_
  refine ww_iload_n (pc := 4) hC dX9_addSure_4 1 rfl ?_
  refine ww_iload_n (pc := 5) hC dX9_addSure_5 2 rfl ?_
  obtain ⟨_, X_3, h1, h⟩ := bnw_i h
  refine ww_callSv (pc := 6) hC [.ref (w.1 (a0 + 1)), .int x1, .int x2] (ceX9_addTo hL ⟨((lay_9_0 hL h_a0).2).1, ((lay_9_0 hL h_a0).2).2.1, rfl⟩ h1) ql_X9_28 qt_X9_addTo qn_X9 qc_X9_addTo ⟨by decide, by decide, rfl⟩ rfl ⟨Nat.le_of_ble_eq_true rfl, Nat.le_of_ble_eq_true rfl⟩ (by decide) (rest := []) (Nat.le_of_ble_eq_true rfl) dX9_addSure_6 ⟨Nat.le_of_ble_eq_true rfl, Nat.le_of_ble_eq_true rfl⟩ rfl ?_
  exact ww_vret (pc := 9) hC hr h dX9_addSure_9
noncomputable def fJ7_fill_53178_5 (Z : XS) (a0 : Nat) (n : Nat) : Int32 → Int32 → Int32 → XD → Option (Unit × XD) := Nat.rec (motive := fun _ => Int32 → Int32 → Int32 → XD → Option (Unit × XD)) (fun _ _ _ _ => none) (fun _ f => fun x1 x2 x3 X => if x3 ≤ x2 then some ((), X) else gin x2 (sL Z a0) (nm (wI X a0 (x2).toNatClampNeg x1) (fun X_2 => nm (x2 + (1 : Int32)) (fun y3 => f x1 y3 x3 X_2)))) n
theorem fJ7_fill_53178_5_s (Z : XS) (a0 : Nat) (n : Nat) (x1 : Int32) (x2 : Int32) (x3 : Int32) (X : XD) : fJ7_fill_53178_5 Z a0 (n + 1) x1 x2 x3 X = if x3 ≤ x2 then some ((), X) else gin x2 (sL Z a0) (nm (wI X a0 (x2).toNatClampNeg x1) (fun X_2 => nm (x2 + (1 : Int32)) (fun y3 => (fJ7_fill_53178_5 Z a0 n) x1 y3 x3 X_2))) := rfl
noncomputable def fJ7_fill_53178 (Z : XS) (a0 : Nat) (x1 : Int32) (X : XD) : Option (Unit × XD) := nm (Int32.ofNat (sL Z a0)) (fun y1 => fJ7_fill_53178_5 Z a0 FU x1 ((0 : Int32)) y1 X)
set_option maxHeartbeats 40000000 in
set_option maxRecDepth 100000 in
theorem ceJ7_fill_53178 {l : Launch} {E : XE} {w : XW} {z : Nat} {Z : XS}  {a0 : Nat} (h_a0 : KA Z a0 13 (sL Z a0)) {x1 : Int32} {X X1 : XD} {r : Unit} (h : fJ7_fill_53178 Z a0 x1 X = some (r, X1)) : Ct l E w yJ7_fill_53178 (wsM yJ7_fill_53178 cJ7_fill_53178 4 none) (rmX 1 0 0) 0 0 [.ref (w.1 a0), .int x1] z z Z Z X X1 none := by
  refine ct_of (by decide) (Nat.le_of_ble_eq_true rfl) ?_
  intro p e s m args below meth c hC hr hin hav
  have j5 : ∀ (n : Nat), ∀ (x1 : Int32) (x2 : Int32) (x3 : Int32) (X : XD), fJ7_fill_53178_5 Z a0 n x1 x2 x3 X = some (r, X1) → WW p l e (rmX 1 0 0) s m args below meth c 4 (MQ below (XQ E w z Z X1 none) args s 0 0 (A0 E)) E w 0 0 z Z 5 [(0, .ref (w.1 a0)), (1, .int x1), (2, .int x2), (3, .int x3)] [] X := by
    intro n
    induction n with
    | zero =>
      intro x1 x2 x3 X h
      cases (show none = some (r, X1) from h)
    | succ n ih =>
      intro x1 x2 x3 X h
      rw [fJ7_fill_53178_5_s] at h
      refine ww_iload_n (pc := 5) hC dJ7_fill_53178_5 2 rfl ?_
      refine ww_iload_n (pc := 6) hC dJ7_fill_53178_6 3 rfl ?_
      refine ww_icmp_ge (pc := 7) hC h 20 dJ7_fill_53178_7 (by decide) (fun h => ?_) (fun h => ?_)
      · exact ww_vret (pc := 20) hC hr h dJ7_fill_53178_20
      · refine ww_aload_n (pc := 10) hC dJ7_fill_53178_10 0 rfl ?_
        refine ww_iload_n (pc := 11) hC dJ7_fill_53178_11 2 rfl ?_
        refine ww_iload_n (pc := 12) hC dJ7_fill_53178_12 1 rfl ?_
        refine ww_iast (pc := 13) hC h_a0 h dJ7_fill_53178_13 (fun h => ?_)
        obtain ⟨X_2, eX_2⟩ : ∃ q, q = wI X a0 (x2).toNatClampNeg x1 := ⟨_, rfl⟩
        replace h := nm_i h eX_2
        refine ww_nmX eX_2 ?_
        obtain ⟨y3, ey3⟩ : ∃ q, q = x2 + (1 : Int32) := ⟨_, rfl⟩
        replace h := nm_i h ey3
        refine ww_iinc (pc := 14) hC y3 [(2, .int y3), (0, .ref (w.1 a0)), (1, .int x1), (3, .int x3)] dJ7_fill_53178_14 2 rfl (by rw [ey3]; rfl) (by decide) rfl ?_
        refine ww_goto (pc := 17) hC 5 dJ7_fill_53178_17 (by decide) ?_
        refine ww_sub [1, 2, 0, 3] rfl ?_
        exact ih _ _ _ _ h
  unfold fJ7_fill_53178 at h
  refine ww_lv (lv' := [(0, .ref (w.1 a0)), (1, .int x1)]) rfl ?_
  refine ww_iconst (pc := 0) hC (v := (0 : Int32)) dJ7_fill_53178_0 (by decide) ?_
  refine ww_istore_n (pc := 1) hC [(2, .int ((0 : Int32))), (0, .ref (w.1 a0)), (1, .int x1)] dJ7_fill_53178_1 rfl (by decide) rfl ?_
  refine ww_aload_n (pc := 2) hC dJ7_fill_53178_2 1 rfl ?_
  refine ww_alen (pc := 3) hC (Int32.ofNat (sL Z a0)) h_a0 (by decide) (by decide) rfl dJ7_fill_53178_3 ?_
  obtain ⟨y1, ey1⟩ : ∃ q, q = Int32.ofNat (sL Z a0) := ⟨_, rfl⟩
  replace h := nm_i h ey1
  refine ww_nmi ey1 ?_
  refine ww_istore_n (pc := 4) hC [(3, .int y1), (2, .int ((0 : Int32))), (0, .ref (w.1 a0)), (1, .int x1)] dJ7_fill_53178_4 rfl (by decide) rfl ?_
  refine ww_sub [2, 3, 1, 0] rfl ?_
  exact j5 _ _ _ _ _ h
noncomputable def fX9_begin_27 (Z : XS) (a0 : Nat) (s0 : Int32) (X : XD) : Option (Unit × XD) := nm (wI X a0 2 s0) (fun X_7 => some ((), X_7))
noncomputable def fX9_begin (Z : XS) (a0 : Nat) (x1 : Int32) (X : XD) : Option (Unit × XD) := bnw (fJ7_fill_53178 Z (a0 + 1) ((0 : Int32)) X) (fun _ X_3 => bnw (fJ7_fill_53178 Z (a0 + 2) ((0 : Int32)) X_3) (fun _ X_6 => if x1 = ((3 : Int32)) then fX9_begin_27 Z a0 ((1 : Int32)) X_6 else fX9_begin_27 Z a0 x1 X_6))
set_option maxHeartbeats 40000000 in
set_option maxRecDepth 100000 in
theorem ceX9_begin {l : Launch} {E : XE} {w : XW} {z : Nat} {Z : XS}  (hL : LayC Z) {a0 : Nat} (h_a0 : KK Z a0 9) {x1 : Int32} {X X1 : XD} {r : Unit} (h : fX9_begin Z a0 x1 X = some (r, X1)) : Ct l E w yX9_begin (wsM yX9_begin cX9_begin 2 none) (rmX 2 0 0) 0 0 [.ref (w.1 a0), .int x1] z z Z Z X X1 none := by
  refine ct_of (by decide) (Nat.le_of_ble_eq_true rfl) ?_
  intro p e s m args below meth c hC hr hin hav
  have j27 : ∀ (s0 : Int32) (X : XD), fX9_begin_27 Z a0 s0 X = some (r, X1) → WW p l e (rmX 2 0 0) s m args below meth c 2 (MQ below (XQ E w z Z X1 none) args s 0 0 (A0 E)) E w 0 0 z Z 27 [] [.int s0, .ref (w.1 a0)] X := by
    intro s0 X h
    unfold fX9_begin_27 at h
    refine ww_putI (pc := 27) hC 9 2 h_a0 RX9 (by decide) (by decide) rfl qf_X9_24 rfl rfl rfl rfl dX9_begin_27 ?_
    obtain ⟨X_7, eX_7⟩ : ∃ q, q = wI X a0 2 s0 := ⟨_, rfl⟩
    replace h := nm_i h eX_7
    refine ww_nmX eX_7 ?_
    exact ww_vret (pc := 30) hC hr h dX9_begin_30
  unfold fX9_begin at h
  refine ww_lv (lv' := [(0, .ref (w.1 a0)), (1, .int x1)]) rfl ?_
  refine ww_aload_n (pc := 0) hC dX9_begin_0 0 rfl ?_
  refine ww_getR (pc := 1) hC 9 0 (a0 + 1) h_a0 RX9 (by decide) (by decide) rfl (lay_9_0 hL h_a0).1 qf_X9_9 rfl dX9_begin_1 ?_
  refine ww_iconst (pc := 4) hC (v := (0 : Int32)) dX9_begin_4 (by decide) ?_
  obtain ⟨_, X_3, h1, h⟩ := bnw_i h
  refine ww_callSv (pc := 5) hC [.ref (w.1 (a0 + 1)), .int ((0 : Int32))] (ceJ7_fill_53178 ⟨((lay_9_0 hL h_a0).2).1, ((lay_9_0 hL h_a0).2).2.1, rfl⟩ h1) ql_X9_18 qt_J7_fill_53178 qn_J7 qc_J7_fill_53178 ⟨by decide, by decide, rfl⟩ rfl ⟨Nat.le_of_ble_eq_true rfl, Nat.le_of_ble_eq_true rfl⟩ (by decide) (rest := []) (Nat.le_of_ble_eq_true rfl) dX9_begin_5 ⟨Nat.le_of_ble_eq_true rfl, Nat.le_of_ble_eq_true rfl⟩ rfl ?_
  refine ww_aload_n (pc := 8) hC dX9_begin_8 0 rfl ?_
  refine ww_getR (pc := 9) hC 9 1 (a0 + 2) h_a0 RX9 (by decide) (by decide) rfl (lay_9_1 hL h_a0).1 qf_X9_15 rfl dX9_begin_9 ?_
  refine ww_iconst (pc := 12) hC (v := (0 : Int32)) dX9_begin_12 (by decide) ?_
  obtain ⟨_, X_6, h4, h⟩ := bnw_i h
  refine ww_callSv (pc := 13) hC [.ref (w.1 (a0 + 2)), .int ((0 : Int32))] (ceJ7_fill_53178 ⟨((lay_9_1 hL h_a0).2).1, ((lay_9_1 hL h_a0).2).2.1, rfl⟩ h4) ql_X9_18 qt_J7_fill_53178 qn_J7 qc_J7_fill_53178 ⟨by decide, by decide, rfl⟩ rfl ⟨Nat.le_of_ble_eq_true rfl, Nat.le_of_ble_eq_true rfl⟩ (by decide) (rest := []) (Nat.le_of_ble_eq_true rfl) dX9_begin_13 ⟨Nat.le_of_ble_eq_true rfl, Nat.le_of_ble_eq_true rfl⟩ rfl ?_
  refine ww_aload_n (pc := 16) hC dX9_begin_16 0 rfl ?_
  refine ww_iload_n (pc := 17) hC dX9_begin_17 1 rfl ?_
  refine ww_iconst (pc := 18) hC (v := (3 : Int32)) dX9_begin_18 (by decide) ?_
  refine ww_icmp_ne (pc := 19) hC h 26 dX9_begin_19 (by decide) (fun h => ?_) (fun h => ?_)
  · refine ww_iload_n (pc := 26) hC dX9_begin_26 1 rfl ?_
    refine ww_sub [] rfl ?_
    exact j27 _ _ h
  · refine ww_iconst (pc := 22) hC (v := (1 : Int32)) dX9_begin_22 (by decide) ?_
    refine ww_goto (pc := 23) hC 27 dX9_begin_23 (by decide) ?_
    refine ww_sub [] rfl ?_
    exact j27 _ _ h
noncomputable def fX9_end_13 (Z : XS) (a0 : Nat) (x2 : Int32) (X : XD) : Option (Unit × XD) := if x2 = 0 then bnw (fJ7_fill_53178 Z (a0 + 2) ((40 : Int32)) X) (fun _ X_6 => some ((), X_6)) else some ((), X)
noncomputable def fX9_end (Z : XS) (a0 : Nat) (x1 : Int32) (x2 : Int32) (X : XD) : Option (Unit × XD) := if x1 = 0 then bnw (fJ7_fill_53178 Z (a0 + 1) ((80 : Int32)) X) (fun _ X_3 => fX9_end_13 Z a0 x2 X_3) else fX9_end_13 Z a0 x2 X
set_option maxHeartbeats 40000000 in
set_option maxRecDepth 100000 in
theorem ceX9_end {l : Launch} {E : XE} {w : XW} {z : Nat} {Z : XS}  (hL : LayC Z) {a0 : Nat} (h_a0 : KK Z a0 9) {x1 : Int32} {x2 : Int32} {X X1 : XD} {r : Unit} (h : fX9_end Z a0 x1 x2 X = some (r, X1)) : Ct l E w yX9_end (wsM yX9_end cX9_end 3 none) (rmX 2 0 0) 0 0 [.ref (w.1 a0), .int x1, .int x2] z z Z Z X X1 none := by
  refine ct_of (by decide) (Nat.le_of_ble_eq_true rfl) ?_
  intro p e s m args below meth c hC hr hin hav
  have j13 : ∀ (x2 : Int32) (X : XD), fX9_end_13 Z a0 x2 X = some (r, X1) → WW p l e (rmX 2 0 0) s m args below meth c 3 (MQ below (XQ E w z Z X1 none) args s 0 0 (A0 E)) E w 0 0 z Z 13 [(0, .ref (w.1 a0)), (2, .int x2)] [] X := by
    intro x2 X h
    unfold fX9_end_13 at h
    refine ww_iload_n (pc := 13) hC dX9_end_13 1 rfl ?_
    refine ww_if_ne (pc := 14) hC h 26 dX9_end_14 (by decide) (fun h => ?_) (fun h => ?_)
    · exact ww_vret (pc := 26) hC hr h dX9_end_26
    · refine ww_aload_n (pc := 17) hC dX9_end_17 0 rfl ?_
      refine ww_getR (pc := 18) hC 9 1 (a0 + 2) h_a0 RX9 (by decide) (by decide) rfl (lay_9_1 hL h_a0).1 qf_X9_15 rfl dX9_end_18 ?_
      refine ww_bipush (pc := 21) hC (v := (40 : Int32)) dX9_end_21 (by decide) ?_
      obtain ⟨_, X_6, h4, h⟩ := bnw_i h
      refine ww_callSv (pc := 23) hC [.ref (w.1 (a0 + 2)), .int ((40 : Int32))] (ceJ7_fill_53178 ⟨((lay_9_1 hL h_a0).2).1, ((lay_9_1 hL h_a0).2).2.1, rfl⟩ h4) ql_X9_18 qt_J7_fill_53178 qn_J7 qc_J7_fill_53178 ⟨by decide, by decide, rfl⟩ rfl ⟨Nat.le_of_ble_eq_true rfl, Nat.le_of_ble_eq_true rfl⟩ (by decide) (rest := []) (Nat.le_of_ble_eq_true rfl) dX9_end_23 ⟨Nat.le_of_ble_eq_true rfl, Nat.le_of_ble_eq_true rfl⟩ rfl ?_
      exact ww_vret (pc := 26) hC hr h dX9_end_26
  unfold fX9_end at h
  refine ww_lv (lv' := [(0, .ref (w.1 a0)), (1, .int x1), (2, .int x2)]) rfl ?_
  refine ww_iload_n (pc := 0) hC dX9_end_0 1 rfl ?_
  refine ww_if_ne (pc := 1) hC h 13 dX9_end_1 (by decide) (fun h => ?_) (fun h => ?_)
  · refine ww_sub [0, 2] rfl ?_
    exact j13 _ _ h
  · refine ww_aload_n (pc := 4) hC dX9_end_4 0 rfl ?_
    refine ww_getR (pc := 5) hC 9 0 (a0 + 1) h_a0 RX9 (by decide) (by decide) rfl (lay_9_0 hL h_a0).1 qf_X9_9 rfl dX9_end_5 ?_
    refine ww_bipush (pc := 8) hC (v := (80 : Int32)) dX9_end_8 (by decide) ?_
    obtain ⟨_, X_3, h1, h⟩ := bnw_i h
    refine ww_callSv (pc := 10) hC [.ref (w.1 (a0 + 1)), .int ((80 : Int32))] (ceJ7_fill_53178 ⟨((lay_9_0 hL h_a0).2).1, ((lay_9_0 hL h_a0).2).2.1, rfl⟩ h1) ql_X9_18 qt_J7_fill_53178 qn_J7 qc_J7_fill_53178 ⟨by decide, by decide, rfl⟩ rfl ⟨Nat.le_of_ble_eq_true rfl, Nat.le_of_ble_eq_true rfl⟩ (by decide) (rest := []) (Nat.le_of_ble_eq_true rfl) dX9_end_10 ⟨Nat.le_of_ble_eq_true rfl, Nat.le_of_ble_eq_true rfl⟩ rfl ?_
    refine ww_sub [0, 2] rfl ?_
    exact j13 _ _ h
noncomputable def fX1_tell_165 (Z : XS) (a0 : Nat) (a1 : Nat) (a2 : Nat) (a3 : Nat) (k34 : Int32 → Int32 → Int32 → Int32 → Int32 → XD → Option (Unit × XD)) (x4 : Int32) (x5 : Int32) (x6 : Int32) (x7 : Int32) (x8 : Int32) (X : XD) : Option (Unit × XD) := nm (x8 + (1 : Int32)) (fun y23 => k34 x4 x5 x6 x7 y23 X)
noncomputable def fX1_tell_171 (Z : XS) (a0 : Nat) (a1 : Nat) (a2 : Nat) (a3 : Nat) (x5 : Int32) (x6 : Int32) (X : XD) : Option (Unit × XD) := bnw (fX9_end Z a3 x5 x6 X) (fun _ X_22 => some ((), X_22))
noncomputable def fX1_tell_34 (Z : XS) (a0 : Nat) (a1 : Nat) (a2 : Nat) (a3 : Nat) (n : Nat) : Int32 → Int32 → Int32 → Int32 → Int32 → XD → Option (Unit × XD) := Nat.rec (motive := fun _ => Int32 → Int32 → Int32 → Int32 → Int32 → XD → Option (Unit × XD)) (fun _ _ _ _ _ _ => none) (fun _ f => fun x4 x5 x6 x7 x8 X => if (X.1 a0 4) ≤ x8 then fX1_tell_171 Z a0 a1 a2 a3 x5 x6 X else if ((10 : Int32)) ≤ x8 then fX1_tell_171 Z a0 a1 a2 a3 x5 x6 X else gin x8 10 (gin x8 10 (bnd (fX1_holds Z a0 (X.1 (a0 + 3) (x8).toNatClampNeg) (X.1 (a0 + 4) (x8).toNatClampNeg) X) (fun r10 => gin x8 10 (if (X.1 (a0 + 1) (x8).toNatClampNeg) = 0 then gin x8 10 (bnw (fX9_addSure Z a3 r10 (X.1 (a0 + 2) (x8).toNatClampNeg) X) (fun _ X_19 => fX1_tell_165 Z a0 a1 a2 a3 (f) x4 ((1 : Int32)) x6 x7 x8 X_19)) else gin x8 10 (if (X.1 (a0 + 1) (x8).toNatClampNeg) = ((1 : Int32)) then gin x8 10 (bnw (fX9_addSaves Z a3 r10 (X.1 (a0 + 2) (x8).toNatClampNeg) X) (fun _ X_16 => fX1_tell_165 Z a0 a1 a2 a3 (f) x4 x5 ((1 : Int32)) x7 x8 X_16)) else if x7 = 0 then if ((r10 >>> (x4 &&& 31)) &&& ((1 : Int32))) = ((1 : Int32)) then gin x8 10 (bnd (fX1_sideOf Z (X.1 (a0 + 1) (x8).toNatClampNeg) X) (fun r12 => nm (wI X a3 2 r12) (fun X_13 => fX1_tell_165 Z a0 a1 a2 a3 (f) x4 x5 x6 ((1 : Int32)) x8 X_13))) else fX1_tell_165 Z a0 a1 a2 a3 (f) x4 x5 x6 x7 x8 X else fX1_tell_165 Z a0 a1 a2 a3 (f) x4 x5 x6 x7 x8 X)))))) n
theorem fX1_tell_34_s (Z : XS) (a0 : Nat) (a1 : Nat) (a2 : Nat) (a3 : Nat) (n : Nat) (x4 : Int32) (x5 : Int32) (x6 : Int32) (x7 : Int32) (x8 : Int32) (X : XD) : fX1_tell_34 Z a0 a1 a2 a3 (n + 1) x4 x5 x6 x7 x8 X = if (X.1 a0 4) ≤ x8 then fX1_tell_171 Z a0 a1 a2 a3 x5 x6 X else if ((10 : Int32)) ≤ x8 then fX1_tell_171 Z a0 a1 a2 a3 x5 x6 X else gin x8 10 (gin x8 10 (bnd (fX1_holds Z a0 (X.1 (a0 + 3) (x8).toNatClampNeg) (X.1 (a0 + 4) (x8).toNatClampNeg) X) (fun r10 => gin x8 10 (if (X.1 (a0 + 1) (x8).toNatClampNeg) = 0 then gin x8 10 (bnw (fX9_addSure Z a3 r10 (X.1 (a0 + 2) (x8).toNatClampNeg) X) (fun _ X_19 => fX1_tell_165 Z a0 a1 a2 a3 ((fX1_tell_34 Z a0 a1 a2 a3 n)) x4 ((1 : Int32)) x6 x7 x8 X_19)) else gin x8 10 (if (X.1 (a0 + 1) (x8).toNatClampNeg) = ((1 : Int32)) then gin x8 10 (bnw (fX9_addSaves Z a3 r10 (X.1 (a0 + 2) (x8).toNatClampNeg) X) (fun _ X_16 => fX1_tell_165 Z a0 a1 a2 a3 ((fX1_tell_34 Z a0 a1 a2 a3 n)) x4 x5 ((1 : Int32)) x7 x8 X_16)) else if x7 = 0 then if ((r10 >>> (x4 &&& 31)) &&& ((1 : Int32))) = ((1 : Int32)) then gin x8 10 (bnd (fX1_sideOf Z (X.1 (a0 + 1) (x8).toNatClampNeg) X) (fun r12 => nm (wI X a3 2 r12) (fun X_13 => fX1_tell_165 Z a0 a1 a2 a3 ((fX1_tell_34 Z a0 a1 a2 a3 n)) x4 x5 x6 ((1 : Int32)) x8 X_13))) else fX1_tell_165 Z a0 a1 a2 a3 ((fX1_tell_34 Z a0 a1 a2 a3 n)) x4 x5 x6 x7 x8 X else fX1_tell_165 Z a0 a1 a2 a3 ((fX1_tell_34 Z a0 a1 a2 a3 n)) x4 x5 x6 x7 x8 X))))) := rfl
noncomputable def fX1_tell (Z : XS) (a0 : Nat) (a1 : Nat) (a2 : Nat) (a3 : Nat) (X : XD) : Option (Unit × XD) := bnd (fX6_lastOf Z a1 (X.1 a2 0) X) (fun r2 => bnw (fX1_setValues Z a0 a1 a2 X) (fun _ X_5 => bnw (fX9_begin Z a3 r2 X_5) (fun _ X_8 => fX1_tell_34 Z a0 a1 a2 a3 FU r2 ((0 : Int32)) ((0 : Int32)) ((0 : Int32)) ((0 : Int32)) X_8)))
set_option maxHeartbeats 40000000 in
set_option maxRecDepth 100000 in
theorem ceX1_tell {l : Launch} {E : XE} {w : XW} {z : Nat} {Z : XS}  (hL : LayC Z) {a0 : Nat} (h_a0 : KK Z a0 1) {a1 : Nat} (h_a1 : KK Z a1 6) {a2 : Nat} (h_a2 : KS Z a2) {a3 : Nat} (h_a3 : KK Z a3 9) {X X1 : XD} {r : Unit} (h : fX1_tell Z a0 a1 a2 a3 X = some (r, X1)) : Ct l E w yX1_tell (wsM yX1_tell cX1_tell 10 none) (rmX 4 0 0) 0 0 [.ref (w.1 a0), .ref (w.1 a1), .ref (w.1 a2), .ref (w.1 a3)] z z Z Z X X1 none := by
  refine ct_of (by decide) (Nat.le_of_ble_eq_true rfl) ?_
  intro p e s m args below meth c hC hr hin hav
  have j165 : ∀ (k34 : Int32 → Int32 → Int32 → Int32 → Int32 → XD → Option (Unit × XD)) (hk34 : ∀ (x4 : Int32) (x5 : Int32) (x6 : Int32) (x7 : Int32) (x8 : Int32) (X : XD), k34 x4 x5 x6 x7 x8 X = some (r, X1) → WW p l e (rmX 4 0 0) s m args below meth c 10 (MQ below (XQ E w z Z X1 none) args s 0 0 (A0 E)) E w 0 0 z Z 34 [(0, .ref (w.1 a0)), (3, .ref (w.1 a3)), (4, .int x4), (5, .int x5), (6, .int x6), (7, .int x7), (8, .int x8)] [] X), ∀ (x4 : Int32) (x5 : Int32) (x6 : Int32) (x7 : Int32) (x8 : Int32) (X : XD), fX1_tell_165 Z a0 a1 a2 a3 k34 x4 x5 x6 x7 x8 X = some (r, X1) → WW p l e (rmX 4 0 0) s m args below meth c 10 (MQ below (XQ E w z Z X1 none) args s 0 0 (A0 E)) E w 0 0 z Z 165 [(0, .ref (w.1 a0)), (3, .ref (w.1 a3)), (4, .int x4), (5, .int x5), (6, .int x6), (7, .int x7), (8, .int x8)] [] X := by
    intro k34 hk34 x4 x5 x6 x7 x8 X h
    unfold fX1_tell_165 at h
    obtain ⟨y23, ey23⟩ : ∃ q, q = x8 + (1 : Int32) := ⟨_, rfl⟩
    replace h := nm_i h ey23
    refine ww_iinc (pc := 165) hC y23 [(8, .int y23), (0, .ref (w.1 a0)), (3, .ref (w.1 a3)), (4, .int x4), (5, .int x5), (6, .int x6), (7, .int x7)] dX1_tell_165 6 rfl (by rw [ey23]; rfl) (by decide) rfl ?_
    refine ww_goto (pc := 168) hC 34 dX1_tell_168 (by decide) ?_
    refine ww_sub [1, 2, 3, 4, 5, 6, 0] rfl ?_
    exact hk34 _ _ _ _ _ _ h
  have j171 : ∀ (x5 : Int32) (x6 : Int32) (X : XD), fX1_tell_171 Z a0 a1 a2 a3 x5 x6 X = some (r, X1) → WW p l e (rmX 4 0 0) s m args below meth c 10 (MQ below (XQ E w z Z X1 none) args s 0 0 (A0 E)) E w 0 0 z Z 171 [(3, .ref (w.1 a3)), (5, .int x5), (6, .int x6)] [] X := by
    intro x5 x6 X h
    unfold fX1_tell_171 at h
    refine ww_aload_n (pc := 171) hC dX1_tell_171 0 rfl ?_
    refine ww_iload (pc := 172) hC dX1_tell_172 1 rfl ?_
    refine ww_iload (pc := 174) hC dX1_tell_174 2 rfl ?_
    obtain ⟨_, X_22, h20, h⟩ := bnw_i h
    refine ww_callVv (pc := 176) hC [.int x5, .int x6] h_a3.1 h_a3.2 (by decide) (ceX9_end hL h_a3 h20) ql_X1_162 qi_X9_end qs_X9_X9_end qn_X9 qc_X9_end rfl ⟨by decide, by decide, rfl⟩ rfl ⟨Nat.le_of_ble_eq_true rfl, Nat.le_of_ble_eq_true rfl⟩ (by decide) (rest := []) (Nat.le_of_ble_eq_true rfl) dX1_tell_176 ⟨Nat.le_of_ble_eq_true rfl, Nat.le_of_ble_eq_true rfl⟩ rfl ?_
    exact ww_vret (pc := 179) hC hr h dX1_tell_179
  have j34 : ∀ (n : Nat), ∀ (x4 : Int32) (x5 : Int32) (x6 : Int32) (x7 : Int32) (x8 : Int32) (X : XD), fX1_tell_34 Z a0 a1 a2 a3 n x4 x5 x6 x7 x8 X = some (r, X1) → WW p l e (rmX 4 0 0) s m args below meth c 10 (MQ below (XQ E w z Z X1 none) args s 0 0 (A0 E)) E w 0 0 z Z 34 [(0, .ref (w.1 a0)), (3, .ref (w.1 a3)), (4, .int x4), (5, .int x5), (6, .int x6), (7, .int x7), (8, .int x8)] [] X := by
    intro n
    induction n with
    | zero =>
      intro x4 x5 x6 x7 x8 X h
      cases (show none = some (r, X1) from h)
    | succ n ih =>
      intro x4 x5 x6 x7 x8 X h
      rw [fX1_tell_34_s] at h
      refine ww_iload (pc := 34) hC dX1_tell_34 6 rfl ?_
      refine ww_aload_n (pc := 36) hC dX1_tell_36 0 rfl ?_
      refine ww_getI (pc := 37) hC 1 4 h_a0 RX1 (by decide) (by decide) rfl qf_X1_30 (Or.inl rfl) dX1_tell_37 ?_
      refine ww_icmp_ge (pc := 40) hC h 171 dX1_tell_40 (by decide) (fun h => ?_) (fun h => ?_)
      · refine ww_sub [1, 3, 4] rfl ?_
        exact j171 _ _ _ h
      · refine ww_iload (pc := 43) hC dX1_tell_43 6 rfl ?_
        refine ww_aload_n (pc := 45) hC dX1_tell_45 0 rfl ?_
        refine ww_getR (pc := 46) hC 1 0 (a0 + 1) h_a0 RX1 (by decide) (by decide) rfl (lay_1_0 hL h_a0).1 qf_X1_9 rfl dX1_tell_46 ?_
        refine ww_alen (pc := 49) hC ((10 : Int32)) ((lay_1_0 hL h_a0).2) (by decide) (by decide) rfl dX1_tell_49 ?_
        refine ww_icmp_ge (pc := 50) hC h 171 dX1_tell_50 (by decide) (fun h => ?_) (fun h => ?_)
        · refine ww_sub [1, 3, 4] rfl ?_
          exact j171 _ _ _ h
        · refine ww_aload_n (pc := 53) hC dX1_tell_53 0 rfl ?_
          refine ww_aload_n (pc := 54) hC dX1_tell_54 0 rfl ?_
          refine ww_getR (pc := 55) hC 1 2 (a0 + 3) h_a0 RX1 (by decide) (by decide) rfl (lay_1_2 hL h_a0).1 qf_X1_18 rfl dX1_tell_55 ?_
          refine ww_iload (pc := 58) hC dX1_tell_58 6 rfl ?_
          refine ww_iald (pc := 60) hC ((lay_1_2 hL h_a0).2) h dX1_tell_60 (fun h => ?_)
          refine ww_aload_n (pc := 61) hC dX1_tell_61 0 rfl ?_
          refine ww_getR (pc := 62) hC 1 3 (a0 + 4) h_a0 RX1 (by decide) (by decide) rfl (lay_1_3 hL h_a0).1 qf_X1_21 rfl dX1_tell_62 ?_
          refine ww_iload (pc := 65) hC dX1_tell_65 6 rfl ?_
          refine ww_iald (pc := 67) hC ((lay_1_3 hL h_a0).2) h dX1_tell_67 (fun h => ?_)
          obtain ⟨r10, h9, h⟩ := bnd_i h
          refine ww_callVi (pc := 68) hC [.int (X.1 (a0 + 3) (x8).toNatClampNeg), .int (X.1 (a0 + 4) (x8).toNatClampNeg)] h_a0.1 h_a0.2 (by decide) (ceX1_holds hL h_a0 h9) ql_X1_146 qi_X1_holds qs_X1_X1_holds qn_X1 qc_X1_holds rfl ⟨by decide, by decide, rfl⟩ rfl ⟨Nat.le_of_ble_eq_true rfl, Nat.le_of_ble_eq_true rfl⟩ (by decide) (rest := []) (Nat.le_of_ble_eq_true rfl) dX1_tell_68 ⟨Nat.le_of_ble_eq_true rfl, Nat.le_of_ble_eq_true rfl⟩ rfl ?_
          refine ww_istore (pc := 71) hC [(9, .int r10), (0, .ref (w.1 a0)), (3, .ref (w.1 a3)), (4, .int x4), (5, .int x5), (6, .int x6), (7, .int x7), (8, .int x8)] dX1_tell_71  (by decide) rfl ?_
          refine ww_aload_n (pc := 73) hC dX1_tell_73 1 rfl ?_
          refine ww_getR (pc := 74) hC 1 0 (a0 + 1) h_a0 RX1 (by decide) (by decide) rfl (lay_1_0 hL h_a0).1 qf_X1_9 rfl dX1_tell_74 ?_
          refine ww_iload (pc := 77) hC dX1_tell_77 7 rfl ?_
          refine ww_iald (pc := 79) hC ((lay_1_0 hL h_a0).2) h dX1_tell_79 (fun h => ?_)
          refine ww_if_ne (pc := 80) hC h 102 dX1_tell_80 (by decide) (fun h => ?_) (fun h => ?_)
          · refine ww_aload_n (pc := 102) hC dX1_tell_102 1 rfl ?_
            refine ww_getR (pc := 103) hC 1 0 (a0 + 1) h_a0 RX1 (by decide) (by decide) rfl (lay_1_0 hL h_a0).1 qf_X1_9 rfl dX1_tell_103 ?_
            refine ww_iload (pc := 106) hC dX1_tell_106 7 rfl ?_
            refine ww_iald (pc := 108) hC ((lay_1_0 hL h_a0).2) h dX1_tell_108 (fun h => ?_)
            refine ww_iconst (pc := 109) hC (v := (1 : Int32)) dX1_tell_109 (by decide) ?_
            refine ww_icmp_ne (pc := 110) hC h 132 dX1_tell_110 (by decide) (fun h => ?_) (fun h => ?_)
            · refine ww_iload (pc := 132) hC dX1_tell_132 6 rfl ?_
              refine ww_if_ne (pc := 134) hC h 165 dX1_tell_134 (by decide) (fun h => ?_) (fun h => ?_)
              · refine ww_sub [1, 2, 3, 4, 5, 6, 7] rfl ?_
                exact j165 _ ih _ _ _ _ _ _ h
              · refine ww_iload (pc := 137) hC dX1_tell_137 0 rfl ?_
                refine ww_iload (pc := 139) hC dX1_tell_139 3 rfl ?_
                refine ww_ishr (pc := 141) hC dX1_tell_141 ?_
                refine ww_iconst (pc := 142) hC (v := (1 : Int32)) dX1_tell_142 (by decide) ?_
                refine ww_iand (pc := 143) hC dX1_tell_143 ?_
                refine ww_iconst (pc := 144) hC (v := (1 : Int32)) dX1_tell_144 (by decide) ?_
                refine ww_icmp_ne (pc := 145) hC h 165 dX1_tell_145 (by decide) (fun h => ?_) (fun h => ?_)
                · refine ww_sub [1, 2, 3, 4, 5, 6, 7] rfl ?_
                  exact j165 _ ih _ _ _ _ _ _ h
                · refine ww_iconst (pc := 148) hC (v := (1 : Int32)) dX1_tell_148 (by decide) ?_
                  refine ww_istore (pc := 149) hC [(7, .int ((1 : Int32))), (9, .int r10), (0, .ref (w.1 a0)), (3, .ref (w.1 a3)), (4, .int x4), (5, .int x5), (6, .int x6), (8, .int x8)] dX1_tell_149  (by decide) rfl ?_
                  refine ww_aload_n (pc := 151) hC dX1_tell_151 3 rfl ?_
                  refine ww_aload_n (pc := 152) hC dX1_tell_152 2 rfl ?_
                  refine ww_getR (pc := 153) hC 1 0 (a0 + 1) h_a0 RX1 (by decide) (by decide) rfl (lay_1_0 hL h_a0).1 qf_X1_9 rfl dX1_tell_153 ?_
                  refine ww_iload (pc := 156) hC dX1_tell_156 7 rfl ?_
                  refine ww_iald (pc := 158) hC ((lay_1_0 hL h_a0).2) h dX1_tell_158 (fun h => ?_)
                  obtain ⟨r12, h11, h⟩ := bnd_i h
                  refine ww_callSi (pc := 159) hC [.int (X.1 (a0 + 1) (x8).toNatClampNeg)] (ceX1_sideOf hL h11) ql_X1_156 qt_X1_sideOf qn_X1 qc_X1_sideOf ⟨by decide, by decide, rfl⟩ rfl ⟨Nat.le_of_ble_eq_true rfl, Nat.le_of_ble_eq_true rfl⟩ (by decide) (rest := [.ref (w.1 a3)]) (Nat.le_of_ble_eq_true rfl) dX1_tell_159 ⟨Nat.le_of_ble_eq_true rfl, Nat.le_of_ble_eq_true rfl⟩ rfl ?_
                  refine ww_putI (pc := 162) hC 9 2 h_a3 RX9 (by decide) (by decide) rfl qf_X1_159 rfl rfl rfl rfl dX1_tell_162 ?_
                  obtain ⟨X_13, eX_13⟩ : ∃ q, q = wI X a3 2 r12 := ⟨_, rfl⟩
                  replace h := nm_i h eX_13
                  refine ww_nmX eX_13 ?_
                  refine ww_sub [2, 3, 4, 5, 6, 0, 7] rfl ?_
                  exact j165 _ ih _ _ _ _ _ _ h
            · refine ww_iconst (pc := 113) hC (v := (1 : Int32)) dX1_tell_113 (by decide) ?_
              refine ww_istore (pc := 114) hC [(6, .int ((1 : Int32))), (9, .int r10), (0, .ref (w.1 a0)), (3, .ref (w.1 a3)), (4, .int x4), (5, .int x5), (7, .int x7), (8, .int x8)] dX1_tell_114  (by decide) rfl ?_
              refine ww_aload_n (pc := 116) hC dX1_tell_116 3 rfl ?_
              refine ww_iload (pc := 117) hC dX1_tell_117 1 rfl ?_
              refine ww_aload_n (pc := 119) hC dX1_tell_119 2 rfl ?_
              refine ww_getR (pc := 120) hC 1 1 (a0 + 2) h_a0 RX1 (by decide) (by decide) rfl (lay_1_1 hL h_a0).1 qf_X1_15 rfl dX1_tell_120 ?_
              refine ww_iload (pc := 123) hC dX1_tell_123 7 rfl ?_
              refine ww_iald (pc := 125) hC ((lay_1_1 hL h_a0).2) h dX1_tell_125 (fun h => ?_)
              obtain ⟨_, X_16, h14, h⟩ := bnw_i h
              refine ww_callVv (pc := 126) hC [.int r10, .int (X.1 (a0 + 2) (x8).toNatClampNeg)] h_a3.1 h_a3.2 (by decide) (ceX9_addSaves hL h_a3 h14) ql_X1_153 qi_X9_addSaves qs_X9_X9_addSaves qn_X9 qc_X9_addSaves rfl ⟨by decide, by decide, rfl⟩ rfl ⟨Nat.le_of_ble_eq_true rfl, Nat.le_of_ble_eq_true rfl⟩ (by decide) (rest := []) (Nat.le_of_ble_eq_true rfl) dX1_tell_126 ⟨Nat.le_of_ble_eq_true rfl, Nat.le_of_ble_eq_true rfl⟩ rfl ?_
              refine ww_goto (pc := 129) hC 165 dX1_tell_129 (by decide) ?_
              refine ww_sub [2, 3, 4, 5, 0, 6, 7] rfl ?_
              exact j165 _ ih _ _ _ _ _ _ h
          · refine ww_iconst (pc := 83) hC (v := (1 : Int32)) dX1_tell_83 (by decide) ?_
            refine ww_istore (pc := 84) hC [(5, .int ((1 : Int32))), (9, .int r10), (0, .ref (w.1 a0)), (3, .ref (w.1 a3)), (4, .int x4), (6, .int x6), (7, .int x7), (8, .int x8)] dX1_tell_84  (by decide) rfl ?_
            refine ww_aload_n (pc := 86) hC dX1_tell_86 3 rfl ?_
            refine ww_iload (pc := 87) hC dX1_tell_87 1 rfl ?_
            refine ww_aload_n (pc := 89) hC dX1_tell_89 2 rfl ?_
            refine ww_getR (pc := 90) hC 1 1 (a0 + 2) h_a0 RX1 (by decide) (by decide) rfl (lay_1_1 hL h_a0).1 qf_X1_15 rfl dX1_tell_90 ?_
            refine ww_iload (pc := 93) hC dX1_tell_93 7 rfl ?_
            refine ww_iald (pc := 95) hC ((lay_1_1 hL h_a0).2) h dX1_tell_95 (fun h => ?_)
            obtain ⟨_, X_19, h17, h⟩ := bnw_i h
            refine ww_callVv (pc := 96) hC [.int r10, .int (X.1 (a0 + 2) (x8).toNatClampNeg)] h_a3.1 h_a3.2 (by decide) (ceX9_addSure hL h_a3 h17) ql_X1_149 qi_X9_addSure qs_X9_X9_addSure qn_X9 qc_X9_addSure rfl ⟨by decide, by decide, rfl⟩ rfl ⟨Nat.le_of_ble_eq_true rfl, Nat.le_of_ble_eq_true rfl⟩ (by decide) (rest := []) (Nat.le_of_ble_eq_true rfl) dX1_tell_96 ⟨Nat.le_of_ble_eq_true rfl, Nat.le_of_ble_eq_true rfl⟩ rfl ?_
            refine ww_goto (pc := 99) hC 165 dX1_tell_99 (by decide) ?_
            refine ww_sub [2, 3, 4, 0, 5, 6, 7] rfl ?_
            exact j165 _ ih _ _ _ _ _ _ h
  unfold fX1_tell at h
  refine ww_lv (lv' := [(0, .ref (w.1 a0)), (1, .ref (w.1 a1)), (2, .ref (w.1 a2)), (3, .ref (w.1 a3))]) rfl ?_
  refine ww_aload_n (pc := 0) hC dX1_tell_0 1 rfl ?_
  refine ww_aload_n (pc := 1) hC dX1_tell_1 2 rfl ?_
  refine ww_getS (pc := 2) hC 0 (by decide) h_a2 RX4 "number" rfl qf_X1_127 (Or.inl rfl) dX1_tell_2 ?_
  obtain ⟨r2, h1, h⟩ := bnd_i h
  refine ww_callVi (pc := 5) hC [.int (X.1 a2 0)] h_a1.1 h_a1.2 (by decide) (ceX6_lastOf hL h_a1 h1) ql_X1_131 qi_X6_lastOf qs_X6_X6_lastOf qn_X6 qc_X6_lastOf rfl ⟨by decide, by decide, rfl⟩ rfl ⟨Nat.le_of_ble_eq_true rfl, Nat.le_of_ble_eq_true rfl⟩ (by decide) (rest := []) (Nat.le_of_ble_eq_true rfl) dX1_tell_5 ⟨Nat.le_of_ble_eq_true rfl, Nat.le_of_ble_eq_true rfl⟩ rfl ?_
  refine ww_istore (pc := 8) hC [(4, .int r2), (0, .ref (w.1 a0)), (1, .ref (w.1 a1)), (2, .ref (w.1 a2)), (3, .ref (w.1 a3))] dX1_tell_8  (by decide) rfl ?_
  refine ww_aload_n (pc := 10) hC dX1_tell_10 1 rfl ?_
  refine ww_aload_n (pc := 11) hC dX1_tell_11 2 rfl ?_
  refine ww_aload_n (pc := 12) hC dX1_tell_12 3 rfl ?_
  obtain ⟨_, X_5, h3, h⟩ := bnw_i h
  refine ww_callVv (pc := 13) hC [.ref (w.1 a1), .ref (w.1 a2)] h_a0.1 h_a0.2 (by decide) (ceX1_setValues hL h_a0 h_a1 h_a2 h3) ql_X1_136 qi_X1_setValues qs_X1_X1_setValues qn_X1 qc_X1_setValues rfl ⟨by decide, by decide, rfl⟩ rfl ⟨Nat.le_of_ble_eq_true rfl, Nat.le_of_ble_eq_true rfl⟩ (by decide) (rest := []) (Nat.le_of_ble_eq_true rfl) dX1_tell_13 ⟨Nat.le_of_ble_eq_true rfl, Nat.le_of_ble_eq_true rfl⟩ rfl ?_
  refine ww_aload_n (pc := 16) hC dX1_tell_16 4 rfl ?_
  refine ww_iload (pc := 17) hC dX1_tell_17 0 rfl ?_
  obtain ⟨_, X_8, h6, h⟩ := bnw_i h
  refine ww_callVv (pc := 19) hC [.int r2] h_a3.1 h_a3.2 (by decide) (ceX9_begin hL h_a3 h6) ql_X1_140 qi_X9_begin qs_X9_X9_begin qn_X9 qc_X9_begin rfl ⟨by decide, by decide, rfl⟩ rfl ⟨Nat.le_of_ble_eq_true rfl, Nat.le_of_ble_eq_true rfl⟩ (by decide) (rest := []) (Nat.le_of_ble_eq_true rfl) dX1_tell_19 ⟨Nat.le_of_ble_eq_true rfl, Nat.le_of_ble_eq_true rfl⟩ rfl ?_
  refine ww_iconst (pc := 22) hC (v := (0 : Int32)) dX1_tell_22 (by decide) ?_
  refine ww_istore (pc := 23) hC [(5, .int ((0 : Int32))), (4, .int r2), (0, .ref (w.1 a0)), (1, .ref (w.1 a1)), (2, .ref (w.1 a2)), (3, .ref (w.1 a3))] dX1_tell_23  (by decide) rfl ?_
  refine ww_iconst (pc := 25) hC (v := (0 : Int32)) dX1_tell_25 (by decide) ?_
  refine ww_istore (pc := 26) hC [(6, .int ((0 : Int32))), (5, .int ((0 : Int32))), (4, .int r2), (0, .ref (w.1 a0)), (1, .ref (w.1 a1)), (2, .ref (w.1 a2)), (3, .ref (w.1 a3))] dX1_tell_26  (by decide) rfl ?_
  refine ww_iconst (pc := 28) hC (v := (0 : Int32)) dX1_tell_28 (by decide) ?_
  refine ww_istore (pc := 29) hC [(7, .int ((0 : Int32))), (6, .int ((0 : Int32))), (5, .int ((0 : Int32))), (4, .int r2), (0, .ref (w.1 a0)), (1, .ref (w.1 a1)), (2, .ref (w.1 a2)), (3, .ref (w.1 a3))] dX1_tell_29  (by decide) rfl ?_
  refine ww_iconst (pc := 31) hC (v := (0 : Int32)) dX1_tell_31 (by decide) ?_
  refine ww_istore (pc := 32) hC [(8, .int ((0 : Int32))), (7, .int ((0 : Int32))), (6, .int ((0 : Int32))), (5, .int ((0 : Int32))), (4, .int r2), (0, .ref (w.1 a0)), (1, .ref (w.1 a1)), (2, .ref (w.1 a2)), (3, .ref (w.1 a3))] dX1_tell_32  (by decide) rfl ?_
  refine ww_sub [5, 8, 4, 3, 2, 1, 0] rfl ?_
  exact j34 _ _ _ _ _ _ _ h
noncomputable def fX5_side (Z : XS) (a0 : Nat) (a1 : Nat) (a2 : Nat) (X : XD) : Option Int32 := bnd (fX6_lastOf Z a2 (X.1 a0 0) X) (fun r2 => if r2 = ((3 : Int32)) then bnd (fX4_side Z a0 a1 a2 X) (fun r4 => some r4) else some r2)
set_option maxHeartbeats 40000000 in
set_option maxRecDepth 100000 in
theorem ceX5_side {l : Launch} {E : XE} {w : XW} {z : Nat} {Z : XS}  (hL : LayC Z) {a0 : Nat} (h_a0 : KS Z a0) {a1 : Nat} (h_a1 : KK Z a1 9) {a2 : Nat} (h_a2 : KK Z a2 6) {X : XD} {r : Int32} (h : fX5_side Z a0 a1 a2 X = some r) : Ct l E w yX5_side (wsM yX5_side cX5_side 4 (some .int)) (rmX 2 0 0) 0 0 [.ref (w.1 a0), .ref (w.1 a1), .ref (w.1 a2)] z z Z Z X X (some (.int r)) := by
  refine ct_of (by decide) (Nat.le_of_ble_eq_true rfl) ?_
  intro p e s m args below meth c hC hr hin hav
  unfold fX5_side at h
  refine ww_lv (lv' := [(0, .ref (w.1 a0)), (1, .ref (w.1 a1)), (2, .ref (w.1 a2))]) rfl ?_
  refine ww_aload_n (pc := 0) hC dX5_side_0 2 rfl ?_
  refine ww_aload_n (pc := 1) hC dX5_side_1 0 rfl ?_
  refine ww_getS (pc := 2) hC 0 (by decide) h_a0 RX5 "number" rfl qf_X5_9 (Or.inr qd_X5_number) dX5_side_2 ?_
  obtain ⟨r2, h1, h⟩ := bnd_i h
  refine ww_callVi (pc := 5) hC [.int (X.1 a0 0)] h_a2.1 h_a2.2 (by decide) (ceX6_lastOf hL h_a2 h1) ql_X5_15 qi_X6_lastOf qs_X6_X6_lastOf qn_X6 qc_X6_lastOf rfl ⟨by decide, by decide, rfl⟩ rfl ⟨Nat.le_of_ble_eq_true rfl, Nat.le_of_ble_eq_true rfl⟩ (by decide) (rest := []) (Nat.le_of_ble_eq_true rfl) dX5_side_5 ⟨Nat.le_of_ble_eq_true rfl, Nat.le_of_ble_eq_true rfl⟩ rfl ?_
  refine ww_istore_n (pc := 8) hC [(3, .int r2), (0, .ref (w.1 a0)), (1, .ref (w.1 a1)), (2, .ref (w.1 a2))] dX5_side_8 rfl (by decide) rfl ?_
  refine ww_iload_n (pc := 9) hC dX5_side_9 0 rfl ?_
  refine ww_iconst (pc := 10) hC (v := (3 : Int32)) dX5_side_10 (by decide) ?_
  refine ww_icmp_ne (pc := 11) hC h 23 dX5_side_11 (by decide) (fun h => ?_) (fun h => ?_)
  · refine ww_iload_n (pc := 23) hC dX5_side_23 0 rfl ?_
    exact ww_iret (pc := 24) hC hr (ret_r h) dX5_side_24
  · refine ww_aload_n (pc := 14) hC dX5_side_14 1 rfl ?_
    refine ww_aload_n (pc := 15) hC dX5_side_15 2 rfl ?_
    refine ww_aload_n (pc := 16) hC dX5_side_16 3 rfl ?_
    obtain ⟨r4, h3, h⟩ := bnd_i h
    refine ww_callSUi (pc := 17) hC [.ref (w.1 a1), .ref (w.1 a2)] h_a0.1 (KS.lt h_a0) (ceX4_side hL h_a0 h_a1 h_a2 h3) ql_X5_21 qm_X4_X4_side qu_X5 (Or.inl rfl) rfl qi_X4_side qn_X4 qc_X4_side (by decide) rfl rfl ⟨Nat.le_of_ble_eq_true rfl, Nat.le_of_ble_eq_true rfl⟩ (by decide) (rest := []) (Nat.le_of_ble_eq_true rfl) dX5_side_17 ⟨Nat.le_of_ble_eq_true rfl, Nat.le_of_ble_eq_true rfl⟩ rfl ?_
    refine ww_goto (pc := 20) hC 24 dX5_side_20 (by decide) ?_
    exact ww_iret (pc := 24) hC hr (ret_r h) dX5_side_24
noncomputable def fX2_side (Z : XS) (a0 : Nat) (a1 : Nat) (a2 : Nat) (X : XD) : Option Int32 := bnd (fX5_side Z a0 a1 a2 X) (fun r2 => bnd (fX6_shotsOf Z a2 (X.1 a0 0) X) (fun r4 => if ((3 : Int32)) ≤ r4 then some (((2 : Int32)) - r2) else some r2))
set_option maxHeartbeats 40000000 in
set_option maxRecDepth 100000 in
theorem ceX2_side {l : Launch} {E : XE} {w : XW} {z : Nat} {Z : XS}  (hL : LayC Z) {a0 : Nat} (h_a0 : KS Z a0) {a1 : Nat} (h_a1 : KK Z a1 9) {a2 : Nat} (h_a2 : KK Z a2 6) {X : XD} {r : Int32} (h : fX2_side Z a0 a1 a2 X = some r) : Ct l E w yX2_side (wsM yX2_side cX2_side 4 (some .int)) (rmX 3 0 0) 0 0 [.ref (w.1 a0), .ref (w.1 a1), .ref (w.1 a2)] z z Z Z X X (some (.int r)) := by
  refine ct_of (by decide) (Nat.le_of_ble_eq_true rfl) ?_
  intro p e s m args below meth c hC hr hin hav
  unfold fX2_side at h
  refine ww_lv (lv' := [(0, .ref (w.1 a0)), (1, .ref (w.1 a1)), (2, .ref (w.1 a2))]) rfl ?_
  refine ww_aload_n (pc := 0) hC dX2_side_0 0 rfl ?_
  refine ww_aload_n (pc := 1) hC dX2_side_1 1 rfl ?_
  refine ww_aload_n (pc := 2) hC dX2_side_2 2 rfl ?_
  obtain ⟨r2, h1, h⟩ := bnd_i h
  refine ww_callSUi (pc := 3) hC [.ref (w.1 a1), .ref (w.1 a2)] h_a0.1 (KS.lt h_a0) (ceX5_side hL h_a0 h_a1 h_a2 h1) ql_X2_9 qm_X5_X5_side qu_X2 (Or.inl rfl) rfl qi_X5_side qn_X5 qc_X5_side (by decide) rfl rfl ⟨Nat.le_of_ble_eq_true rfl, Nat.le_of_ble_eq_true rfl⟩ (by decide) (rest := []) (Nat.le_of_ble_eq_true rfl) dX2_side_3 ⟨Nat.le_of_ble_eq_true rfl, Nat.le_of_ble_eq_true rfl⟩ rfl ?_
  refine ww_istore_n (pc := 6) hC [(3, .int r2), (0, .ref (w.1 a0)), (1, .ref (w.1 a1)), (2, .ref (w.1 a2))] dX2_side_6 rfl (by decide) rfl ?_
  refine ww_aload_n (pc := 7) hC dX2_side_7 3 rfl ?_
  refine ww_aload_n (pc := 8) hC dX2_side_8 1 rfl ?_
  refine ww_getS (pc := 9) hC 0 (by decide) h_a0 RX2 "number" rfl qf_X2_13 (Or.inr qd_X2_number) dX2_side_9 ?_
  obtain ⟨r4, h3, h⟩ := bnd_i h
  refine ww_callVi (pc := 12) hC [.int (X.1 a0 0)] h_a2.1 h_a2.2 (by decide) (ceX6_shotsOf hL h_a2 h3) ql_X2_19 qi_X6_shotsOf qs_X6_X6_shotsOf qn_X6 qc_X6_shotsOf rfl ⟨by decide, by decide, rfl⟩ rfl ⟨Nat.le_of_ble_eq_true rfl, Nat.le_of_ble_eq_true rfl⟩ (by decide) (rest := []) (Nat.le_of_ble_eq_true rfl) dX2_side_12 ⟨Nat.le_of_ble_eq_true rfl, Nat.le_of_ble_eq_true rfl⟩ rfl ?_
  refine ww_iconst (pc := 15) hC (v := (3 : Int32)) dX2_side_15 (by decide) ?_
  refine ww_icmp_ge (pc := 16) hC h 23 dX2_side_16 (by decide) (fun h => ?_) (fun h => ?_)
  · refine ww_iconst (pc := 23) hC (v := (2 : Int32)) dX2_side_23 (by decide) ?_
    refine ww_iload_n (pc := 24) hC dX2_side_24 0 rfl ?_
    refine ww_isub (pc := 25) hC dX2_side_25 ?_
    exact ww_iret (pc := 26) hC hr (ret_r h) dX2_side_26
  · refine ww_iload_n (pc := 19) hC dX2_side_19 0 rfl ?_
    refine ww_goto (pc := 20) hC 26 dX2_side_20 (by decide) ?_
    exact ww_iret (pc := 26) hC hr (ret_r h) dX2_side_26
noncomputable def fX7_shows (Z : XS) (a0 : Nat) (a2 : Nat) (x1 : Int32) (X : XD) : Option (Int32 × XD) := bnw (fX3_add Z a2 ((70 : Int32)) X) (fun r2 X_3 => bnw (fX4_shows Z a0 a2 x1 X_3) (fun r5 X_6 => bnw (fX4_aims Z a0 a2 ((2 : Int32)) X_6) (fun r8 X_9 => some (r5 + r8, X_9))))
set_option maxHeartbeats 40000000 in
set_option maxRecDepth 100000 in
theorem ceX7_shows {l : Launch} {E : XE} {w : XW} {z : Nat} {Z : XS}  (hL : LayC Z) {a0 : Nat} (h_a0 : KS Z a0) {a2 : Nat} (h_a2 : KK Z a2 3) {x1 : Int32} {X X1 : XD} {r : Int32} (h : fX7_shows Z a0 a2 x1 X = some (r, X1)) : Ct l E w yX7_shows (wsM yX7_shows cX7_shows 4 (some .int)) (rmX 5 0 0) 0 0 [.ref (w.1 a0), .int x1, .ref (w.1 a2)] z z Z Z X X1 (some (.int r)) := by
  refine ct_of (by decide) (Nat.le_of_ble_eq_true rfl) ?_
  intro p e s m args below meth c hC hr hin hav
  unfold fX7_shows at h
  refine ww_lv (lv' := [(0, .ref (w.1 a0)), (1, .int x1), (2, .ref (w.1 a2))]) rfl ?_
  refine ww_aload_n (pc := 0) hC dX7_shows_0 2 rfl ?_
  refine ww_bipush (pc := 1) hC (v := (70 : Int32)) dX7_shows_1 (by decide) ?_
  obtain ⟨r2, X_3, h1, h⟩ := bnw_i h
  refine ww_callVi (pc := 3) hC [.int ((70 : Int32))] h_a2.1 h_a2.2 (by decide) (ceX3_add hL h_a2 h1) ql_X7_34 qi_X3_add qs_X3_X3_add qn_X3 qc_X3_add rfl ⟨by decide, by decide, rfl⟩ rfl ⟨Nat.le_of_ble_eq_true rfl, Nat.le_of_ble_eq_true rfl⟩ (by decide) (rest := []) (Nat.le_of_ble_eq_true rfl) dX7_shows_3 ⟨Nat.le_of_ble_eq_true rfl, Nat.le_of_ble_eq_true rfl⟩ rfl ?_
  refine ww_pop (pc := 6) hC dX7_shows_6 rfl ?_
  refine ww_aload_n (pc := 7) hC dX7_shows_7 0 rfl ?_
  refine ww_iload_n (pc := 8) hC dX7_shows_8 1 rfl ?_
  refine ww_aload_n (pc := 9) hC dX7_shows_9 2 rfl ?_
  obtain ⟨r5, X_6, h4, h⟩ := bnw_i h
  refine ww_callSUi (pc := 10) hC [.int x1, .ref (w.1 a2)] h_a0.1 (KS.lt h_a0) (ceX4_shows hL h_a0 h_a2 h4) ql_X7_40 qm_X10_X4_shows qu_X7 (Or.inr qu_X10) rfl qi_X4_shows qn_X4 qc_X4_shows (by decide) rfl rfl ⟨Nat.le_of_ble_eq_true rfl, Nat.le_of_ble_eq_true rfl⟩ (by decide) (rest := []) (Nat.le_of_ble_eq_true rfl) dX7_shows_10 ⟨Nat.le_of_ble_eq_true rfl, Nat.le_of_ble_eq_true rfl⟩ rfl ?_
  refine ww_istore_n (pc := 13) hC [(3, .int r5), (0, .ref (w.1 a0)), (1, .int x1), (2, .ref (w.1 a2))] dX7_shows_13 rfl (by decide) rfl ?_
  refine ww_iload_n (pc := 14) hC dX7_shows_14 0 rfl ?_
  refine ww_aload_n (pc := 15) hC dX7_shows_15 1 rfl ?_
  refine ww_iconst (pc := 16) hC (v := (2 : Int32)) dX7_shows_16 (by decide) ?_
  refine ww_aload_n (pc := 17) hC dX7_shows_17 3 rfl ?_
  obtain ⟨r8, X_9, h7, h⟩ := bnw_i h
  refine ww_callSUi (pc := 18) hC [.int ((2 : Int32)), .ref (w.1 a2)] h_a0.1 (KS.lt h_a0) (ceX4_aims hL h_a0 h_a2 h7) ql_X7_44 qm_X10_X4_aims qu_X7 (Or.inr qu_X10) rfl qi_X4_aims qn_X4 qc_X4_aims (by decide) rfl rfl ⟨Nat.le_of_ble_eq_true rfl, Nat.le_of_ble_eq_true rfl⟩ (by decide) (rest := [.int r5]) (Nat.le_of_ble_eq_true rfl) dX7_shows_18 ⟨Nat.le_of_ble_eq_true rfl, Nat.le_of_ble_eq_true rfl⟩ rfl ?_
  refine ww_iadd (pc := 21) hC dX7_shows_21 ?_
  exact ww_iret (pc := 22) hC hr h dX7_shows_22
noncomputable def fV_X4_shows (Z : XS) (a0 : Nat) (a2 : Nat) (x1 : Int32) (X : XD) : Option (Int32 × XD) := if sK Z a0 = 0 then fX0_shows Z a0 a2 x1 X else (if sK Z a0 = 2 then fX4_shows Z a0 a2 x1 X else (if sK Z a0 = 4 then fX4_shows Z a0 a2 x1 X else (if sK Z a0 = 5 then fX4_shows Z a0 a2 x1 X else (if sK Z a0 = 7 then fX7_shows Z a0 a2 x1 X else (if sK Z a0 = 8 then fX8_shows Z a0 a2 x1 X else (fX4_shows Z a0 a2 x1 X))))))
set_option maxHeartbeats 4000000 in
theorem vd_X4_shows {p : Program} {l : Launch} {e : Env} {R : Room} {s : State} {m : MethodId} {args : Array Value} {below : List Frame} {meth : Method} {c : Code} {nL : Nat} {Q : State → Prop} {E : XE} {w : XW} {cells slots z : Nat} {Z : XS} {pc idx : Nat} {lv : List (Nat × Value)} {rest : List Value} {X X1 : XD} {cc : ByteArray} {own : String} {a0 : Nat} {x1 : Int32} {a2 : Nat} {r : Int32} (h : CX p s m args meth c E cc nL own) (hL : LayC Z) (hk : KS Z a0) (h_a2 : KK Z a2 3) (hf : fV_X4_shows Z a0 a2 x1 X = some (r, X1)) (w1 : Cond.methodLink own idx yX4_shows ∈ xtb) (hR : 6 + 1 ≤ R.frames ∧ 60 * (6 + 1) ≤ R.locals) (hst : (rest.map fun v => v.category).sum ≤ 8) (hd : decode cc pc = .ok (.invokevirtual idx, 3)) (hfz : cells ≤ R.cells ∧ slots ≤ R.slots)
    (kk : WW p l e R s m args below meth c nL Q E w cells slots z Z (pc + 3) lv (.int r :: rest) X1) : WW p l e R s m args below meth c nL Q E w cells slots z Z pc lv (.ref (w.1 a2) :: .int x1 :: .ref (w.1 a0) :: rest) X := by
  obtain ⟨hn, hs⟩ := id hk
  unfold fV_X4_shows at hf
  unfold isSh at hs
  rcases hs with e1 | e1 | e1 | e1 | e1 | e1 | e1
  · rw [if_pos e1] at hf; exact ww_callOi h [.int x1, .ref (w.1 a2)] hn e1 (by decide) (ceX0_shows hL hk h_a2 hf) w1 qm_X4_X4_shows qi_X4_shows qc_X4_shows qs_X0_X4_shows qi_X0_shows qn_X0 qc_X0_shows ⟨by decide, by decide, rfl⟩ rfl ⟨Nat.le_trans (by decide) hR.1, Nat.le_trans (by decide) hR.2⟩ (by decide) hst hd hfz rfl kk
  · rw [if_neg (by rw [e1]; decide)] at hf; rw [if_pos e1] at hf; exact ww_callOi h [.int x1, .ref (w.1 a2)] hn e1 (by decide) (ceX4_shows hL hk h_a2 hf) w1 qm_X4_X4_shows qi_X4_shows qc_X4_shows qs_X2_X4_shows qi_X4_shows qn_X4 qc_X4_shows ⟨by decide, by decide, rfl⟩ rfl ⟨Nat.le_trans (by decide) hR.1, Nat.le_trans (by decide) hR.2⟩ (by decide) hst hd hfz rfl kk
  · rw [if_neg (by rw [e1]; decide)] at hf; rw [if_neg (by rw [e1]; decide)] at hf; rw [if_pos e1] at hf; exact ww_callOi h [.int x1, .ref (w.1 a2)] hn e1 (by decide) (ceX4_shows hL hk h_a2 hf) w1 qm_X4_X4_shows qi_X4_shows qc_X4_shows qs_X4_X4_shows qi_X4_shows qn_X4 qc_X4_shows ⟨by decide, by decide, rfl⟩ rfl ⟨Nat.le_trans (by decide) hR.1, Nat.le_trans (by decide) hR.2⟩ (by decide) hst hd hfz rfl kk
  · rw [if_neg (by rw [e1]; decide)] at hf; rw [if_neg (by rw [e1]; decide)] at hf; rw [if_neg (by rw [e1]; decide)] at hf; rw [if_pos e1] at hf; exact ww_callOi h [.int x1, .ref (w.1 a2)] hn e1 (by decide) (ceX4_shows hL hk h_a2 hf) w1 qm_X4_X4_shows qi_X4_shows qc_X4_shows qs_X5_X4_shows qi_X4_shows qn_X4 qc_X4_shows ⟨by decide, by decide, rfl⟩ rfl ⟨Nat.le_trans (by decide) hR.1, Nat.le_trans (by decide) hR.2⟩ (by decide) hst hd hfz rfl kk
  · rw [if_neg (by rw [e1]; decide)] at hf; rw [if_neg (by rw [e1]; decide)] at hf; rw [if_neg (by rw [e1]; decide)] at hf; rw [if_neg (by rw [e1]; decide)] at hf; rw [if_pos e1] at hf; exact ww_callOi h [.int x1, .ref (w.1 a2)] hn e1 (by decide) (ceX7_shows hL hk h_a2 hf) w1 qm_X4_X4_shows qi_X4_shows qc_X4_shows qs_X7_X4_shows qi_X7_shows qn_X7 qc_X7_shows ⟨by decide, by decide, rfl⟩ rfl ⟨Nat.le_trans (by decide) hR.1, Nat.le_trans (by decide) hR.2⟩ (by decide) hst hd hfz rfl kk
  · rw [if_neg (by rw [e1]; decide)] at hf; rw [if_neg (by rw [e1]; decide)] at hf; rw [if_neg (by rw [e1]; decide)] at hf; rw [if_neg (by rw [e1]; decide)] at hf; rw [if_neg (by rw [e1]; decide)] at hf; rw [if_pos e1] at hf; exact ww_callOi h [.int x1, .ref (w.1 a2)] hn e1 (by decide) (ceX8_shows hL hk h_a2 hf) w1 qm_X4_X4_shows qi_X4_shows qc_X4_shows qs_X8_X4_shows qi_X8_shows qn_X8 qc_X8_shows ⟨by decide, by decide, rfl⟩ rfl ⟨Nat.le_trans (by decide) hR.1, Nat.le_trans (by decide) hR.2⟩ (by decide) hst hd hfz rfl kk
  · rw [if_neg (by rw [e1]; decide)] at hf; rw [if_neg (by rw [e1]; decide)] at hf; rw [if_neg (by rw [e1]; decide)] at hf; rw [if_neg (by rw [e1]; decide)] at hf; rw [if_neg (by rw [e1]; decide)] at hf; rw [if_neg (by rw [e1]; decide)] at hf; exact ww_callOi h [.int x1, .ref (w.1 a2)] hn e1 (by decide) (ceX4_shows hL hk h_a2 hf) w1 qm_X4_X4_shows qi_X4_shows qc_X4_shows qs_X10_X4_shows qi_X4_shows qn_X4 qc_X4_shows ⟨by decide, by decide, rfl⟩ rfl ⟨Nat.le_trans (by decide) hR.1, Nat.le_trans (by decide) hR.2⟩ (by decide) hst hd hfz rfl kk
noncomputable def fX4_tells (Z : XS) (a0 : Nat) (a2 : Nat) (x1 : Int32) (X : XD) : Option (Int32 × XD) := bnw (fX3_add Z a2 ((12 : Int32)) X) (fun r2 X_3 => bnw (fV_X4_shows Z a0 a2 x1 X_3) (fun r5 X_6 => some (r5 * ((2 : Int32)), X_6)))
set_option maxHeartbeats 40000000 in
set_option maxRecDepth 100000 in
theorem ceX4_tells {l : Launch} {E : XE} {w : XW} {z : Nat} {Z : XS}  (hL : LayC Z) {a0 : Nat} (h_a0 : KS Z a0) {a2 : Nat} (h_a2 : KK Z a2 3) {x1 : Int32} {X X1 : XD} {r : Int32} (h : fX4_tells Z a0 a2 x1 X = some (r, X1)) : Ct l E w yX4_tells (wsM yX4_tells cX4_tells 3 (some .int)) (rmX 7 0 0) 0 0 [.ref (w.1 a0), .int x1, .ref (w.1 a2)] z z Z Z X X1 (some (.int r)) := by
  refine ct_of (by decide) (Nat.le_of_ble_eq_true rfl) ?_
  intro p e s m args below meth c hC hr hin hav
  unfold fX4_tells at h
  refine ww_lv (lv' := [(0, .ref (w.1 a0)), (1, .int x1), (2, .ref (w.1 a2))]) rfl ?_
  refine ww_aload_n (pc := 0) hC dX4_tells_0 2 rfl ?_
  refine ww_bipush (pc := 1) hC (v := (12 : Int32)) dX4_tells_1 (by decide) ?_
  obtain ⟨r2, X_3, h1, h⟩ := bnw_i h
  refine ww_callVi (pc := 3) hC [.int ((12 : Int32))] h_a2.1 h_a2.2 (by decide) (ceX3_add hL h_a2 h1) ql_X4_18 qi_X3_add qs_X3_X3_add qn_X3 qc_X3_add rfl ⟨by decide, by decide, rfl⟩ rfl ⟨Nat.le_of_ble_eq_true rfl, Nat.le_of_ble_eq_true rfl⟩ (by decide) (rest := []) (Nat.le_of_ble_eq_true rfl) dX4_tells_3 ⟨Nat.le_of_ble_eq_true rfl, Nat.le_of_ble_eq_true rfl⟩ rfl ?_
  refine ww_pop (pc := 6) hC dX4_tells_6 rfl ?_
  refine ww_aload_n (pc := 7) hC dX4_tells_7 0 rfl ?_
  refine ww_iload_n (pc := 8) hC dX4_tells_8 1 rfl ?_
  refine ww_aload_n (pc := 9) hC dX4_tells_9 2 rfl ?_
  obtain ⟨r5, X_6, h4, h⟩ := bnw_i h
  refine vd_X4_shows (pc := 10) hC hL h_a0 h_a2 h4 ql_X4_28 ⟨Nat.le_of_ble_eq_true rfl, Nat.le_of_ble_eq_true rfl⟩ (Nat.le_of_ble_eq_true rfl) dX4_tells_10 ⟨Nat.le_of_ble_eq_true rfl, Nat.le_of_ble_eq_true rfl⟩ ?_
  refine ww_iconst (pc := 13) hC (v := (2 : Int32)) dX4_tells_13 (by decide) ?_
  refine ww_imul (pc := 14) hC dX4_tells_14 ?_
  exact ww_iret (pc := 15) hC hr h dX4_tells_15
noncomputable def fX2_tells (Z : XS) (a0 : Nat) (a2 : Nat) (x1 : Int32) (X : XD) : Option (Int32 × XD) := bnw (fX3_add Z a2 ((60 : Int32)) X) (fun r2 X_3 => bnw (fX4_tells Z a0 a2 (x1 - (X_3.1 a0 0)) X_3) (fun r5 X_6 => some (r5, X_6)))
set_option maxHeartbeats 40000000 in
set_option maxRecDepth 100000 in
theorem ceX2_tells {l : Launch} {E : XE} {w : XW} {z : Nat} {Z : XS}  (hL : LayC Z) {a0 : Nat} (h_a0 : KS Z a0) {a2 : Nat} (h_a2 : KK Z a2 3) {x1 : Int32} {X X1 : XD} {r : Int32} (h : fX2_tells Z a0 a2 x1 X = some (r, X1)) : Ct l E w yX2_tells (wsM yX2_tells cX2_tells 3 (some .int)) (rmX 8 0 0) 0 0 [.ref (w.1 a0), .int x1, .ref (w.1 a2)] z z Z Z X X1 (some (.int r)) := by
  refine ct_of (by decide) (Nat.le_of_ble_eq_true rfl) ?_
  intro p e s m args below meth c hC hr hin hav
  unfold fX2_tells at h
  refine ww_lv (lv' := [(0, .ref (w.1 a0)), (1, .int x1), (2, .ref (w.1 a2))]) rfl ?_
  refine ww_aload_n (pc := 0) hC dX2_tells_0 2 rfl ?_
  refine ww_bipush (pc := 1) hC (v := (60 : Int32)) dX2_tells_1 (by decide) ?_
  obtain ⟨r2, X_3, h1, h⟩ := bnw_i h
  refine ww_callVi (pc := 3) hC [.int ((60 : Int32))] h_a2.1 h_a2.2 (by decide) (ceX3_add hL h_a2 h1) ql_X2_25 qi_X3_add qs_X3_X3_add qn_X3 qc_X3_add rfl ⟨by decide, by decide, rfl⟩ rfl ⟨Nat.le_of_ble_eq_true rfl, Nat.le_of_ble_eq_true rfl⟩ (by decide) (rest := []) (Nat.le_of_ble_eq_true rfl) dX2_tells_3 ⟨Nat.le_of_ble_eq_true rfl, Nat.le_of_ble_eq_true rfl⟩ rfl ?_
  refine ww_pop (pc := 6) hC dX2_tells_6 rfl ?_
  refine ww_aload_n (pc := 7) hC dX2_tells_7 0 rfl ?_
  refine ww_iload_n (pc := 8) hC dX2_tells_8 1 rfl ?_
  refine ww_aload_n (pc := 9) hC dX2_tells_9 0 rfl ?_
  refine ww_getS (pc := 10) hC 0 (by decide) h_a0 RX2 "number" rfl qf_X2_13 (Or.inr qd_X2_number) dX2_tells_10 ?_
  refine ww_isub (pc := 13) hC dX2_tells_13 ?_
  refine ww_aload_n (pc := 14) hC dX2_tells_14 2 rfl ?_
  obtain ⟨r5, X_6, h4, h⟩ := bnw_i h
  refine ww_callSUi (pc := 15) hC [.int (x1 - (X_3.1 a0 0)), .ref (w.1 a2)] h_a0.1 (KS.lt h_a0) (ceX4_tells hL h_a0 h_a2 h4) ql_X2_31 qm_X5_X4_tells qu_X2 (Or.inr qu_X5) rfl qi_X4_tells qn_X4 qc_X4_tells (by decide) rfl rfl ⟨Nat.le_of_ble_eq_true rfl, Nat.le_of_ble_eq_true rfl⟩ (by decide) (rest := []) (Nat.le_of_ble_eq_true rfl) dX2_tells_15 ⟨Nat.le_of_ble_eq_true rfl, Nat.le_of_ble_eq_true rfl⟩ rfl ?_
  exact ww_iret (pc := 18) hC hr h dX2_tells_18
noncomputable def fX3_clear (Z : XS) (a0 : Nat) (X : XD) : Option (Int32 × XD) := nm (wI X a0 2 ((0 : Int32))) (fun X_1 => nm (wI X_1 a0 1 ((0 : Int32))) (fun X_2 => some ((0 : Int32), X_2)))
set_option maxHeartbeats 40000000 in
set_option maxRecDepth 100000 in
theorem ceX3_clear {l : Launch} {E : XE} {w : XW} {z : Nat} {Z : XS}  (hL : LayC Z) {a0 : Nat} (h_a0 : KK Z a0 3) {X X1 : XD} {r : Int32} (h : fX3_clear Z a0 X = some (r, X1)) : Ct l E w yX3_clear (wsM yX3_clear cX3_clear 1 (some .int)) (rmX 1 0 0) 0 0 [.ref (w.1 a0)] z z Z Z X X1 (some (.int r)) := by
  refine ct_of (by decide) (Nat.le_of_ble_eq_true rfl) ?_
  intro p e s m args below meth c hC hr hin hav
  unfold fX3_clear at h
  refine ww_lv (lv' := [(0, .ref (w.1 a0))]) rfl ?_
  refine ww_aload_n (pc := 0) hC dX3_clear_0 0 rfl ?_
  refine ww_iconst (pc := 1) hC (v := (0 : Int32)) dX3_clear_1 (by decide) ?_
  refine ww_putI (pc := 2) hC 3 2 h_a0 RX3 (by decide) (by decide) rfl qf_X3_21 rfl rfl rfl rfl dX3_clear_2 ?_
  obtain ⟨X_1, eX_1⟩ : ∃ q, q = wI X a0 2 ((0 : Int32)) := ⟨_, rfl⟩
  replace h := nm_i h eX_1
  refine ww_nmX eX_1 ?_
  refine ww_aload_n (pc := 5) hC dX3_clear_5 0 rfl ?_
  refine ww_iconst (pc := 6) hC (v := (0 : Int32)) dX3_clear_6 (by decide) ?_
  refine ww_putI (pc := 7) hC 3 1 h_a0 RX3 (by decide) (by decide) rfl qf_X3_25 rfl rfl rfl rfl dX3_clear_7 ?_
  obtain ⟨X_2, eX_2⟩ : ∃ q, q = wI X_1 a0 1 ((0 : Int32)) := ⟨_, rfl⟩
  replace h := nm_i h eX_2
  refine ww_nmX eX_2 ?_
  refine ww_iconst (pc := 10) hC (v := (0 : Int32)) dX3_clear_10 (by decide) ?_
  exact ww_iret (pc := 11) hC hr h dX3_clear_11
noncomputable def fX3_takeAll (Z : XS) (a0 : Nat) (a1 : Nat) (X : XD) : Option (Unit × XD) := gcp ((0 : Int32)) ((0 : Int32)) (if (Int32.ofNat (sL Z (a1 + 1))) < (Int32.ofNat (sL Z (a0 + 1))) then (Int32.ofNat (sL Z (a1 + 1))) else (Int32.ofNat (sL Z (a0 + 1)))) (sL Z (a1 + 1)) (sL Z (a0 + 1)) (nm (cpI X (a1 + 1) ((0 : Int32)) (a0 + 1) ((0 : Int32)) (if (Int32.ofNat (sL Z (a1 + 1))) < (Int32.ofNat (sL Z (a0 + 1))) then (Int32.ofNat (sL Z (a1 + 1))) else (Int32.ofNat (sL Z (a0 + 1))))) (fun X_1 => nm (wI X_1 a0 1 (X_1.1 a1 1)) (fun X_2 => nm (wI X_2 a0 2 (X_2.1 a1 2)) (fun X_3 => some ((), X_3)))))
set_option maxHeartbeats 40000000 in
set_option maxRecDepth 100000 in
theorem ceX3_takeAll {l : Launch} {E : XE} {w : XW} {z : Nat} {Z : XS}  (hL : LayC Z) {a0 : Nat} (h_a0 : KK Z a0 3) {a1 : Nat} (h_a1 : KK Z a1 3) {X X1 : XD} {r : Unit} (h : fX3_takeAll Z a0 a1 X = some (r, X1)) : Ct l E w yX3_takeAll (wsM yX3_takeAll cX3_takeAll 2 none) (rmX 1 0 0) 0 0 [.ref (w.1 a0), .ref (w.1 a1)] z z Z Z X X1 none := by
  refine ct_of (by decide) (Nat.le_of_ble_eq_true rfl) ?_
  intro p e s m args below meth c hC hr hin hav
  unfold fX3_takeAll at h
  refine ww_lv (lv' := [(0, .ref (w.1 a0)), (1, .ref (w.1 a1))]) rfl ?_
  refine ww_aload_n (pc := 0) hC dX3_takeAll_0 1 rfl ?_
  refine ww_getR (pc := 1) hC 3 0 (a1 + 1) h_a1 RX3 (by decide) (by decide) rfl (lay_3_0 hL h_a1).1 qf_X3_15 rfl dX3_takeAll_1 ?_
  refine ww_iconst (pc := 4) hC (v := (0 : Int32)) dX3_takeAll_4 (by decide) ?_
  refine ww_aload_n (pc := 5) hC dX3_takeAll_5 0 rfl ?_
  refine ww_getR (pc := 6) hC 3 0 (a0 + 1) h_a0 RX3 (by decide) (by decide) rfl (lay_3_0 hL h_a0).1 qf_X3_15 rfl dX3_takeAll_6 ?_
  refine ww_iconst (pc := 9) hC (v := (0 : Int32)) dX3_takeAll_9 (by decide) ?_
  refine ww_aload_n (pc := 10) hC dX3_takeAll_10 0 rfl ?_
  refine ww_getR (pc := 11) hC 3 0 (a0 + 1) h_a0 RX3 (by decide) (by decide) rfl (lay_3_0 hL h_a0).1 qf_X3_15 rfl dX3_takeAll_11 ?_
  refine ww_alen (pc := 14) hC (Int32.ofNat (sL Z (a0 + 1))) ((lay_3_0 hL h_a0).2) (by decide) (by decide) rfl dX3_takeAll_14 ?_
  refine ww_aload_n (pc := 15) hC dX3_takeAll_15 1 rfl ?_
  refine ww_getR (pc := 16) hC 3 0 (a1 + 1) h_a1 RX3 (by decide) (by decide) rfl (lay_3_0 hL h_a1).1 qf_X3_15 rfl dX3_takeAll_16 ?_
  refine ww_alen (pc := 19) hC (Int32.ofNat (sL Z (a1 + 1))) ((lay_3_0 hL h_a1).2) (by decide) (by decide) rfl dX3_takeAll_19 ?_
  refine ww_min (pc := 20) hC ql_X3_28 qt_J9_min_7cf53 qn_J9 qc_J9_min_7cf53 dX3_takeAll_20 ⟨Nat.le_of_ble_eq_true rfl, Nat.le_of_ble_eq_true rfl⟩ (Nat.le_of_ble_eq_true rfl) ⟨Nat.le_of_ble_eq_true rfl, Nat.le_of_ble_eq_true rfl⟩ ?_
  refine ww_copyI (pc := 23) hC ((lay_3_0 hL h_a1).2) ((lay_3_0 hL h_a0).2) h ql_X3_31 qv_java_lang_System_arraycopy qt_java_lang_System_arraycopy qn_J10 ⟨Nat.le_of_ble_eq_true rfl, Nat.le_of_ble_eq_true rfl⟩ (Nat.le_of_ble_eq_true rfl) dX3_takeAll_23 (fun h => ?_)
  obtain ⟨X_1, eX_1⟩ : ∃ q, q = cpI X (a1 + 1) ((0 : Int32)) (a0 + 1) ((0 : Int32)) (if (Int32.ofNat (sL Z (a1 + 1))) < (Int32.ofNat (sL Z (a0 + 1))) then (Int32.ofNat (sL Z (a1 + 1))) else (Int32.ofNat (sL Z (a0 + 1)))) := ⟨_, rfl⟩
  replace h := nm_i h eX_1
  refine ww_nmX eX_1 ?_
  refine ww_aload_n (pc := 26) hC dX3_takeAll_26 0 rfl ?_
  refine ww_aload_n (pc := 27) hC dX3_takeAll_27 1 rfl ?_
  refine ww_getI (pc := 28) hC 3 1 h_a1 RX3 (by decide) (by decide) rfl qf_X3_25 (Or.inl rfl) dX3_takeAll_28 ?_
  refine ww_putI (pc := 31) hC 3 1 h_a0 RX3 (by decide) (by decide) rfl qf_X3_25 rfl rfl rfl rfl dX3_takeAll_31 ?_
  obtain ⟨X_2, eX_2⟩ : ∃ q, q = wI X_1 a0 1 (X_1.1 a1 1) := ⟨_, rfl⟩
  replace h := nm_i h eX_2
  refine ww_nmX eX_2 ?_
  refine ww_aload_n (pc := 34) hC dX3_takeAll_34 0 rfl ?_
  refine ww_aload_n (pc := 35) hC dX3_takeAll_35 1 rfl ?_
  refine ww_getI (pc := 36) hC 3 2 h_a1 RX3 (by decide) (by decide) rfl qf_X3_21 (Or.inl rfl) dX3_takeAll_36 ?_
  refine ww_putI (pc := 39) hC 3 2 h_a0 RX3 (by decide) (by decide) rfl qf_X3_21 rfl rfl rfl rfl dX3_takeAll_39 ?_
  obtain ⟨X_3, eX_3⟩ : ∃ q, q = wI X_2 a0 2 (X_2.1 a1 2) := ⟨_, rfl⟩
  replace h := nm_i h eX_3
  refine ww_nmX eX_3 ?_
  exact ww_vret (pc := 42) hC hr h dX3_takeAll_42
noncomputable def fX6_takeRound (Z : XS) (a0 : Nat) (a1 : Nat) (X : XD) : Option (Unit × XD) := nm (wI X a0 2 (X.1 a1 2)) (fun X_1 => nm (wI X_1 a0 3 (X_1.1 a1 3)) (fun X_2 => gcp ((0 : Int32)) ((0 : Int32)) ((6 : Int32)) 6 6 (nm (cpI X_2 (a1 + 1) ((0 : Int32)) (a0 + 1) ((0 : Int32)) ((6 : Int32))) (fun X_3 => gcp ((0 : Int32)) ((0 : Int32)) ((6 : Int32)) 6 6 (nm (cpI X_3 (a1 + 2) ((0 : Int32)) (a0 + 2) ((0 : Int32)) ((6 : Int32))) (fun X_4 => gcp ((0 : Int32)) ((0 : Int32)) ((6 : Int32)) 6 6 (nm (cpI X_4 (a1 + 3) ((0 : Int32)) (a0 + 3) ((0 : Int32)) ((6 : Int32))) (fun X_5 => gcp ((0 : Int32)) ((0 : Int32)) ((24 : Int32)) 24 24 (nm (cpI X_5 (a1 + 4) ((0 : Int32)) (a0 + 4) ((0 : Int32)) ((24 : Int32))) (fun X_6 => some ((), X_6)))))))))))
set_option maxHeartbeats 40000000 in
set_option maxRecDepth 100000 in
theorem ceX6_takeRound {l : Launch} {E : XE} {w : XW} {z : Nat} {Z : XS}  (hL : LayC Z) {a0 : Nat} (h_a0 : KK Z a0 6) {a1 : Nat} (h_a1 : KK Z a1 6) {X X1 : XD} {r : Unit} (h : fX6_takeRound Z a0 a1 X = some (r, X1)) : Ct l E w yX6_takeRound (wsM yX6_takeRound cX6_takeRound 2 none) (rmX 1 0 0) 0 0 [.ref (w.1 a0), .ref (w.1 a1)] z z Z Z X X1 none := by
  refine ct_of (by decide) (Nat.le_of_ble_eq_true rfl) ?_
  intro p e s m args below meth c hC hr hin hav
  unfold fX6_takeRound at h
  refine ww_lv (lv' := [(0, .ref (w.1 a0)), (1, .ref (w.1 a1))]) rfl ?_
  refine ww_aload_n (pc := 0) hC dX6_takeRound_0 0 rfl ?_
  refine ww_aload_n (pc := 1) hC dX6_takeRound_1 1 rfl ?_
  refine ww_getI (pc := 2) hC 6 2 h_a1 RX6 (by decide) (by decide) rfl qf_X6_52 (Or.inl rfl) dX6_takeRound_2 ?_
  refine ww_putI (pc := 5) hC 6 2 h_a0 RX6 (by decide) (by decide) rfl qf_X6_52 rfl rfl rfl rfl dX6_takeRound_5 ?_
  obtain ⟨X_1, eX_1⟩ : ∃ q, q = wI X a0 2 (X.1 a1 2) := ⟨_, rfl⟩
  replace h := nm_i h eX_1
  refine ww_nmX eX_1 ?_
  refine ww_aload_n (pc := 8) hC dX6_takeRound_8 0 rfl ?_
  refine ww_aload_n (pc := 9) hC dX6_takeRound_9 1 rfl ?_
  refine ww_getI (pc := 10) hC 6 3 h_a1 RX6 (by decide) (by decide) rfl qf_X6_55 (Or.inl rfl) dX6_takeRound_10 ?_
  refine ww_putI (pc := 13) hC 6 3 h_a0 RX6 (by decide) (by decide) rfl qf_X6_55 rfl rfl rfl rfl dX6_takeRound_13 ?_
  obtain ⟨X_2, eX_2⟩ : ∃ q, q = wI X_1 a0 3 (X_1.1 a1 3) := ⟨_, rfl⟩
  replace h := nm_i h eX_2
  refine ww_nmX eX_2 ?_
  refine ww_aload_n (pc := 16) hC dX6_takeRound_16 1 rfl ?_
  refine ww_getR (pc := 17) hC 6 4 (a1 + 1) h_a1 RX6 (by decide) (by decide) rfl (lay_6_4 hL h_a1).1 qf_X6_15 rfl dX6_takeRound_17 ?_
  refine ww_iconst (pc := 20) hC (v := (0 : Int32)) dX6_takeRound_20 (by decide) ?_
  refine ww_aload_n (pc := 21) hC dX6_takeRound_21 0 rfl ?_
  refine ww_getR (pc := 22) hC 6 4 (a0 + 1) h_a0 RX6 (by decide) (by decide) rfl (lay_6_4 hL h_a0).1 qf_X6_15 rfl dX6_takeRound_22 ?_
  refine ww_iconst (pc := 25) hC (v := (0 : Int32)) dX6_takeRound_25 (by decide) ?_
  refine ww_aload_n (pc := 26) hC dX6_takeRound_26 0 rfl ?_
  refine ww_getR (pc := 27) hC 6 4 (a0 + 1) h_a0 RX6 (by decide) (by decide) rfl (lay_6_4 hL h_a0).1 qf_X6_15 rfl dX6_takeRound_27 ?_
  refine ww_alen (pc := 30) hC ((6 : Int32)) ((lay_6_4 hL h_a0).2) (by decide) (by decide) rfl dX6_takeRound_30 ?_
  refine ww_copyI (pc := 31) hC ((lay_6_4 hL h_a1).2) ((lay_6_4 hL h_a0).2) h ql_X6_58 qv_java_lang_System_arraycopy qt_java_lang_System_arraycopy qn_J10 ⟨Nat.le_of_ble_eq_true rfl, Nat.le_of_ble_eq_true rfl⟩ (Nat.le_of_ble_eq_true rfl) dX6_takeRound_31 (fun h => ?_)
  obtain ⟨X_3, eX_3⟩ : ∃ q, q = cpI X_2 (a1 + 1) ((0 : Int32)) (a0 + 1) ((0 : Int32)) ((6 : Int32)) := ⟨_, rfl⟩
  replace h := nm_i h eX_3
  refine ww_nmX eX_3 ?_
  refine ww_aload_n (pc := 34) hC dX6_takeRound_34 1 rfl ?_
  refine ww_getR (pc := 35) hC 6 5 (a1 + 2) h_a1 RX6 (by decide) (by decide) rfl (lay_6_5 hL h_a1).1 qf_X6_25 rfl dX6_takeRound_35 ?_
  refine ww_iconst (pc := 38) hC (v := (0 : Int32)) dX6_takeRound_38 (by decide) ?_
  refine ww_aload_n (pc := 39) hC dX6_takeRound_39 0 rfl ?_
  refine ww_getR (pc := 40) hC 6 5 (a0 + 2) h_a0 RX6 (by decide) (by decide) rfl (lay_6_5 hL h_a0).1 qf_X6_25 rfl dX6_takeRound_40 ?_
  refine ww_iconst (pc := 43) hC (v := (0 : Int32)) dX6_takeRound_43 (by decide) ?_
  refine ww_aload_n (pc := 44) hC dX6_takeRound_44 0 rfl ?_
  refine ww_getR (pc := 45) hC 6 5 (a0 + 2) h_a0 RX6 (by decide) (by decide) rfl (lay_6_5 hL h_a0).1 qf_X6_25 rfl dX6_takeRound_45 ?_
  refine ww_alen (pc := 48) hC ((6 : Int32)) ((lay_6_5 hL h_a0).2) (by decide) (by decide) rfl dX6_takeRound_48 ?_
  refine ww_copyI (pc := 49) hC ((lay_6_5 hL h_a1).2) ((lay_6_5 hL h_a0).2) h ql_X6_58 qv_java_lang_System_arraycopy qt_java_lang_System_arraycopy qn_J10 ⟨Nat.le_of_ble_eq_true rfl, Nat.le_of_ble_eq_true rfl⟩ (Nat.le_of_ble_eq_true rfl) dX6_takeRound_49 (fun h => ?_)
  obtain ⟨X_4, eX_4⟩ : ∃ q, q = cpI X_3 (a1 + 2) ((0 : Int32)) (a0 + 2) ((0 : Int32)) ((6 : Int32)) := ⟨_, rfl⟩
  replace h := nm_i h eX_4
  refine ww_nmX eX_4 ?_
  refine ww_aload_n (pc := 52) hC dX6_takeRound_52 1 rfl ?_
  refine ww_getR (pc := 53) hC 6 6 (a1 + 3) h_a1 RX6 (by decide) (by decide) rfl (lay_6_6 hL h_a1).1 qf_X6_28 rfl dX6_takeRound_53 ?_
  refine ww_iconst (pc := 56) hC (v := (0 : Int32)) dX6_takeRound_56 (by decide) ?_
  refine ww_aload_n (pc := 57) hC dX6_takeRound_57 0 rfl ?_
  refine ww_getR (pc := 58) hC 6 6 (a0 + 3) h_a0 RX6 (by decide) (by decide) rfl (lay_6_6 hL h_a0).1 qf_X6_28 rfl dX6_takeRound_58 ?_
  refine ww_iconst (pc := 61) hC (v := (0 : Int32)) dX6_takeRound_61 (by decide) ?_
  refine ww_aload_n (pc := 62) hC dX6_takeRound_62 0 rfl ?_
  refine ww_getR (pc := 63) hC 6 6 (a0 + 3) h_a0 RX6 (by decide) (by decide) rfl (lay_6_6 hL h_a0).1 qf_X6_28 rfl dX6_takeRound_63 ?_
  refine ww_alen (pc := 66) hC ((6 : Int32)) ((lay_6_6 hL h_a0).2) (by decide) (by decide) rfl dX6_takeRound_66 ?_
  refine ww_copyI (pc := 67) hC ((lay_6_6 hL h_a1).2) ((lay_6_6 hL h_a0).2) h ql_X6_58 qv_java_lang_System_arraycopy qt_java_lang_System_arraycopy qn_J10 ⟨Nat.le_of_ble_eq_true rfl, Nat.le_of_ble_eq_true rfl⟩ (Nat.le_of_ble_eq_true rfl) dX6_takeRound_67 (fun h => ?_)
  obtain ⟨X_5, eX_5⟩ : ∃ q, q = cpI X_4 (a1 + 3) ((0 : Int32)) (a0 + 3) ((0 : Int32)) ((6 : Int32)) := ⟨_, rfl⟩
  replace h := nm_i h eX_5
  refine ww_nmX eX_5 ?_
  refine ww_aload_n (pc := 70) hC dX6_takeRound_70 1 rfl ?_
  refine ww_getR (pc := 71) hC 6 7 (a1 + 4) h_a1 RX6 (by decide) (by decide) rfl (lay_6_7 hL h_a1).1 qf_X6_31 rfl dX6_takeRound_71 ?_
  refine ww_iconst (pc := 74) hC (v := (0 : Int32)) dX6_takeRound_74 (by decide) ?_
  refine ww_aload_n (pc := 75) hC dX6_takeRound_75 0 rfl ?_
  refine ww_getR (pc := 76) hC 6 7 (a0 + 4) h_a0 RX6 (by decide) (by decide) rfl (lay_6_7 hL h_a0).1 qf_X6_31 rfl dX6_takeRound_76 ?_
  refine ww_iconst (pc := 79) hC (v := (0 : Int32)) dX6_takeRound_79 (by decide) ?_
  refine ww_aload_n (pc := 80) hC dX6_takeRound_80 0 rfl ?_
  refine ww_getR (pc := 81) hC 6 7 (a0 + 4) h_a0 RX6 (by decide) (by decide) rfl (lay_6_7 hL h_a0).1 qf_X6_31 rfl dX6_takeRound_81 ?_
  refine ww_alen (pc := 84) hC ((24 : Int32)) ((lay_6_7 hL h_a0).2) (by decide) (by decide) rfl dX6_takeRound_84 ?_
  refine ww_copyI (pc := 85) hC ((lay_6_7 hL h_a1).2) ((lay_6_7 hL h_a0).2) h ql_X6_58 qv_java_lang_System_arraycopy qt_java_lang_System_arraycopy qn_J10 ⟨Nat.le_of_ble_eq_true rfl, Nat.le_of_ble_eq_true rfl⟩ (Nat.le_of_ble_eq_true rfl) dX6_takeRound_85 (fun h => ?_)
  obtain ⟨X_6, eX_6⟩ : ∃ q, q = cpI X_5 (a1 + 4) ((0 : Int32)) (a0 + 4) ((0 : Int32)) ((24 : Int32)) := ⟨_, rfl⟩
  replace h := nm_i h eX_6
  refine ww_nmX eX_6 ?_
  exact ww_vret (pc := 88) hC hr h dX6_takeRound_88
noncomputable def fX6_takeAll (Z : XS) (a0 : Nat) (a1 : Nat) (X : XD) : Option (Unit × XD) := bnw (fX6_takeRound Z a0 a1 X) (fun _ X_3 => nm (wI X_3 a0 0 (X_3.1 a1 0)) (fun X_4 => nm (wI X_4 a0 1 (X_4.1 a1 1)) (fun X_5 => bnw (fX3_takeAll Z (a0 + 5) (a1 + 5) X_5) (fun _ X_8 => bnw (fX3_takeAll Z (a0 + 7) (a1 + 7) X_8) (fun _ X_11 => bnw (fX3_takeAll Z (a0 + 9) (a1 + 9) X_11) (fun _ X_14 => bnw (fX3_takeAll Z (a0 + 11) (a1 + 11) X_14) (fun _ X_17 => some ((), X_17))))))))
set_option maxHeartbeats 40000000 in
set_option maxRecDepth 100000 in
theorem ceX6_takeAll {l : Launch} {E : XE} {w : XW} {z : Nat} {Z : XS}  (hL : LayC Z) {a0 : Nat} (h_a0 : KK Z a0 6) {a1 : Nat} (h_a1 : KK Z a1 6) {X X1 : XD} {r : Unit} (h : fX6_takeAll Z a0 a1 X = some (r, X1)) : Ct l E w yX6_takeAll (wsM yX6_takeAll cX6_takeAll 2 none) (rmX 2 0 0) 0 0 [.ref (w.1 a0), .ref (w.1 a1)] z z Z Z X X1 none := by
  refine ct_of (by decide) (Nat.le_of_ble_eq_true rfl) ?_
  intro p e s m args below meth c hC hr hin hav
  unfold fX6_takeAll at h
  refine ww_lv (lv' := [(0, .ref (w.1 a0)), (1, .ref (w.1 a1))]) rfl ?_
  refine ww_aload_n (pc := 0) hC dX6_takeAll_0 0 rfl ?_
  refine ww_aload_n (pc := 1) hC dX6_takeAll_1 1 rfl ?_
  obtain ⟨_, X_3, h1, h⟩ := bnw_i h
  refine ww_callVv (pc := 2) hC [.ref (w.1 a1)] h_a0.1 h_a0.2 (by decide) (ceX6_takeRound hL h_a0 h_a1 h1) ql_X6_64 qi_X6_takeRound qs_X6_X6_takeRound qn_X6 qc_X6_takeRound rfl ⟨by decide, by decide, rfl⟩ rfl ⟨Nat.le_of_ble_eq_true rfl, Nat.le_of_ble_eq_true rfl⟩ (by decide) (rest := []) (Nat.le_of_ble_eq_true rfl) dX6_takeAll_2 ⟨Nat.le_of_ble_eq_true rfl, Nat.le_of_ble_eq_true rfl⟩ rfl ?_
  refine ww_aload_n (pc := 5) hC dX6_takeAll_5 0 rfl ?_
  refine ww_aload_n (pc := 6) hC dX6_takeAll_6 1 rfl ?_
  refine ww_getI (pc := 7) hC 6 0 h_a1 RX6 (by decide) (by decide) rfl qf_X6_68 (Or.inl rfl) dX6_takeAll_7 ?_
  refine ww_putI (pc := 10) hC 6 0 h_a0 RX6 (by decide) (by decide) rfl qf_X6_68 rfl rfl rfl rfl dX6_takeAll_10 ?_
  obtain ⟨X_4, eX_4⟩ : ∃ q, q = wI X_3 a0 0 (X_3.1 a1 0) := ⟨_, rfl⟩
  replace h := nm_i h eX_4
  refine ww_nmX eX_4 ?_
  refine ww_aload_n (pc := 13) hC dX6_takeAll_13 0 rfl ?_
  refine ww_aload_n (pc := 14) hC dX6_takeAll_14 1 rfl ?_
  refine ww_getI (pc := 15) hC 6 1 h_a1 RX6 (by decide) (by decide) rfl qf_X6_9 (Or.inl rfl) dX6_takeAll_15 ?_
  refine ww_putI (pc := 18) hC 6 1 h_a0 RX6 (by decide) (by decide) rfl qf_X6_9 rfl rfl rfl rfl dX6_takeAll_18 ?_
  obtain ⟨X_5, eX_5⟩ : ∃ q, q = wI X_4 a0 1 (X_4.1 a1 1) := ⟨_, rfl⟩
  replace h := nm_i h eX_5
  refine ww_nmX eX_5 ?_
  refine ww_aload_n (pc := 21) hC dX6_takeAll_21 0 rfl ?_
  refine ww_getR (pc := 22) hC 6 8 (a0 + 5) h_a0 RX6 (by decide) (by decide) rfl (lay_6_8 hL h_a0).1 qf_X6_39 rfl dX6_takeAll_22 ?_
  refine ww_aload_n (pc := 25) hC dX6_takeAll_25 1 rfl ?_
  refine ww_getR (pc := 26) hC 6 8 (a1 + 5) h_a1 RX6 (by decide) (by decide) rfl (lay_6_8 hL h_a1).1 qf_X6_39 rfl dX6_takeAll_26 ?_
  obtain ⟨_, X_8, h6, h⟩ := bnw_i h
  refine ww_callVv (pc := 29) hC [.ref (w.1 (a1 + 5))] ((lay_6_8 hL h_a0).2).1 ((lay_6_8 hL h_a0).2).2 (by decide) (ceX3_takeAll hL ((lay_6_8 hL h_a0).2) ((lay_6_8 hL h_a1).2) h6) ql_X6_71 qi_X3_takeAll qs_X3_X3_takeAll qn_X3 qc_X3_takeAll rfl ⟨by decide, by decide, rfl⟩ rfl ⟨Nat.le_of_ble_eq_true rfl, Nat.le_of_ble_eq_true rfl⟩ (by decide) (rest := []) (Nat.le_of_ble_eq_true rfl) dX6_takeAll_29 ⟨Nat.le_of_ble_eq_true rfl, Nat.le_of_ble_eq_true rfl⟩ rfl ?_
  refine ww_aload_n (pc := 32) hC dX6_takeAll_32 0 rfl ?_
  refine ww_getR (pc := 33) hC 6 9 (a0 + 7) h_a0 RX6 (by decide) (by decide) rfl (lay_6_9 hL h_a0).1 qf_X6_43 rfl dX6_takeAll_33 ?_
  refine ww_aload_n (pc := 36) hC dX6_takeAll_36 1 rfl ?_
  refine ww_getR (pc := 37) hC 6 9 (a1 + 7) h_a1 RX6 (by decide) (by decide) rfl (lay_6_9 hL h_a1).1 qf_X6_43 rfl dX6_takeAll_37 ?_
  obtain ⟨_, X_11, h9, h⟩ := bnw_i h
  refine ww_callVv (pc := 40) hC [.ref (w.1 (a1 + 7))] ((lay_6_9 hL h_a0).2).1 ((lay_6_9 hL h_a0).2).2 (by decide) (ceX3_takeAll hL ((lay_6_9 hL h_a0).2) ((lay_6_9 hL h_a1).2) h9) ql_X6_71 qi_X3_takeAll qs_X3_X3_takeAll qn_X3 qc_X3_takeAll rfl ⟨by decide, by decide, rfl⟩ rfl ⟨Nat.le_of_ble_eq_true rfl, Nat.le_of_ble_eq_true rfl⟩ (by decide) (rest := []) (Nat.le_of_ble_eq_true rfl) dX6_takeAll_40 ⟨Nat.le_of_ble_eq_true rfl, Nat.le_of_ble_eq_true rfl⟩ rfl ?_
  refine ww_aload_n (pc := 43) hC dX6_takeAll_43 0 rfl ?_
  refine ww_getR (pc := 44) hC 6 10 (a0 + 9) h_a0 RX6 (by decide) (by decide) rfl (lay_6_10 hL h_a0).1 qf_X6_46 rfl dX6_takeAll_44 ?_
  refine ww_aload_n (pc := 47) hC dX6_takeAll_47 1 rfl ?_
  refine ww_getR (pc := 48) hC 6 10 (a1 + 9) h_a1 RX6 (by decide) (by decide) rfl (lay_6_10 hL h_a1).1 qf_X6_46 rfl dX6_takeAll_48 ?_
  obtain ⟨_, X_14, h12, h⟩ := bnw_i h
  refine ww_callVv (pc := 51) hC [.ref (w.1 (a1 + 9))] ((lay_6_10 hL h_a0).2).1 ((lay_6_10 hL h_a0).2).2 (by decide) (ceX3_takeAll hL ((lay_6_10 hL h_a0).2) ((lay_6_10 hL h_a1).2) h12) ql_X6_71 qi_X3_takeAll qs_X3_X3_takeAll qn_X3 qc_X3_takeAll rfl ⟨by decide, by decide, rfl⟩ rfl ⟨Nat.le_of_ble_eq_true rfl, Nat.le_of_ble_eq_true rfl⟩ (by decide) (rest := []) (Nat.le_of_ble_eq_true rfl) dX6_takeAll_51 ⟨Nat.le_of_ble_eq_true rfl, Nat.le_of_ble_eq_true rfl⟩ rfl ?_
  refine ww_aload_n (pc := 54) hC dX6_takeAll_54 0 rfl ?_
  refine ww_getR (pc := 55) hC 6 11 (a0 + 11) h_a0 RX6 (by decide) (by decide) rfl (lay_6_11 hL h_a0).1 qf_X6_49 rfl dX6_takeAll_55 ?_
  refine ww_aload_n (pc := 58) hC dX6_takeAll_58 1 rfl ?_
  refine ww_getR (pc := 59) hC 6 11 (a1 + 11) h_a1 RX6 (by decide) (by decide) rfl (lay_6_11 hL h_a1).1 qf_X6_49 rfl dX6_takeAll_59 ?_
  obtain ⟨_, X_17, h15, h⟩ := bnw_i h
  refine ww_callVv (pc := 62) hC [.ref (w.1 (a1 + 11))] ((lay_6_11 hL h_a0).2).1 ((lay_6_11 hL h_a0).2).2 (by decide) (ceX3_takeAll hL ((lay_6_11 hL h_a0).2) ((lay_6_11 hL h_a1).2) h15) ql_X6_71 qi_X3_takeAll qs_X3_X3_takeAll qn_X3 qc_X3_takeAll rfl ⟨by decide, by decide, rfl⟩ rfl ⟨Nat.le_of_ble_eq_true rfl, Nat.le_of_ble_eq_true rfl⟩ (by decide) (rest := []) (Nat.le_of_ble_eq_true rfl) dX6_takeAll_62 ⟨Nat.le_of_ble_eq_true rfl, Nat.le_of_ble_eq_true rfl⟩ rfl ?_
  exact ww_vret (pc := 65) hC hr h dX6_takeAll_65
noncomputable def fX6_setLast (Z : XS) (a0 : Nat) (x1 : Int32) (x2 : Int32) (X : XD) : Option (Unit × XD) := if x1 < 0 then some ((), X) else if ((6 : Int32)) ≤ x1 then some ((), X) else gin x1 6 (nm (wI X (a0 + 1) (x1).toNatClampNeg x2) (fun X_1 => some ((), X_1)))
set_option maxHeartbeats 40000000 in
set_option maxRecDepth 100000 in
theorem ceX6_setLast {l : Launch} {E : XE} {w : XW} {z : Nat} {Z : XS}  (hL : LayC Z) {a0 : Nat} (h_a0 : KK Z a0 6) {x1 : Int32} {x2 : Int32} {X X1 : XD} {r : Unit} (h : fX6_setLast Z a0 x1 x2 X = some (r, X1)) : Ct l E w yX6_setLast (wsM yX6_setLast cX6_setLast 3 none) (rmX 1 0 0) 0 0 [.ref (w.1 a0), .int x1, .int x2] z z Z Z X X1 none := by
  refine ct_of (by decide) (Nat.le_of_ble_eq_true rfl) ?_
  intro p e s m args below meth c hC hr hin hav
  unfold fX6_setLast at h
  refine ww_lv (lv' := [(0, .ref (w.1 a0)), (1, .int x1), (2, .int x2)]) rfl ?_
  refine ww_iload_n (pc := 0) hC dX6_setLast_0 1 rfl ?_
  refine ww_if_lt (pc := 1) hC h 20 dX6_setLast_1 (by decide) (fun h => ?_) (fun h => ?_)
  · exact ww_vret (pc := 20) hC hr h dX6_setLast_20
  · refine ww_iload_n (pc := 4) hC dX6_setLast_4 1 rfl ?_
    refine ww_aload_n (pc := 5) hC dX6_setLast_5 0 rfl ?_
    refine ww_getR (pc := 6) hC 6 4 (a0 + 1) h_a0 RX6 (by decide) (by decide) rfl (lay_6_4 hL h_a0).1 qf_X6_15 rfl dX6_setLast_6 ?_
    refine ww_alen (pc := 9) hC ((6 : Int32)) ((lay_6_4 hL h_a0).2) (by decide) (by decide) rfl dX6_setLast_9 ?_
    refine ww_icmp_ge (pc := 10) hC h 20 dX6_setLast_10 (by decide) (fun h => ?_) (fun h => ?_)
    · exact ww_vret (pc := 20) hC hr h dX6_setLast_20
    · refine ww_aload_n (pc := 13) hC dX6_setLast_13 0 rfl ?_
      refine ww_getR (pc := 14) hC 6 4 (a0 + 1) h_a0 RX6 (by decide) (by decide) rfl (lay_6_4 hL h_a0).1 qf_X6_15 rfl dX6_setLast_14 ?_
      refine ww_iload_n (pc := 17) hC dX6_setLast_17 1 rfl ?_
      refine ww_iload_n (pc := 18) hC dX6_setLast_18 2 rfl ?_
      refine ww_iast (pc := 19) hC ((lay_6_4 hL h_a0).2) h dX6_setLast_19 (fun h => ?_)
      obtain ⟨X_1, eX_1⟩ : ∃ q, q = wI X (a0 + 1) (x1).toNatClampNeg x2 := ⟨_, rfl⟩
      replace h := nm_i h eX_1
      refine ww_nmX eX_1 ?_
      exact ww_vret (pc := 20) hC hr h dX6_setLast_20
noncomputable def fX6_goalsOf (Z : XS) (a0 : Nat) (x1 : Int32) (X : XD) : Option Int32 := if x1 < 0 then some ((0 : Int32)) else if ((6 : Int32)) ≤ x1 then some ((0 : Int32)) else gin x1 6 (some (X.1 (a0 + 3) (x1).toNatClampNeg))
set_option maxHeartbeats 40000000 in
set_option maxRecDepth 100000 in
theorem ceX6_goalsOf {l : Launch} {E : XE} {w : XW} {z : Nat} {Z : XS}  (hL : LayC Z) {a0 : Nat} (h_a0 : KK Z a0 6) {x1 : Int32} {X : XD} {r : Int32} (h : fX6_goalsOf Z a0 x1 X = some r) : Ct l E w yX6_goalsOf (wsM yX6_goalsOf cX6_goalsOf 2 (some .int)) (rmX 1 0 0) 0 0 [.ref (w.1 a0), .int x1] z z Z Z X X (some (.int r)) := by
  refine ct_of (by decide) (Nat.le_of_ble_eq_true rfl) ?_
  intro p e s m args below meth c hC hr hin hav
  unfold fX6_goalsOf at h
  refine ww_lv (lv' := [(0, .ref (w.1 a0)), (1, .int x1)]) rfl ?_
  refine ww_iload_n (pc := 0) hC dX6_goalsOf_0 1 rfl ?_
  refine ww_if_lt (pc := 1) hC h 22 dX6_goalsOf_1 (by decide) (fun h => ?_) (fun h => ?_)
  · refine ww_iconst (pc := 22) hC (v := (0 : Int32)) dX6_goalsOf_22 (by decide) ?_
    exact ww_iret (pc := 23) hC hr (ret_r h) dX6_goalsOf_23
  · refine ww_iload_n (pc := 4) hC dX6_goalsOf_4 1 rfl ?_
    refine ww_aload_n (pc := 5) hC dX6_goalsOf_5 0 rfl ?_
    refine ww_getR (pc := 6) hC 6 6 (a0 + 3) h_a0 RX6 (by decide) (by decide) rfl (lay_6_6 hL h_a0).1 qf_X6_28 rfl dX6_goalsOf_6 ?_
    refine ww_alen (pc := 9) hC ((6 : Int32)) ((lay_6_6 hL h_a0).2) (by decide) (by decide) rfl dX6_goalsOf_9 ?_
    refine ww_icmp_ge (pc := 10) hC h 22 dX6_goalsOf_10 (by decide) (fun h => ?_) (fun h => ?_)
    · refine ww_iconst (pc := 22) hC (v := (0 : Int32)) dX6_goalsOf_22 (by decide) ?_
      exact ww_iret (pc := 23) hC hr (ret_r h) dX6_goalsOf_23
    · refine ww_aload_n (pc := 13) hC dX6_goalsOf_13 0 rfl ?_
      refine ww_getR (pc := 14) hC 6 6 (a0 + 3) h_a0 RX6 (by decide) (by decide) rfl (lay_6_6 hL h_a0).1 qf_X6_28 rfl dX6_goalsOf_14 ?_
      refine ww_iload_n (pc := 17) hC dX6_goalsOf_17 1 rfl ?_
      refine ww_iald (pc := 18) hC ((lay_6_6 hL h_a0).2) h dX6_goalsOf_18 (fun h => ?_)
      refine ww_goto (pc := 19) hC 23 dX6_goalsOf_19 (by decide) ?_
      exact ww_iret (pc := 23) hC hr (ret_r h) dX6_goalsOf_23
noncomputable def fX6_toldOf (Z : XS) (a0 : Nat) (x1 : Int32) (x2 : Int32) (X : XD) : Option Int32 := nm ((x1 * ((4 : Int32))) + x2) (fun y1 => if y1 < 0 then some ((0 : Int32)) else if ((24 : Int32)) ≤ y1 then some ((0 : Int32)) else gin y1 24 (some (X.1 (a0 + 4) (y1).toNatClampNeg)))
set_option maxHeartbeats 40000000 in
set_option maxRecDepth 100000 in
theorem ceX6_toldOf {l : Launch} {E : XE} {w : XW} {z : Nat} {Z : XS}  (hL : LayC Z) {a0 : Nat} (h_a0 : KK Z a0 6) {x1 : Int32} {x2 : Int32} {X : XD} {r : Int32} (h : fX6_toldOf Z a0 x1 x2 X = some r) : Ct l E w yX6_toldOf (wsM yX6_toldOf cX6_toldOf 4 (some .int)) (rmX 1 0 0) 0 0 [.ref (w.1 a0), .int x1, .int x2] z z Z Z X X (some (.int r)) := by
  refine ct_of (by decide) (Nat.le_of_ble_eq_true rfl) ?_
  intro p e s m args below meth c hC hr hin hav
  unfold fX6_toldOf at h
  refine ww_lv (lv' := [(0, .ref (w.1 a0)), (1, .int x1), (2, .int x2)]) rfl ?_
  refine ww_iload_n (pc := 0) hC dX6_toldOf_0 1 rfl ?_
  refine ww_iconst (pc := 1) hC (v := (4 : Int32)) dX6_toldOf_1 (by decide) ?_
  refine ww_imul (pc := 2) hC dX6_toldOf_2 ?_
  refine ww_iload_n (pc := 3) hC dX6_toldOf_3 2 rfl ?_
  refine ww_iadd (pc := 4) hC dX6_toldOf_4 ?_
  obtain ⟨y1, ey1⟩ : ∃ q, q = (x1 * ((4 : Int32))) + x2 := ⟨_, rfl⟩
  replace h := nm_i h ey1
  refine ww_nmi ey1 ?_
  refine ww_istore_n (pc := 5) hC [(3, .int y1), (0, .ref (w.1 a0)), (1, .int x1), (2, .int x2)] dX6_toldOf_5 rfl (by decide) rfl ?_
  refine ww_iload_n (pc := 6) hC dX6_toldOf_6 0 rfl ?_
  refine ww_if_lt (pc := 7) hC h 28 dX6_toldOf_7 (by decide) (fun h => ?_) (fun h => ?_)
  · refine ww_iconst (pc := 28) hC (v := (0 : Int32)) dX6_toldOf_28 (by decide) ?_
    exact ww_iret (pc := 29) hC hr (ret_r h) dX6_toldOf_29
  · refine ww_iload_n (pc := 10) hC dX6_toldOf_10 0 rfl ?_
    refine ww_aload_n (pc := 11) hC dX6_toldOf_11 1 rfl ?_
    refine ww_getR (pc := 12) hC 6 7 (a0 + 4) h_a0 RX6 (by decide) (by decide) rfl (lay_6_7 hL h_a0).1 qf_X6_31 rfl dX6_toldOf_12 ?_
    refine ww_alen (pc := 15) hC ((24 : Int32)) ((lay_6_7 hL h_a0).2) (by decide) (by decide) rfl dX6_toldOf_15 ?_
    refine ww_icmp_ge (pc := 16) hC h 28 dX6_toldOf_16 (by decide) (fun h => ?_) (fun h => ?_)
    · refine ww_iconst (pc := 28) hC (v := (0 : Int32)) dX6_toldOf_28 (by decide) ?_
      exact ww_iret (pc := 29) hC hr (ret_r h) dX6_toldOf_29
    · refine ww_aload_n (pc := 19) hC dX6_toldOf_19 1 rfl ?_
      refine ww_getR (pc := 20) hC 6 7 (a0 + 4) h_a0 RX6 (by decide) (by decide) rfl (lay_6_7 hL h_a0).1 qf_X6_31 rfl dX6_toldOf_20 ?_
      refine ww_iload_n (pc := 23) hC dX6_toldOf_23 0 rfl ?_
      refine ww_iald (pc := 24) hC ((lay_6_7 hL h_a0).2) h dX6_toldOf_24 (fun h => ?_)
      refine ww_goto (pc := 25) hC 29 dX6_toldOf_25 (by decide) ?_
      exact ww_iret (pc := 29) hC hr (ret_r h) dX6_toldOf_29
noncomputable def fX6_setTold (Z : XS) (a0 : Nat) (x1 : Int32) (x2 : Int32) (x3 : Int32) (X : XD) : Option (Unit × XD) := nm ((x1 * ((4 : Int32))) + x2) (fun y1 => if y1 < 0 then some ((), X) else if ((24 : Int32)) ≤ y1 then some ((), X) else gin y1 24 (nm (wI X (a0 + 4) (y1).toNatClampNeg x3) (fun X_2 => some ((), X_2))))
set_option maxHeartbeats 40000000 in
set_option maxRecDepth 100000 in
theorem ceX6_setTold {l : Launch} {E : XE} {w : XW} {z : Nat} {Z : XS}  (hL : LayC Z) {a0 : Nat} (h_a0 : KK Z a0 6) {x1 : Int32} {x2 : Int32} {x3 : Int32} {X X1 : XD} {r : Unit} (h : fX6_setTold Z a0 x1 x2 x3 X = some (r, X1)) : Ct l E w yX6_setTold (wsM yX6_setTold cX6_setTold 5 none) (rmX 1 0 0) 0 0 [.ref (w.1 a0), .int x1, .int x2, .int x3] z z Z Z X X1 none := by
  refine ct_of (by decide) (Nat.le_of_ble_eq_true rfl) ?_
  intro p e s m args below meth c hC hr hin hav
  unfold fX6_setTold at h
  refine ww_lv (lv' := [(0, .ref (w.1 a0)), (1, .int x1), (2, .int x2), (3, .int x3)]) rfl ?_
  refine ww_iload_n (pc := 0) hC dX6_setTold_0 1 rfl ?_
  refine ww_iconst (pc := 1) hC (v := (4 : Int32)) dX6_setTold_1 (by decide) ?_
  refine ww_imul (pc := 2) hC dX6_setTold_2 ?_
  refine ww_iload_n (pc := 3) hC dX6_setTold_3 2 rfl ?_
  refine ww_iadd (pc := 4) hC dX6_setTold_4 ?_
  obtain ⟨y1, ey1⟩ : ∃ q, q = (x1 * ((4 : Int32))) + x2 := ⟨_, rfl⟩
  replace h := nm_i h ey1
  refine ww_nmi ey1 ?_
  refine ww_istore (pc := 5) hC [(4, .int y1), (0, .ref (w.1 a0)), (1, .int x1), (2, .int x2), (3, .int x3)] dX6_setTold_5  (by decide) rfl ?_
  refine ww_iload (pc := 7) hC dX6_setTold_7 0 rfl ?_
  refine ww_if_lt (pc := 9) hC h 30 dX6_setTold_9 (by decide) (fun h => ?_) (fun h => ?_)
  · exact ww_vret (pc := 30) hC hr h dX6_setTold_30
  · refine ww_iload (pc := 12) hC dX6_setTold_12 0 rfl ?_
    refine ww_aload_n (pc := 14) hC dX6_setTold_14 1 rfl ?_
    refine ww_getR (pc := 15) hC 6 7 (a0 + 4) h_a0 RX6 (by decide) (by decide) rfl (lay_6_7 hL h_a0).1 qf_X6_31 rfl dX6_setTold_15 ?_
    refine ww_alen (pc := 18) hC ((24 : Int32)) ((lay_6_7 hL h_a0).2) (by decide) (by decide) rfl dX6_setTold_18 ?_
    refine ww_icmp_ge (pc := 19) hC h 30 dX6_setTold_19 (by decide) (fun h => ?_) (fun h => ?_)
    · exact ww_vret (pc := 30) hC hr h dX6_setTold_30
    · refine ww_aload_n (pc := 22) hC dX6_setTold_22 1 rfl ?_
      refine ww_getR (pc := 23) hC 6 7 (a0 + 4) h_a0 RX6 (by decide) (by decide) rfl (lay_6_7 hL h_a0).1 qf_X6_31 rfl dX6_setTold_23 ?_
      refine ww_iload (pc := 26) hC dX6_setTold_26 0 rfl ?_
      refine ww_iload_n (pc := 28) hC dX6_setTold_28 4 rfl ?_
      refine ww_iast (pc := 29) hC ((lay_6_7 hL h_a0).2) h dX6_setTold_29 (fun h => ?_)
      obtain ⟨X_2, eX_2⟩ : ∃ q, q = wI X (a0 + 4) (y1).toNatClampNeg x3 := ⟨_, rfl⟩
      replace h := nm_i h eX_2
      refine ww_nmX eX_2 ?_
      exact ww_vret (pc := 30) hC hr h dX6_setTold_30
noncomputable def fX6_addShot (Z : XS) (a0 : Nat) (x1 : Int32) (x2 : Int32) (x3 : Int32) (X : XD) : Option (Unit × XD) := if x1 < 0 then some ((), X) else if x1 < ((6 : Int32)) then gin x1 6 (nm (wI X (a0 + 1) (x1).toNatClampNeg x2) (fun X_1 => gin x1 6 (gin x1 6 (nm (wI X_1 (a0 + 2) (x1).toNatClampNeg (if ((X_1.1 (a0 + 2) (x1).toNatClampNeg) + ((1 : Int32))) < ((999 : Int32)) then ((X_1.1 (a0 + 2) (x1).toNatClampNeg) + ((1 : Int32))) else ((999 : Int32)))) (fun X_2 => nm (wI X_2 a0 2 (if ((X_2.1 a0 2) + ((1 : Int32))) < ((999 : Int32)) then ((X_2.1 a0 2) + ((1 : Int32))) else ((999 : Int32)))) (fun X_3 => if x3 = 0 then some ((), X_3) else gin x1 6 (gin x1 6 (nm (wI X_3 (a0 + 3) (x1).toNatClampNeg (if ((X_3.1 (a0 + 3) (x1).toNatClampNeg) + ((1 : Int32))) < ((999 : Int32)) then ((X_3.1 (a0 + 3) (x1).toNatClampNeg) + ((1 : Int32))) else ((999 : Int32)))) (fun X_4 => nm (wI X_4 a0 3 (if ((X_4.1 a0 3) + ((1 : Int32))) < ((999 : Int32)) then ((X_4.1 a0 3) + ((1 : Int32))) else ((999 : Int32)))) (fun X_5 => some ((), X_5))))))))))) else some ((), X)
set_option maxHeartbeats 40000000 in
set_option maxRecDepth 100000 in
theorem ceX6_addShot {l : Launch} {E : XE} {w : XW} {z : Nat} {Z : XS}  (hL : LayC Z) {a0 : Nat} (h_a0 : KK Z a0 6) {x1 : Int32} {x2 : Int32} {x3 : Int32} {X X1 : XD} {r : Unit} (h : fX6_addShot Z a0 x1 x2 x3 X = some (r, X1)) : Ct l E w yX6_addShot (wsM yX6_addShot cX6_addShot 4 none) (rmX 1 0 0) 0 0 [.ref (w.1 a0), .int x1, .int x2, .int x3] z z Z Z X X1 none := by
  refine ct_of (by decide) (Nat.le_of_ble_eq_true rfl) ?_
  intro p e s m args below meth c hC hr hin hav
  unfold fX6_addShot at h
  refine ww_lv (lv' := [(0, .ref (w.1 a0)), (1, .int x1), (2, .int x2), (3, .int x3)]) rfl ?_
  refine ww_iload_n (pc := 0) hC dX6_addShot_0 1 rfl ?_
  refine ww_if_lt (pc := 1) hC h 13 dX6_addShot_1 (by decide) (fun h => ?_) (fun h => ?_)
  · exact ww_vret (pc := 13) hC hr h dX6_addShot_13
  · refine ww_iload_n (pc := 4) hC dX6_addShot_4 1 rfl ?_
    refine ww_aload_n (pc := 5) hC dX6_addShot_5 0 rfl ?_
    refine ww_getR (pc := 6) hC 6 4 (a0 + 1) h_a0 RX6 (by decide) (by decide) rfl (lay_6_4 hL h_a0).1 qf_X6_15 rfl dX6_addShot_6 ?_
    refine ww_alen (pc := 9) hC ((6 : Int32)) ((lay_6_4 hL h_a0).2) (by decide) (by decide) rfl dX6_addShot_9 ?_
    refine ww_icmp_lt (pc := 10) hC h 14 dX6_addShot_10 (by decide) (fun h => ?_) (fun h => ?_)
    · refine ww_aload_n (pc := 14) hC dX6_addShot_14 0 rfl ?_
      refine ww_getR (pc := 15) hC 6 4 (a0 + 1) h_a0 RX6 (by decide) (by decide) rfl (lay_6_4 hL h_a0).1 qf_X6_15 rfl dX6_addShot_15 ?_
      refine ww_iload_n (pc := 18) hC dX6_addShot_18 1 rfl ?_
      refine ww_iload_n (pc := 19) hC dX6_addShot_19 2 rfl ?_
      refine ww_iast (pc := 20) hC ((lay_6_4 hL h_a0).2) h dX6_addShot_20 (fun h => ?_)
      obtain ⟨X_1, eX_1⟩ : ∃ q, q = wI X (a0 + 1) (x1).toNatClampNeg x2 := ⟨_, rfl⟩
      replace h := nm_i h eX_1
      refine ww_nmX eX_1 ?_
      refine ww_aload_n (pc := 21) hC dX6_addShot_21 0 rfl ?_
      refine ww_getR (pc := 22) hC 6 5 (a0 + 2) h_a0 RX6 (by decide) (by decide) rfl (lay_6_5 hL h_a0).1 qf_X6_25 rfl dX6_addShot_22 ?_
      refine ww_iload_n (pc := 25) hC dX6_addShot_25 1 rfl ?_
      refine ww_sipush (pc := 26) hC (v := (999 : Int32)) dX6_addShot_26 (by decide) ?_
      refine ww_aload_n (pc := 29) hC dX6_addShot_29 0 rfl ?_
      refine ww_getR (pc := 30) hC 6 5 (a0 + 2) h_a0 RX6 (by decide) (by decide) rfl (lay_6_5 hL h_a0).1 qf_X6_25 rfl dX6_addShot_30 ?_
      refine ww_iload_n (pc := 33) hC dX6_addShot_33 1 rfl ?_
      refine ww_iald (pc := 34) hC ((lay_6_5 hL h_a0).2) h dX6_addShot_34 (fun h => ?_)
      refine ww_iconst (pc := 35) hC (v := (1 : Int32)) dX6_addShot_35 (by decide) ?_
      refine ww_iadd (pc := 36) hC dX6_addShot_36 ?_
      refine ww_min (pc := 37) hC ql_X6_75 qt_J9_min_7cf53 qn_J9 qc_J9_min_7cf53 dX6_addShot_37 ⟨Nat.le_of_ble_eq_true rfl, Nat.le_of_ble_eq_true rfl⟩ (Nat.le_of_ble_eq_true rfl) ⟨Nat.le_of_ble_eq_true rfl, Nat.le_of_ble_eq_true rfl⟩ ?_
      refine ww_iast (pc := 40) hC ((lay_6_5 hL h_a0).2) h dX6_addShot_40 (fun h => ?_)
      obtain ⟨X_2, eX_2⟩ : ∃ q, q = wI X_1 (a0 + 2) (x1).toNatClampNeg (if ((X_1.1 (a0 + 2) (x1).toNatClampNeg) + ((1 : Int32))) < ((999 : Int32)) then ((X_1.1 (a0 + 2) (x1).toNatClampNeg) + ((1 : Int32))) else ((999 : Int32))) := ⟨_, rfl⟩
      replace h := nm_i h eX_2
      refine ww_nmX eX_2 ?_
      refine ww_aload_n (pc := 41) hC dX6_addShot_41 0 rfl ?_
      refine ww_sipush (pc := 42) hC (v := (999 : Int32)) dX6_addShot_42 (by decide) ?_
      refine ww_aload_n (pc := 45) hC dX6_addShot_45 0 rfl ?_
      refine ww_getI (pc := 46) hC 6 2 h_a0 RX6 (by decide) (by decide) rfl qf_X6_52 (Or.inl rfl) dX6_addShot_46 ?_
      refine ww_iconst (pc := 49) hC (v := (1 : Int32)) dX6_addShot_49 (by decide) ?_
      refine ww_iadd (pc := 50) hC dX6_addShot_50 ?_
      refine ww_min (pc := 51) hC ql_X6_75 qt_J9_min_7cf53 qn_J9 qc_J9_min_7cf53 dX6_addShot_51 ⟨Nat.le_of_ble_eq_true rfl, Nat.le_of_ble_eq_true rfl⟩ (Nat.le_of_ble_eq_true rfl) ⟨Nat.le_of_ble_eq_true rfl, Nat.le_of_ble_eq_true rfl⟩ ?_
      refine ww_putI (pc := 54) hC 6 2 h_a0 RX6 (by decide) (by decide) rfl qf_X6_52 rfl rfl rfl rfl dX6_addShot_54 ?_
      obtain ⟨X_3, eX_3⟩ : ∃ q, q = wI X_2 a0 2 (if ((X_2.1 a0 2) + ((1 : Int32))) < ((999 : Int32)) then ((X_2.1 a0 2) + ((1 : Int32))) else ((999 : Int32))) := ⟨_, rfl⟩
      replace h := nm_i h eX_3
      refine ww_nmX eX_3 ?_
      refine ww_iload_n (pc := 57) hC dX6_addShot_57 3 rfl ?_
      refine ww_if_eq (pc := 58) hC h 97 dX6_addShot_58 (by decide) (fun h => ?_) (fun h => ?_)
      · exact ww_vret (pc := 97) hC hr h dX6_addShot_97
      · refine ww_aload_n (pc := 61) hC dX6_addShot_61 0 rfl ?_
        refine ww_getR (pc := 62) hC 6 6 (a0 + 3) h_a0 RX6 (by decide) (by decide) rfl (lay_6_6 hL h_a0).1 qf_X6_28 rfl dX6_addShot_62 ?_
        refine ww_iload_n (pc := 65) hC dX6_addShot_65 1 rfl ?_
        refine ww_sipush (pc := 66) hC (v := (999 : Int32)) dX6_addShot_66 (by decide) ?_
        refine ww_aload_n (pc := 69) hC dX6_addShot_69 0 rfl ?_
        refine ww_getR (pc := 70) hC 6 6 (a0 + 3) h_a0 RX6 (by decide) (by decide) rfl (lay_6_6 hL h_a0).1 qf_X6_28 rfl dX6_addShot_70 ?_
        refine ww_iload_n (pc := 73) hC dX6_addShot_73 1 rfl ?_
        refine ww_iald (pc := 74) hC ((lay_6_6 hL h_a0).2) h dX6_addShot_74 (fun h => ?_)
        refine ww_iconst (pc := 75) hC (v := (1 : Int32)) dX6_addShot_75 (by decide) ?_
        refine ww_iadd (pc := 76) hC dX6_addShot_76 ?_
        refine ww_min (pc := 77) hC ql_X6_75 qt_J9_min_7cf53 qn_J9 qc_J9_min_7cf53 dX6_addShot_77 ⟨Nat.le_of_ble_eq_true rfl, Nat.le_of_ble_eq_true rfl⟩ (Nat.le_of_ble_eq_true rfl) ⟨Nat.le_of_ble_eq_true rfl, Nat.le_of_ble_eq_true rfl⟩ ?_
        refine ww_iast (pc := 80) hC ((lay_6_6 hL h_a0).2) h dX6_addShot_80 (fun h => ?_)
        obtain ⟨X_4, eX_4⟩ : ∃ q, q = wI X_3 (a0 + 3) (x1).toNatClampNeg (if ((X_3.1 (a0 + 3) (x1).toNatClampNeg) + ((1 : Int32))) < ((999 : Int32)) then ((X_3.1 (a0 + 3) (x1).toNatClampNeg) + ((1 : Int32))) else ((999 : Int32))) := ⟨_, rfl⟩
        replace h := nm_i h eX_4
        refine ww_nmX eX_4 ?_
        refine ww_aload_n (pc := 81) hC dX6_addShot_81 0 rfl ?_
        refine ww_sipush (pc := 82) hC (v := (999 : Int32)) dX6_addShot_82 (by decide) ?_
        refine ww_aload_n (pc := 85) hC dX6_addShot_85 0 rfl ?_
        refine ww_getI (pc := 86) hC 6 3 h_a0 RX6 (by decide) (by decide) rfl qf_X6_55 (Or.inl rfl) dX6_addShot_86 ?_
        refine ww_iconst (pc := 89) hC (v := (1 : Int32)) dX6_addShot_89 (by decide) ?_
        refine ww_iadd (pc := 90) hC dX6_addShot_90 ?_
        refine ww_min (pc := 91) hC ql_X6_75 qt_J9_min_7cf53 qn_J9 qc_J9_min_7cf53 dX6_addShot_91 ⟨Nat.le_of_ble_eq_true rfl, Nat.le_of_ble_eq_true rfl⟩ (Nat.le_of_ble_eq_true rfl) ⟨Nat.le_of_ble_eq_true rfl, Nat.le_of_ble_eq_true rfl⟩ ?_
        refine ww_putI (pc := 94) hC 6 3 h_a0 RX6 (by decide) (by decide) rfl qf_X6_55 rfl rfl rfl rfl dX6_addShot_94 ?_
        obtain ⟨X_5, eX_5⟩ : ∃ q, q = wI X_4 a0 3 (if ((X_4.1 a0 3) + ((1 : Int32))) < ((999 : Int32)) then ((X_4.1 a0 3) + ((1 : Int32))) else ((999 : Int32))) := ⟨_, rfl⟩
        replace h := nm_i h eX_5
        refine ww_nmX eX_5 ?_
        exact ww_vret (pc := 97) hC hr h dX6_addShot_97
    · exact ww_vret (pc := 13) hC hr h dX6_addShot_13
