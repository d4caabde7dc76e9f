noncomputable def fX11_isTape (Z : XS) (x1 : Int32) (X : XD) : Option Int32 := if x1 < 0 then some ((0 : Int32)) else if ((6 : Int32)) ≤ x1 then some ((0 : Int32)) else if ((6 : Int32)) ≤ x1 then some ((0 : Int32)) else if ((6 : Int32)) ≤ x1 then some ((0 : Int32)) else some ((1 : Int32))
set_option maxHeartbeats 40000000 in
set_option maxRecDepth 100000 in
theorem ceX11_isTape {l : Launch} {E : XE} {w : XW} {z : Nat} {Z : XS}  (hL : LayC Z) {x1 : Int32} {X : XD} {r : Int32} (h : fX11_isTape Z x1 X = some r) : Ct l E w yX11_isTape (wsM yX11_isTape cX11_isTape 2 (some .boolean)) (rmX 1 0 0) 0 0 [.ref (w.1 0), .int x1] z z Z Z X X (some (.int r)) := by
  refine ct_of (by decide) (Nat.le_of_ble_eq_true rfl) ?_
  intro p e s m args below meth c hC hr hin hav
  unfold fX11_isTape at h
  refine ww_lv (lv' := [(0, .ref (w.1 0)), (1, .int x1)]) rfl ?_
  refine ww_iload_n (pc := 0) hC dX11_isTape_0 1 rfl ?_
  refine ww_if_lt (pc := 1) hC h 35 dX11_isTape_1 (by decide) (fun h => ?_) (fun h => ?_)
  · refine ww_iconst (pc := 35) hC (v := (0 : Int32)) dX11_isTape_35 (by decide) ?_
    exact ww_zret (pc := 36) hC hr rfl (ret_r h) dX11_isTape_36
  · refine ww_iload_n (pc := 4) hC dX11_isTape_4 1 rfl ?_
    refine ww_aload_n (pc := 5) hC dX11_isTape_5 0 rfl ?_
    refine ww_getR (pc := 6) hC 11 10 144 hL.1 RX11 (by decide) (by decide) rfl (lay_11_10 hL).1 qf_X11_59 rfl dX11_isTape_6 ?_
    refine ww_alen (pc := 9) hC ((6 : Int32)) ((lay_11_10 hL).2) (by decide) (by decide) rfl dX11_isTape_9 ?_
    refine ww_icmp_ge (pc := 10) hC h 35 dX11_isTape_10 (by decide) (fun h => ?_) (fun h => ?_)
    · refine ww_iconst (pc := 35) hC (v := (0 : Int32)) dX11_isTape_35 (by decide) ?_
      exact ww_zret (pc := 36) hC hr rfl (ret_r h) dX11_isTape_36
    · refine ww_iload_n (pc := 13) hC dX11_isTape_13 1 rfl ?_
      refine ww_aload_n (pc := 14) hC dX11_isTape_14 0 rfl ?_
      refine ww_getR (pc := 15) hC 11 11 151 hL.1 RX11 (by decide) (by decide) rfl (lay_11_11 hL).1 qf_X11_62 rfl dX11_isTape_15 ?_
      refine ww_alen (pc := 18) hC ((6 : Int32)) ((lay_11_11 hL).2) (by decide) (by decide) rfl dX11_isTape_18 ?_
      refine ww_icmp_ge (pc := 19) hC h 35 dX11_isTape_19 (by decide) (fun h => ?_) (fun h => ?_)
      · refine ww_iconst (pc := 35) hC (v := (0 : Int32)) dX11_isTape_35 (by decide) ?_
        exact ww_zret (pc := 36) hC hr rfl (ret_r h) dX11_isTape_36
      · refine ww_iload_n (pc := 22) hC dX11_isTape_22 1 rfl ?_
        refine ww_aload_n (pc := 23) hC dX11_isTape_23 0 rfl ?_
        refine ww_getR (pc := 24) hC 11 12 152 hL.1 RX11 (by decide) (by decide) rfl (lay_11_12 hL).1 qf_X11_72 rfl dX11_isTape_24 ?_
        refine ww_alen (pc := 27) hC ((6 : Int32)) ((lay_11_12 hL).2) (by decide) (by decide) rfl dX11_isTape_27 ?_
        refine ww_icmp_ge (pc := 28) hC h 35 dX11_isTape_28 (by decide) (fun h => ?_) (fun h => ?_)
        · refine ww_iconst (pc := 35) hC (v := (0 : Int32)) dX11_isTape_35 (by decide) ?_
          exact ww_zret (pc := 36) hC hr rfl (ret_r h) dX11_isTape_36
        · refine ww_iconst (pc := 31) hC (v := (1 : Int32)) dX11_isTape_31 (by decide) ?_
          refine ww_goto (pc := 32) hC 36 dX11_isTape_32 (by decide) ?_
          exact ww_zret (pc := 36) hC hr rfl (ret_r h) dX11_isTape_36
noncomputable def fX11_judge_34 (Z : XS) (n : Nat) : Int32 → Int32 → Int32 → XD → Option Int32 := Nat.rec (motive := fun _ => Int32 → Int32 → Int32 → XD → Option Int32) (fun _ _ _ _ => none) (fun _ f => fun x1 x2 x3 X => if (X.1 47 0) ≤ x3 then some ((-5 : Int32)) else bnd (fX11_hasPlace Z x1 x2 X) (fun r4 => if r4 = 0 then some (((100 : Int32)) + x3) else bnd (fX11_hasPlace Z x1 (x2 + x3) X) (fun r6 => if r6 = 0 then some (((100 : Int32)) + x3) else gin x1 6 (gin (x2 + x3) 60 (bnd (fX6_lastOf Z 47 x3 X) (fun r9 => if (lg_cmp (X.2 (145 + (x1).toNatClampNeg) (x2 + x3).toNatClampNeg) r9.toInt64) = 0 then nm (x3 + (1 : Int32)) (fun y10 => f x1 x2 y10 X) else some x3)))))) n
theorem fX11_judge_34_s (Z : XS) (n : Nat) (x1 : Int32) (x2 : Int32) (x3 : Int32) (X : XD) : fX11_judge_34 Z (n + 1) x1 x2 x3 X = if (X.1 47 0) ≤ x3 then some ((-5 : Int32)) else bnd (fX11_hasPlace Z x1 x2 X) (fun r4 => if r4 = 0 then some (((100 : Int32)) + x3) else bnd (fX11_hasPlace Z x1 (x2 + x3) X) (fun r6 => if r6 = 0 then some (((100 : Int32)) + x3) else gin x1 6 (gin (x2 + x3) 60 (bnd (fX6_lastOf Z 47 x3 X) (fun r9 => if (lg_cmp (X.2 (145 + (x1).toNatClampNeg) (x2 + x3).toNatClampNeg) r9.toInt64) = 0 then nm (x3 + (1 : Int32)) (fun y10 => (fX11_judge_34 Z n) x1 x2 y10 X) else some x3))))) := rfl
noncomputable def fX11_judge_32 (Z : XS) (x1 : Int32) (x2 : Int32) (X : XD) : Option Int32 := fX11_judge_34 Z FU x1 x2 ((0 : Int32)) X
noncomputable def fX11_judge (Z : XS) (x1 : Int32) (x2 : Int32) (X : XD) : Option Int32 := bnd (fX11_isTape Z x1 X) (fun r2 => if r2 = 0 then some ((-1 : Int32)) else gin x1 6 (if (X.1 151 (x1).toNatClampNeg) = ((-1 : Int32)) then fX11_judge_32 Z x1 x2 X else gin x1 6 (if (X.1 151 (x1).toNatClampNeg) = 0 then fX11_judge_32 Z x1 x2 X else some ((-12 : Int32)))))
set_option maxHeartbeats 40000000 in
set_option maxRecDepth 100000 in
theorem ceX11_judge {l : Launch} {E : XE} {w : XW} {z : Nat} {Z : XS}  (hL : LayC Z) {x1 : Int32} {x2 : Int32} {X : XD} {r : Int32} (h : fX11_judge Z x1 x2 X = some r) : Ct l E w yX11_judge (wsM yX11_judge cX11_judge 4 (some .int)) (rmX 2 0 0) 0 0 [.ref (w.1 0), .int x1, .int x2] z z Z Z X X (some (.int r)) := by
  refine ct_of (by decide) (Nat.le_of_ble_eq_true rfl) ?_
  intro p e s m args below meth c hC hr hin hav
  have j34 : ∀ (n : Nat), ∀ (x1 : Int32) (x2 : Int32) (x3 : Int32), fX11_judge_34 Z n x1 x2 x3 X = some r → WW p l e (rmX 2 0 0) s m args below meth c 4 (MQ below (XQ E w z Z X (some (.int r))) args s 0 0 (A0 E)) E w 0 0 z Z 34 [(0, .ref (w.1 0)), (1, .int x1), (2, .int x2), (3, .int x3)] [] X := by
    intro n
    induction n with
    | zero =>
      intro x1 x2 x3 h
      cases (show none = some r from h)
    | succ n ih =>
      intro x1 x2 x3 h
      rw [fX11_judge_34_s] at h
      refine ww_iload_n (pc := 34) hC dX11_judge_34 3 rfl ?_
      refine ww_aload_n (pc := 35) hC dX11_judge_35 0 rfl ?_
      refine ww_getR (pc := 36) hC 11 4 47 hL.1 RX11 (by decide) (by decide) rfl (lay_11_4 hL).1 qf_X11_36 rfl dX11_judge_36 ?_
      refine ww_getI (pc := 39) hC 6 0 ((lay_11_4 hL).2) RX6 (by decide) (by decide) rfl qf_X11_88 (Or.inl rfl) dX11_judge_39 ?_
      refine ww_icmp_ge (pc := 42) hC h 101 dX11_judge_42 (by decide) (fun h => ?_) (fun h => ?_)
      · refine ww_bipush (pc := 101) hC (v := (-5 : Int32)) dX11_judge_101 (by decide) ?_
        exact ww_iret (pc := 103) hC hr (ret_r h) dX11_judge_103
      · refine ww_aload_n (pc := 45) hC dX11_judge_45 0 rfl ?_
        refine ww_iload_n (pc := 46) hC dX11_judge_46 1 rfl ?_
        refine ww_iload_n (pc := 47) hC dX11_judge_47 2 rfl ?_
        obtain ⟨r4, h3, h⟩ := bnd_i h
        refine ww_callVi (pc := 48) hC [.int x1, .int x2] hL.1.1 hL.1.2 (by decide) (ceX11_hasPlace hL h3) ql_X11_247 qi_X11_hasPlace qs_X11_X11_hasPlace qn_X11 qc_X11_hasPlace rfl ⟨by decide, by decide, rfl⟩ rfl ⟨Nat.le_of_ble_eq_true rfl, Nat.le_of_ble_eq_true rfl⟩ (by decide) (rest := []) (Nat.le_of_ble_eq_true rfl) dX11_judge_48 ⟨Nat.le_of_ble_eq_true rfl, Nat.le_of_ble_eq_true rfl⟩ rfl ?_
        refine ww_if_eq (pc := 51) hC h 65 dX11_judge_51 (by decide) (fun h => ?_) (fun h => ?_)
        · refine ww_bipush (pc := 65) hC (v := (100 : Int32)) dX11_judge_65 (by decide) ?_
          refine ww_iload_n (pc := 67) hC dX11_judge_67 3 rfl ?_
          refine ww_iadd (pc := 68) hC dX11_judge_68 ?_
          exact ww_iret (pc := 69) hC hr (ret_r h) dX11_judge_69
        · refine ww_aload_n (pc := 54) hC dX11_judge_54 0 rfl ?_
          refine ww_iload_n (pc := 55) hC dX11_judge_55 1 rfl ?_
          refine ww_iload_n (pc := 56) hC dX11_judge_56 2 rfl ?_
          refine ww_iload_n (pc := 57) hC dX11_judge_57 3 rfl ?_
          refine ww_iadd (pc := 58) hC dX11_judge_58 ?_
          obtain ⟨r6, h5, h⟩ := bnd_i h
          refine ww_callVi (pc := 59) hC [.int x1, .int (x2 + x3)] hL.1.1 hL.1.2 (by decide) (ceX11_hasPlace hL h5) ql_X11_247 qi_X11_hasPlace qs_X11_X11_hasPlace qn_X11 qc_X11_hasPlace rfl ⟨by decide, by decide, rfl⟩ rfl ⟨Nat.le_of_ble_eq_true rfl, Nat.le_of_ble_eq_true rfl⟩ (by decide) (rest := []) (Nat.le_of_ble_eq_true rfl) dX11_judge_59 ⟨Nat.le_of_ble_eq_true rfl, Nat.le_of_ble_eq_true rfl⟩ rfl ?_
          refine ww_if_ne (pc := 62) hC h 70 dX11_judge_62 (by decide) (fun h => ?_) (fun h => ?_)
          · refine ww_aload_n (pc := 70) hC dX11_judge_70 0 rfl ?_
            refine ww_getR (pc := 71) hC 11 10 144 hL.1 RX11 (by decide) (by decide) rfl (lay_11_10 hL).1 qf_X11_59 rfl dX11_judge_71 ?_
            refine ww_iload_n (pc := 74) hC dX11_judge_74 1 rfl ?_
            have hin7 := (gin_i h).1
            refine ww_aald (pc := 75) hC (145 + (x1).toNatClampNeg) ((lay_11_10 hL).2) (by decide) (by decide) h (fun q => (lay_el19 hL q).1) dX11_judge_75 (fun h => ?_)
            refine ww_iload_n (pc := 76) hC dX11_judge_76 2 rfl ?_
            refine ww_iload_n (pc := 77) hC dX11_judge_77 3 rfl ?_
            refine ww_iadd (pc := 78) hC dX11_judge_78 ?_
            refine ww_lald (pc := 79) hC ((lay_el19 hL hin7).2) h dX11_judge_79 (fun h => ?_)
            refine ww_aload_n (pc := 80) hC dX11_judge_80 0 rfl ?_
            refine ww_getR (pc := 81) hC 11 4 47 hL.1 RX11 (by decide) (by decide) rfl (lay_11_4 hL).1 qf_X11_36 rfl dX11_judge_81 ?_
            refine ww_iload_n (pc := 84) hC dX11_judge_84 3 rfl ?_
            obtain ⟨r9, h8, h⟩ := bnd_i h
            refine ww_callVi (pc := 85) hC [.int x3] ((lay_11_4 hL).2).1 ((lay_11_4 hL).2).2 (by decide) (ceX6_lastOf hL ((lay_11_4 hL).2) h8) ql_X11_106 qi_X6_lastOf qs_X6_X6_lastOf qn_X6 qc_X6_lastOf rfl ⟨by decide, by decide, rfl⟩ rfl ⟨Nat.le_of_ble_eq_true rfl, Nat.le_of_ble_eq_true rfl⟩ (by decide) (rest := [.long (X.2 (145 + (x1).toNatClampNeg) (x2 + x3).toNatClampNeg)]) (Nat.le_of_ble_eq_true rfl) dX11_judge_85 ⟨Nat.le_of_ble_eq_true rfl, Nat.le_of_ble_eq_true rfl⟩ rfl ?_
            refine ww_i2l (pc := 88) hC dX11_judge_88 ?_
            refine ww_lcmp (pc := 89) hC dX11_judge_89 ?_
            refine ww_if_eq (pc := 90) hC h 95 dX11_judge_90 (by decide) (fun h => ?_) (fun h => ?_)
            · obtain ⟨y10, ey10⟩ : ∃ q, q = x3 + (1 : Int32) := ⟨_, rfl⟩
              replace h := nm_i h ey10
              refine ww_iinc (pc := 95) hC y10 [(3, .int y10), (0, .ref (w.1 0)), (1, .int x1), (2, .int x2)] dX11_judge_95 3 rfl (by rw [ey10]; rfl) (by decide) rfl ?_
              refine ww_goto (pc := 98) hC 34 dX11_judge_98 (by decide) ?_
              refine ww_sub [1, 2, 3, 0] rfl ?_
              exact ih _ _ _ h
            · refine ww_iload_n (pc := 93) hC dX11_judge_93 3 rfl ?_
              exact ww_iret (pc := 94) hC hr (ret_r h) dX11_judge_94
          · refine ww_bipush (pc := 65) hC (v := (100 : Int32)) dX11_judge_65 (by decide) ?_
            refine ww_iload_n (pc := 67) hC dX11_judge_67 3 rfl ?_
            refine ww_iadd (pc := 68) hC dX11_judge_68 ?_
            exact ww_iret (pc := 69) hC hr (ret_r h) dX11_judge_69
  have j32 : ∀ (x1 : Int32) (x2 : Int32), fX11_judge_32 Z x1 x2 X = some r → WW p l e (rmX 2 0 0) s m args below meth c 4 (MQ below (XQ E w z Z X (some (.int r))) args s 0 0 (A0 E)) E w 0 0 z Z 32 [(0, .ref (w.1 0)), (1, .int x1), (2, .int x2)] [] X := by
    intro x1 x2 h
    unfold fX11_judge_32 at h
    refine ww_iconst (pc := 32) hC (v := (0 : Int32)) dX11_judge_32 (by decide) ?_
    refine ww_istore_n (pc := 33) hC [(3, .int ((0 : Int32))), (0, .ref (w.1 0)), (1, .int x1), (2, .int x2)] dX11_judge_33 rfl (by decide) rfl ?_
    refine ww_sub [1, 2, 3, 0] rfl ?_
    exact j34 _ _ _ _ h
  unfold fX11_judge at h
  refine ww_lv (lv' := [(0, .ref (w.1 0)), (1, .int x1), (2, .int x2)]) rfl ?_
  refine ww_aload_n (pc := 0) hC dX11_judge_0 0 rfl ?_
  refine ww_iload_n (pc := 1) hC dX11_judge_1 1 rfl ?_
  obtain ⟨r2, h1, h⟩ := bnd_i h
  refine ww_callVi (pc := 2) hC [.int x1] hL.1.1 hL.1.2 (by decide) (ceX11_isTape hL h1) ql_X11_244 qi_X11_isTape qs_X11_X11_isTape qn_X11 qc_X11_isTape rfl ⟨by decide, by decide, rfl⟩ rfl ⟨Nat.le_of_ble_eq_true rfl, Nat.le_of_ble_eq_true rfl⟩ (by decide) (rest := []) (Nat.le_of_ble_eq_true rfl) dX11_judge_2 ⟨Nat.le_of_ble_eq_true rfl, Nat.le_of_ble_eq_true rfl⟩ rfl ?_
  refine ww_if_ne (pc := 5) hC h 10 dX11_judge_5 (by decide) (fun h => ?_) (fun h => ?_)
  · refine ww_aload_n (pc := 10) hC dX11_judge_10 0 rfl ?_
    refine ww_getR (pc := 11) hC 11 11 151 hL.1 RX11 (by decide) (by decide) rfl (lay_11_11 hL).1 qf_X11_62 rfl dX11_judge_11 ?_
    refine ww_iload_n (pc := 14) hC dX11_judge_14 1 rfl ?_
    refine ww_iald (pc := 15) hC ((lay_11_11 hL).2) h dX11_judge_15 (fun h => ?_)
    refine ww_iconst (pc := 16) hC (v := (-1 : Int32)) dX11_judge_16 (by decide) ?_
    refine ww_icmp_eq (pc := 17) hC h 32 dX11_judge_17 (by decide) (fun h => ?_) (fun h => ?_)
    · refine ww_sub [0, 1, 2] rfl ?_
      exact j32 _ _ h
    · refine ww_aload_n (pc := 20) hC dX11_judge_20 0 rfl ?_
      refine ww_getR (pc := 21) hC 11 11 151 hL.1 RX11 (by decide) (by decide) rfl (lay_11_11 hL).1 qf_X11_62 rfl dX11_judge_21 ?_
      refine ww_iload_n (pc := 24) hC dX11_judge_24 1 rfl ?_
      refine ww_iald (pc := 25) hC ((lay_11_11 hL).2) h dX11_judge_25 (fun h => ?_)
      refine ww_if_eq (pc := 26) hC h 32 dX11_judge_26 (by decide) (fun h => ?_) (fun h => ?_)
      · refine ww_sub [0, 1, 2] rfl ?_
        exact j32 _ _ h
      · refine ww_bipush (pc := 29) hC (v := (-12 : Int32)) dX11_judge_29 (by decide) ?_
        exact ww_iret (pc := 31) hC hr (ret_r h) dX11_judge_31
  · refine ww_iconst (pc := 8) hC (v := (-1 : Int32)) dX11_judge_8 (by decide) ?_
    exact ww_iret (pc := 9) hC hr (ret_r h) dX11_judge_9
noncomputable def fX11_image (Z : XS) (X : XD) : Option (Int32 × XD) := bnw (fX6_takeAll Z 60 47 X) (fun _ X_3 => nm (wI X_3 0 6 ((1 : Int32))) (fun X_4 => some (X_4.1 47 0, X_4)))
set_option maxHeartbeats 40000000 in
set_option maxRecDepth 100000 in
theorem ceX11_image {l : Launch} {E : XE} {w : XW} {z : Nat} {Z : XS}  (hL : LayC Z) {X X1 : XD} {r : Int32} (h : fX11_image Z X = some (r, X1)) : Ct l E w yX11_image (wsM yX11_image cX11_image 1 (some .int)) (rmX 3 0 0) 0 0 [.ref (w.1 0)] z z Z Z X X1 (some (.int r)) := by
  refine ct_of (by decide) (Nat.le_of_ble_eq_true rfl) ?_
  intro p e s m args below meth c hC hr hin hav
  unfold fX11_image at h
  refine ww_lv (lv' := [(0, .ref (w.1 0))]) rfl ?_
  refine ww_aload_n (pc := 0) hC dX11_image_0 0 rfl ?_
  refine ww_getR (pc := 1) hC 11 5 60 hL.1 RX11 (by decide) (by decide) rfl (lay_11_5 hL).1 qf_X11_40 rfl dX11_image_1 ?_
  refine ww_aload_n (pc := 4) hC dX11_image_4 0 rfl ?_
  refine ww_getR (pc := 5) hC 11 4 47 hL.1 RX11 (by decide) (by decide) rfl (lay_11_4 hL).1 qf_X11_36 rfl dX11_image_5 ?_
  obtain ⟨_, X_3, h1, h⟩ := bnw_i h
  refine ww_callVv (pc := 8) hC [.ref (w.1 47)] ((lay_11_5 hL).2).1 ((lay_11_5 hL).2).2 (by decide) (ceX6_takeAll hL ((lay_11_5 hL).2) ((lay_11_4 hL).2) h1) ql_X11_251 qi_X6_takeAll qs_X6_X6_takeAll qn_X6 qc_X6_takeAll rfl ⟨by decide, by decide, rfl⟩ rfl ⟨Nat.le_of_ble_eq_true rfl, Nat.le_of_ble_eq_true rfl⟩ (by decide) (rest := []) (Nat.le_of_ble_eq_true rfl) dX11_image_8 ⟨Nat.le_of_ble_eq_true rfl, Nat.le_of_ble_eq_true rfl⟩ rfl ?_
  refine ww_aload_n (pc := 11) hC dX11_image_11 0 rfl ?_
  refine ww_iconst (pc := 12) hC (v := (1 : Int32)) dX11_image_12 (by decide) ?_
  refine ww_putI (pc := 13) hC 11 6 hL.1 RX11 (by decide) (by decide) rfl qf_X11_255 rfl rfl rfl rfl dX11_image_13 ?_
  obtain ⟨X_4, eX_4⟩ : ∃ q, q = wI X_3 0 6 ((1 : Int32)) := ⟨_, rfl⟩
  replace h := nm_i h eX_4
  refine ww_nmX eX_4 ?_
  refine ww_aload_n (pc := 16) hC dX11_image_16 0 rfl ?_
  refine ww_getR (pc := 17) hC 11 4 47 hL.1 RX11 (by decide) (by decide) rfl (lay_11_4 hL).1 qf_X11_36 rfl dX11_image_17 ?_
  refine ww_getI (pc := 20) hC 6 0 ((lay_11_4 hL).2) RX6 (by decide) (by decide) rfl qf_X11_88 (Or.inl rfl) dX11_image_20 ?_
  exact ww_iret (pc := 23) hC hr h dX11_image_23
noncomputable def fX11_undo (Z : XS) (X : XD) : Option (Int32 × XD) := if (X.1 0 6) = 0 then some ((-3 : Int32), X) else bnw (fX6_takeAll Z 47 60 X) (fun _ X_3 => some (X_3.1 47 0, X_3))
set_option maxHeartbeats 40000000 in
set_option maxRecDepth 100000 in
theorem ceX11_undo {l : Launch} {E : XE} {w : XW} {z : Nat} {Z : XS}  (hL : LayC Z) {X X1 : XD} {r : Int32} (h : fX11_undo Z X = some (r, X1)) : Ct l E w yX11_undo (wsM yX11_undo cX11_undo 1 (some .int)) (rmX 3 0 0) 0 0 [.ref (w.1 0)] z z Z Z X X1 (some (.int r)) := by
  refine ct_of (by decide) (Nat.le_of_ble_eq_true rfl) ?_
  intro p e s m args below meth c hC hr hin hav
  unfold fX11_undo at h
  refine ww_lv (lv' := [(0, .ref (w.1 0))]) rfl ?_
  refine ww_aload_n (pc := 0) hC dX11_undo_0 0 rfl ?_
  refine ww_getI (pc := 1) hC 11 6 hL.1 RX11 (by decide) (by decide) rfl qf_X11_255 (Or.inl rfl) dX11_undo_1 ?_
  refine ww_if_ne (pc := 4) hC h 10 dX11_undo_4 (by decide) (fun h => ?_) (fun h => ?_)
  · refine ww_aload_n (pc := 10) hC dX11_undo_10 0 rfl ?_
    refine ww_getR (pc := 11) hC 11 4 47 hL.1 RX11 (by decide) (by decide) rfl (lay_11_4 hL).1 qf_X11_36 rfl dX11_undo_11 ?_
    refine ww_aload_n (pc := 14) hC dX11_undo_14 0 rfl ?_
    refine ww_getR (pc := 15) hC 11 5 60 hL.1 RX11 (by decide) (by decide) rfl (lay_11_5 hL).1 qf_X11_40 rfl dX11_undo_15 ?_
    obtain ⟨_, X_3, h1, h⟩ := bnw_i h
    refine ww_callVv (pc := 18) hC [.ref (w.1 60)] ((lay_11_4 hL).2).1 ((lay_11_4 hL).2).2 (by decide) (ceX6_takeAll hL ((lay_11_4 hL).2) ((lay_11_5 hL).2) h1) ql_X11_251 qi_X6_takeAll qs_X6_X6_takeAll qn_X6 qc_X6_takeAll rfl ⟨by decide, by decide, rfl⟩ rfl ⟨Nat.le_of_ble_eq_true rfl, Nat.le_of_ble_eq_true rfl⟩ (by decide) (rest := []) (Nat.le_of_ble_eq_true rfl) dX11_undo_18 ⟨Nat.le_of_ble_eq_true rfl, Nat.le_of_ble_eq_true rfl⟩ rfl ?_
    refine ww_aload_n (pc := 21) hC dX11_undo_21 0 rfl ?_
    refine ww_getR (pc := 22) hC 11 4 47 hL.1 RX11 (by decide) (by decide) rfl (lay_11_4 hL).1 qf_X11_36 rfl dX11_undo_22 ?_
    refine ww_getI (pc := 25) hC 6 0 ((lay_11_4 hL).2) RX6 (by decide) (by decide) rfl qf_X11_88 (Or.inl rfl) dX11_undo_25 ?_
    exact ww_iret (pc := 28) hC hr h dX11_undo_28
  · refine ww_bipush (pc := 7) hC (v := (-3 : Int32)) dX11_undo_7 (by decide) ?_
    exact ww_iret (pc := 9) hC hr h dX11_undo_9
noncomputable def fV_X4_tells (Z : XS) (a0 : Nat) (a2 : Nat) (x1 : Int32) (X : XD) : Option (Int32 × XD) := if sK Z a0 = 0 then fX4_tells Z a0 a2 x1 X else (if sK Z a0 = 2 then fX2_tells Z a0 a2 x1 X else (if sK Z a0 = 4 then fX4_tells Z a0 a2 x1 X else (if sK Z a0 = 5 then fX4_tells Z a0 a2 x1 X else (if sK Z a0 = 7 then fX10_tells Z a0 a2 x1 X else (if sK Z a0 = 8 then fX4_tells Z a0 a2 x1 X else (fX10_tells Z a0 a2 x1 X))))))
set_option maxHeartbeats 4000000 in
theorem vd_X4_tells {p : Program} {l : Launch} {e : Env} {R : Room} {s : State} {m : MethodId} {args : Array Value} {below : List Frame} {meth : Method} {c : Code} {nL : Nat} {Q : State → Prop} {E : XE} {w : XW} {cells slots z : Nat} {Z : XS} {pc idx : Nat} {lv : List (Nat × Value)} {rest : List Value} {X X1 : XD} {cc : ByteArray} {own : String} {a0 : Nat} {x1 : Int32} {a2 : Nat} {r : Int32} (h : CX p s m args meth c E cc nL own) (hL : LayC Z) (hk : KS Z a0) (h_a2 : KK Z a2 3) (hf : fV_X4_tells Z a0 a2 x1 X = some (r, X1)) (w1 : Cond.methodLink own idx yX4_tells ∈ xtb) (hR : 8 + 1 ≤ R.frames ∧ 60 * (8 + 1) ≤ R.locals) (hst : (rest.map fun v => v.category).sum ≤ 8) (hd : decode cc pc = .ok (.invokevirtual idx, 3)) (hfz : cells ≤ R.cells ∧ slots ≤ R.slots)
    (kk : WW p l e R s m args below meth c nL Q E w cells slots z Z (pc + 3) lv (.int r :: rest) X1) : WW p l e R s m args below meth c nL Q E w cells slots z Z pc lv (.ref (w.1 a2) :: .int x1 :: .ref (w.1 a0) :: rest) X := by
  obtain ⟨hn, hs⟩ := id hk
  unfold fV_X4_tells at hf
  unfold isSh at hs
  rcases hs with e1 | e1 | e1 | e1 | e1 | e1 | e1
  · rw [if_pos e1] at hf; exact ww_callOi h [.int x1, .ref (w.1 a2)] hn e1 (by decide) (ceX4_tells hL hk h_a2 hf) w1 qm_X4_X4_tells qi_X4_tells qc_X4_tells qs_X0_X4_tells qi_X4_tells qn_X4 qc_X4_tells ⟨by decide, by decide, rfl⟩ rfl ⟨Nat.le_trans (by decide) hR.1, Nat.le_trans (by decide) hR.2⟩ (by decide) hst hd hfz rfl kk
  · rw [if_neg (by rw [e1]; decide)] at hf; rw [if_pos e1] at hf; exact ww_callOi h [.int x1, .ref (w.1 a2)] hn e1 (by decide) (ceX2_tells hL hk h_a2 hf) w1 qm_X4_X4_tells qi_X4_tells qc_X4_tells qs_X2_X4_tells qi_X2_tells qn_X2 qc_X2_tells ⟨by decide, by decide, rfl⟩ rfl ⟨Nat.le_trans (by decide) hR.1, Nat.le_trans (by decide) hR.2⟩ (by decide) hst hd hfz rfl kk
  · rw [if_neg (by rw [e1]; decide)] at hf; rw [if_neg (by rw [e1]; decide)] at hf; rw [if_pos e1] at hf; exact ww_callOi h [.int x1, .ref (w.1 a2)] hn e1 (by decide) (ceX4_tells hL hk h_a2 hf) w1 qm_X4_X4_tells qi_X4_tells qc_X4_tells qs_X4_X4_tells qi_X4_tells qn_X4 qc_X4_tells ⟨by decide, by decide, rfl⟩ rfl ⟨Nat.le_trans (by decide) hR.1, Nat.le_trans (by decide) hR.2⟩ (by decide) hst hd hfz rfl kk
  · rw [if_neg (by rw [e1]; decide)] at hf; rw [if_neg (by rw [e1]; decide)] at hf; rw [if_neg (by rw [e1]; decide)] at hf; rw [if_pos e1] at hf; exact ww_callOi h [.int x1, .ref (w.1 a2)] hn e1 (by decide) (ceX4_tells hL hk h_a2 hf) w1 qm_X4_X4_tells qi_X4_tells qc_X4_tells qs_X5_X4_tells qi_X4_tells qn_X4 qc_X4_tells ⟨by decide, by decide, rfl⟩ rfl ⟨Nat.le_trans (by decide) hR.1, Nat.le_trans (by decide) hR.2⟩ (by decide) hst hd hfz rfl kk
  · rw [if_neg (by rw [e1]; decide)] at hf; rw [if_neg (by rw [e1]; decide)] at hf; rw [if_neg (by rw [e1]; decide)] at hf; rw [if_neg (by rw [e1]; decide)] at hf; rw [if_pos e1] at hf; exact ww_callOi h [.int x1, .ref (w.1 a2)] hn e1 (by decide) (ceX10_tells hL hk (Or.inl e1) h_a2 hf) w1 qm_X4_X4_tells qi_X4_tells qc_X4_tells qs_X7_X4_tells qi_X10_tells qn_X10 qc_X10_tells ⟨by decide, by decide, rfl⟩ rfl ⟨Nat.le_trans (by decide) hR.1, Nat.le_trans (by decide) hR.2⟩ (by decide) hst hd hfz rfl kk
  · rw [if_neg (by rw [e1]; decide)] at hf; rw [if_neg (by rw [e1]; decide)] at hf; rw [if_neg (by rw [e1]; decide)] at hf; rw [if_neg (by rw [e1]; decide)] at hf; rw [if_neg (by rw [e1]; decide)] at hf; rw [if_pos e1] at hf; exact ww_callOi h [.int x1, .ref (w.1 a2)] hn e1 (by decide) (ceX4_tells hL hk h_a2 hf) w1 qm_X4_X4_tells qi_X4_tells qc_X4_tells qs_X8_X4_tells qi_X4_tells qn_X4 qc_X4_tells ⟨by decide, by decide, rfl⟩ rfl ⟨Nat.le_trans (by decide) hR.1, Nat.le_trans (by decide) hR.2⟩ (by decide) hst hd hfz rfl kk
  · rw [if_neg (by rw [e1]; decide)] at hf; rw [if_neg (by rw [e1]; decide)] at hf; rw [if_neg (by rw [e1]; decide)] at hf; rw [if_neg (by rw [e1]; decide)] at hf; rw [if_neg (by rw [e1]; decide)] at hf; rw [if_neg (by rw [e1]; decide)] at hf; exact ww_callOi h [.int x1, .ref (w.1 a2)] hn e1 (by decide) (ceX10_tells hL hk (Or.inr e1) h_a2 hf) w1 qm_X4_X4_tells qi_X4_tells qc_X4_tells qs_X10_X4_tells qi_X10_tells qn_X10 qc_X10_tells ⟨by decide, by decide, rfl⟩ rfl ⟨Nat.le_trans (by decide) hR.1, Nat.le_trans (by decide) hR.2⟩ (by decide) hst hd hfz rfl kk
noncomputable def fX11_act (Z : XS) (x1 : Int32) (x2 : Int32) (x3 : Int32) (X : XD) : Option (Int32 × XD) := bnw (fX3_clear Z 142 X) (fun r2 X_3 => bnd (fX11_find Z x1 X_3) (fun r5 => mto r5 (some ((0 : Int32), X_3)) (fun t6 => if x2 = (0 : Int32) then bnw (fV_X4_aims Z t6 142 x3 X_3) (fun r9 X_10 => some (r9, X_10)) else (if x2 = (1 : Int32) then bnw (fV_X4_shows Z t6 142 x3 X_3) (fun r13 X_14 => some (r13, X_14)) else (if x2 = (2 : Int32) then bnw (fV_X4_tells Z t6 142 x3 X_3) (fun r17 X_18 => some (r17, X_18)) else (some ((0 : Int32), X_3)))))))
set_option maxHeartbeats 40000000 in
set_option maxRecDepth 100000 in
theorem ceX11_act {l : Launch} {E : XE} {w : XW} {z : Nat} {Z : XS}  (hL : LayC Z) {x1 : Int32} {x2 : Int32} {x3 : Int32} {X X1 : XD} {r : Int32} (h : fX11_act Z x1 x2 x3 X = some (r, X1)) : Ct l E w yX11_act (wsM yX11_act cX11_act 5 (some .int)) (rmX 9 0 0) 0 0 [.ref (w.1 0), .int x1, .int x2, .int x3] z z Z Z X X1 (some (.int r)) := by
  refine ct_of (by decide) (Nat.le_of_ble_eq_true rfl) ?_
  intro p e s m args below meth c hC hr hin hav
  unfold fX11_act at h
  refine ww_lv (lv' := [(0, .ref (w.1 0)), (1, .int x1), (2, .int x2), (3, .int x3)]) rfl ?_
  refine ww_aload_n (pc := 0) hC dX11_act_0 0 rfl ?_
  refine ww_getR (pc := 1) hC 11 9 142 hL.1 RX11 (by decide) (by decide) rfl (lay_11_9 hL).1 qf_X11_54 rfl dX11_act_1 ?_
  obtain ⟨r2, X_3, h1, h⟩ := bnw_i h
  refine ww_callVi (pc := 4) hC [] ((lay_11_9 hL).2).1 ((lay_11_9 hL).2).2 (by decide) (ceX3_clear hL ((lay_11_9 hL).2) h1) ql_X11_155 qi_X3_clear qs_X3_X3_clear qn_X3 qc_X3_clear rfl ⟨by decide, by decide, rfl⟩ rfl ⟨Nat.le_of_ble_eq_true rfl, Nat.le_of_ble_eq_true rfl⟩ (by decide) (rest := []) (Nat.le_of_ble_eq_true rfl) dX11_act_4 ⟨Nat.le_of_ble_eq_true rfl, Nat.le_of_ble_eq_true rfl⟩ rfl ?_
  refine ww_pop (pc := 7) hC dX11_act_7 rfl ?_
  refine ww_aload_n (pc := 8) hC dX11_act_8 0 rfl ?_
  refine ww_iload_n (pc := 9) hC dX11_act_9 1 rfl ?_
  obtain ⟨r5, h4, h⟩ := bnd_i h
  rcases r5 with _ | t6
  · replace h := mto_n h
    refine ww_callVn (pc := 10) hC [.int x1] hL.1.1 hL.1.2 (by decide) (ceX11_find hL h4) ql_X11_95 qi_X11_find qs_X11_X11_find qn_X11 qc_X11_find rfl ⟨by decide, by decide, rfl⟩ rfl ⟨Nat.le_of_ble_eq_true rfl, Nat.le_of_ble_eq_true rfl⟩ (by decide) (rest := []) (Nat.le_of_ble_eq_true rfl) dX11_act_10 ⟨Nat.le_of_ble_eq_true rfl, Nat.le_of_ble_eq_true rfl⟩ rfl ?_
    refine ww_astoreN (pc := 13) hC [(4, .null), (0, .ref (w.1 0)), (1, .int x1), (2, .int x2), (3, .int x3)] dX11_act_13  (by decide) rfl ?_
    refine ww_aloadN (pc := 15) hC dX11_act_15 0 rfl ?_
    refine ww_ifnonnullN (pc := 17) hC dX11_act_17 ?_
    refine ww_iconst (pc := 20) hC (v := (0 : Int32)) dX11_act_20 (by decide) ?_
    exact ww_iret (pc := 21) hC hr h dX11_act_21
  · replace h := mto_s h
    have hkt6 : KS Z t6 := ks_find hL h4
    refine ww_callVr (pc := 10) hC [.int x1] hL.1.1 hL.1.2 (by decide) (ceX11_find hL h4) ql_X11_95 qi_X11_find qs_X11_X11_find qn_X11 qc_X11_find rfl ⟨by decide, by decide, rfl⟩ rfl ⟨Nat.le_of_ble_eq_true rfl, Nat.le_of_ble_eq_true rfl⟩ (by decide) (rest := []) (Nat.le_of_ble_eq_true rfl) dX11_act_10 ⟨Nat.le_of_ble_eq_true rfl, Nat.le_of_ble_eq_true rfl⟩ rfl ?_
    refine ww_astore (pc := 13) hC [(4, .ref (w.1 t6)), (0, .ref (w.1 0)), (1, .int x1), (2, .int x2), (3, .int x3)] dX11_act_13  (by decide) rfl ?_
    refine ww_aload (pc := 15) hC dX11_act_15 0 rfl ?_
    refine ww_ifnonnull (pc := 17) hC 22 dX11_act_17 (by decide) ?_
    refine ww_iload_n (pc := 22) hC dX11_act_22 3 rfl ?_
    rcases Classical.em (x2 = (0 : Int32)) with q7 | q7
    · replace h := ite_t h q7
      refine ww_tableIn (pc := 23) hC 48 dX11_act_23 (0 : Int32) q7 (by decide) (by decide) rfl (by decide) ?_
      refine ww_aload (pc := 48) hC dX11_act_48 0 rfl ?_
      refine ww_iload_n (pc := 50) hC dX11_act_50 4 rfl ?_
      refine ww_aload_n (pc := 51) hC dX11_act_51 1 rfl ?_
      refine ww_getR (pc := 52) hC 11 9 142 hL.1 RX11 (by decide) (by decide) rfl (lay_11_9 hL).1 qf_X11_54 rfl dX11_act_52 ?_
      obtain ⟨r9, X_10, h8, h⟩ := bnw_i h
      refine vd_X4_aims (pc := 55) hC hL hkt6 ((lay_11_9 hL).2) h8 ql_X11_259 ⟨Nat.le_of_ble_eq_true rfl, Nat.le_of_ble_eq_true rfl⟩ (Nat.le_of_ble_eq_true rfl) dX11_act_55 ⟨Nat.le_of_ble_eq_true rfl, Nat.le_of_ble_eq_true rfl⟩ ?_
      exact ww_iret (pc := 58) hC hr h dX11_act_58
    replace h := ite_f h q7
    rcases Classical.em (x2 = (1 : Int32)) with q11 | q11
    · replace h := ite_t h q11
      refine ww_tableIn (pc := 23) hC 59 dX11_act_23 (1 : Int32) q11 (by decide) (by decide) rfl (by decide) ?_
      refine ww_aload (pc := 59) hC dX11_act_59 0 rfl ?_
      refine ww_iload_n (pc := 61) hC dX11_act_61 4 rfl ?_
      refine ww_aload_n (pc := 62) hC dX11_act_62 1 rfl ?_
      refine ww_getR (pc := 63) hC 11 9 142 hL.1 RX11 (by decide) (by decide) rfl (lay_11_9 hL).1 qf_X11_54 rfl dX11_act_63 ?_
      obtain ⟨r13, X_14, h12, h⟩ := bnw_i h
      refine vd_X4_shows (pc := 66) hC hL hkt6 ((lay_11_9 hL).2) h12 ql_X11_263 ⟨Nat.le_of_ble_eq_true rfl, Nat.le_of_ble_eq_true rfl⟩ (Nat.le_of_ble_eq_true rfl) dX11_act_66 ⟨Nat.le_of_ble_eq_true rfl, Nat.le_of_ble_eq_true rfl⟩ ?_
      exact ww_iret (pc := 69) hC hr h dX11_act_69
    replace h := ite_f h q11
    rcases Classical.em (x2 = (2 : Int32)) with q15 | q15
    · replace h := ite_t h q15
      refine ww_tableIn (pc := 23) hC 70 dX11_act_23 (2 : Int32) q15 (by decide) (by decide) rfl (by decide) ?_
      refine ww_aload (pc := 70) hC dX11_act_70 0 rfl ?_
      refine ww_iload_n (pc := 72) hC dX11_act_72 4 rfl ?_
      refine ww_aload_n (pc := 73) hC dX11_act_73 1 rfl ?_
      refine ww_getR (pc := 74) hC 11 9 142 hL.1 RX11 (by decide) (by decide) rfl (lay_11_9 hL).1 qf_X11_54 rfl dX11_act_74 ?_
      obtain ⟨r17, X_18, h16, h⟩ := bnw_i h
      refine vd_X4_tells (pc := 77) hC hL hkt6 ((lay_11_9 hL).2) h16 ql_X11_266 ⟨Nat.le_of_ble_eq_true rfl, Nat.le_of_ble_eq_true rfl⟩ (Nat.le_of_ble_eq_true rfl) dX11_act_77 ⟨Nat.le_of_ble_eq_true rfl, Nat.le_of_ble_eq_true rfl⟩ ?_
      exact ww_iret (pc := 80) hC hr h dX11_act_80
    replace h := ite_f h q15
    refine ww_tableOut (pc := 23) hC 81 dX11_act_23 (sw_out (fun k h1 h2 => by rcases (show k = 0 ∨ k = 1 ∨ k = 2 by omega) with rfl | rfl | rfl; exact q7; exact q11; exact q15)) (by decide) ?_
    refine ww_iconst (pc := 81) hC (v := (0 : Int32)) dX11_act_81 (by decide) ?_
    exact ww_iret (pc := 82) hC hr h dX11_act_82
noncomputable def fX11_trace (Z : XS) (x1 : Int32) (X : XD) : Option Int32 := bnd (fX3_at Z 142 x1 X) (fun r2 => some r2)
set_option maxHeartbeats 40000000 in
set_option maxRecDepth 100000 in
theorem ceX11_trace {l : Launch} {E : XE} {w : XW} {z : Nat} {Z : XS}  (hL : LayC Z) {x1 : Int32} {X : XD} {r : Int32} (h : fX11_trace Z x1 X = some r) : Ct l E w yX11_trace (wsM yX11_trace cX11_trace 2 (some .int)) (rmX 2 0 0) 0 0 [.ref (w.1 0), .int x1] z z Z Z X X (some (.int r)) := by
  refine ct_of (by decide) (Nat.le_of_ble_eq_true rfl) ?_
  intro p e s m args below meth c hC hr hin hav
  unfold fX11_trace at h
  refine ww_lv (lv' := [(0, .ref (w.1 0)), (1, .int x1)]) rfl ?_
  refine ww_aload_n (pc := 0) hC dX11_trace_0 0 rfl ?_
  refine ww_getR (pc := 1) hC 11 9 142 hL.1 RX11 (by decide) (by decide) rfl (lay_11_9 hL).1 qf_X11_54 rfl dX11_trace_1 ?_
  refine ww_iload_n (pc := 4) hC dX11_trace_4 1 rfl ?_
  obtain ⟨r2, h1, h⟩ := bnd_i h
  refine ww_callVi (pc := 5) hC [.int x1] ((lay_11_9 hL).2).1 ((lay_11_9 hL).2).2 (by decide) (ceX3_at hL ((lay_11_9 hL).2) h1) ql_X11_238 qi_X3_at qs_X3_X3_at qn_X3 qc_X3_at rfl ⟨by decide, by decide, rfl⟩ rfl ⟨Nat.le_of_ble_eq_true rfl, Nat.le_of_ble_eq_true rfl⟩ (by decide) (rest := []) (Nat.le_of_ble_eq_true rfl) dX11_trace_5 ⟨Nat.le_of_ble_eq_true rfl, Nat.le_of_ble_eq_true rfl⟩ rfl ?_
  exact ww_iret (pc := 8) hC hr (ret_r h) dX11_trace_8
noncomputable def fX11_isOfKind (Z : XS) (a0 : Nat) (x1 : Int32) (X : XD) : Option Int32 := if x1 = (0 : Int32) then some ((1 : Int32)) else (if x1 = (1 : Int32) then gb (isY Z a0 8) (some (isY Z a0 8)) else (if x1 = (2 : Int32) then gb (isY Z a0 5) (some (isY Z a0 5)) else (if x1 = (3 : Int32) then gb (isY Z a0 10) (some (isY Z a0 10)) else (if x1 = (4 : Int32) then gb (isY Z a0 0) (some (isY Z a0 0)) else (if x1 = (5 : Int32) then gb (isY Z a0 2) (some (isY Z a0 2)) else (if x1 = (6 : Int32) then gb (isY Z a0 7) (some (isY Z a0 7)) else (some ((0 : Int32)))))))))
set_option maxHeartbeats 40000000 in
set_option maxRecDepth 100000 in
theorem ceX11_isOfKind {l : Launch} {E : XE} {w : XW} {z : Nat} {Z : XS}  (hL : LayC Z) {a0 : Nat} (h_a0 : KS Z a0) {x1 : Int32} {X : XD} {r : Int32} (h : fX11_isOfKind Z a0 x1 X = some r) : Ct l E w yX11_isOfKind (wsM yX11_isOfKind cX11_isOfKind 2 (some .boolean)) (rmX 1 0 0) 0 0 [.ref (w.1 a0), .int x1] z z Z Z X X (some (.int r)) := by
  refine ct_of (by decide) (Nat.le_of_ble_eq_true rfl) ?_
  intro p e s m args below meth c hC hr hin hav
  unfold fX11_isOfKind at h
  refine ww_lv (lv' := [(0, .ref (w.1 a0)), (1, .int x1)]) rfl ?_
  refine ww_iload_n (pc := 0) hC dX11_isOfKind_0 1 rfl ?_
  rcases Classical.em (x1 = (0 : Int32)) with q1 | q1
  · replace h := ite_t h q1
    refine ww_tableIn (pc := 1) hC 44 dX11_isOfKind_1 (0 : Int32) q1 (by decide) (by decide) rfl (by decide) ?_
    refine ww_iconst (pc := 44) hC (v := (1 : Int32)) dX11_isOfKind_44 (by decide) ?_
    exact ww_zret (pc := 45) hC hr rfl (ret_r h) dX11_isOfKind_45
  replace h := ite_f h q1
  rcases Classical.em (x1 = (1 : Int32)) with q2 | q2
  · replace h := ite_t h q2
    refine ww_tableIn (pc := 1) hC 46 dX11_isOfKind_1 (1 : Int32) q2 (by decide) (by decide) rfl (by decide) ?_
    refine ww_aload_n (pc := 46) hC dX11_isOfKind_46 0 rfl ?_
    refine ww_inst (pc := 47) hC 8 (by unfold isSh; decide) h_a0 qk_X11_293 dX11_isOfKind_47 ?_
    obtain ⟨hb3, h⟩ := gb_i h
    exact ww_zret (pc := 50) hC hr (gb_n hb3) (ret_r h) dX11_isOfKind_50
  replace h := ite_f h q2
  rcases Classical.em (x1 = (2 : Int32)) with q4 | q4
  · replace h := ite_t h q4
    refine ww_tableIn (pc := 1) hC 51 dX11_isOfKind_1 (2 : Int32) q4 (by decide) (by decide) rfl (by decide) ?_
    refine ww_aload_n (pc := 51) hC dX11_isOfKind_51 0 rfl ?_
    refine ww_inst (pc := 52) hC 5 (by unfold isSh; decide) h_a0 qk_X11_297 dX11_isOfKind_52 ?_
    obtain ⟨hb5, h⟩ := gb_i h
    exact ww_zret (pc := 55) hC hr (gb_n hb5) (ret_r h) dX11_isOfKind_55
  replace h := ite_f h q4
  rcases Classical.em (x1 = (3 : Int32)) with q6 | q6
  · replace h := ite_t h q6
    refine ww_tableIn (pc := 1) hC 56 dX11_isOfKind_1 (3 : Int32) q6 (by decide) (by decide) rfl (by decide) ?_
    refine ww_aload_n (pc := 56) hC dX11_isOfKind_56 0 rfl ?_
    refine ww_inst (pc := 57) hC 10 (by unfold isSh; decide) h_a0 qk_X11_300 dX11_isOfKind_57 ?_
    obtain ⟨hb7, h⟩ := gb_i h
    exact ww_zret (pc := 60) hC hr (gb_n hb7) (ret_r h) dX11_isOfKind_60
  replace h := ite_f h q6
  rcases Classical.em (x1 = (4 : Int32)) with q8 | q8
  · replace h := ite_t h q8
    refine ww_tableIn (pc := 1) hC 61 dX11_isOfKind_1 (4 : Int32) q8 (by decide) (by decide) rfl (by decide) ?_
    refine ww_aload_n (pc := 61) hC dX11_isOfKind_61 0 rfl ?_
    refine ww_inst (pc := 62) hC 0 (by unfold isSh; decide) h_a0 qk_X11_303 dX11_isOfKind_62 ?_
    obtain ⟨hb9, h⟩ := gb_i h
    exact ww_zret (pc := 65) hC hr (gb_n hb9) (ret_r h) dX11_isOfKind_65
  replace h := ite_f h q8
  rcases Classical.em (x1 = (5 : Int32)) with q10 | q10
  · replace h := ite_t h q10
    refine ww_tableIn (pc := 1) hC 66 dX11_isOfKind_1 (5 : Int32) q10 (by decide) (by decide) rfl (by decide) ?_
    refine ww_aload_n (pc := 66) hC dX11_isOfKind_66 0 rfl ?_
    refine ww_inst (pc := 67) hC 2 (by unfold isSh; decide) h_a0 qk_X11_306 dX11_isOfKind_67 ?_
    obtain ⟨hb11, h⟩ := gb_i h
    exact ww_zret (pc := 70) hC hr (gb_n hb11) (ret_r h) dX11_isOfKind_70
  replace h := ite_f h q10
  rcases Classical.em (x1 = (6 : Int32)) with q12 | q12
  · replace h := ite_t h q12
    refine ww_tableIn (pc := 1) hC 71 dX11_isOfKind_1 (6 : Int32) q12 (by decide) (by decide) rfl (by decide) ?_
    refine ww_aload_n (pc := 71) hC dX11_isOfKind_71 0 rfl ?_
    refine ww_inst (pc := 72) hC 7 (by unfold isSh; decide) h_a0 qk_X11_132 dX11_isOfKind_72 ?_
    obtain ⟨hb13, h⟩ := gb_i h
    exact ww_zret (pc := 75) hC hr (gb_n hb13) (ret_r h) dX11_isOfKind_75
  replace h := ite_f h q12
  refine ww_tableOut (pc := 1) hC 76 dX11_isOfKind_1 (sw_out (fun k h1 h2 => by rcases (show k = 0 ∨ k = 1 ∨ k = 2 ∨ k = 3 ∨ k = 4 ∨ k = 5 ∨ k = 6 by omega) with rfl | rfl | rfl | rfl | rfl | rfl | rfl; exact q1; exact q2; exact q4; exact q6; exact q8; exact q10; exact q12)) (by decide) ?_
  refine ww_iconst (pc := 76) hC (v := (0 : Int32)) dX11_isOfKind_76 (by decide) ?_
  exact ww_zret (pc := 77) hC hr rfl (ret_r h) dX11_isOfKind_77
noncomputable def fX11_taken (Z : XS) (x1 : Int32) (x2 : Int32) (X : XD) : Option Int32 := if x2 < 0 then some ((-2 : Int32)) else if x2 < ((7 : Int32)) then bnd (fX11_find Z x1 X) (fun r2 => mto r2 (some ((-11 : Int32))) (fun t3 => bnd (fX11_isOfKind Z t3 x2 X) (fun r5 => if r5 = 0 then some ((-12 : Int32)) else bnd (fV_X4_kind Z t3 X) (fun r7 => some r7)))) else some ((-2 : Int32))
set_option maxHeartbeats 40000000 in
set_option maxRecDepth 100000 in
theorem ceX11_taken {l : Launch} {E : XE} {w : XW} {z : Nat} {Z : XS}  (hL : LayC Z) {x1 : Int32} {x2 : Int32} {X : XD} {r : Int32} (h : fX11_taken Z x1 x2 X = some r) : Ct l E w yX11_taken (wsM yX11_taken cX11_taken 4 (some .int)) (rmX 2 0 0) 0 0 [.ref (w.1 0), .int x1, .int x2] z z Z Z X X (some (.int r)) := by
  refine ct_of (by decide) (Nat.le_of_ble_eq_true rfl) ?_
  intro p e s m args below meth c hC hr hin hav
  unfold fX11_taken at h
  refine ww_lv (lv' := [(0, .ref (w.1 0)), (1, .int x1), (2, .int x2)]) rfl ?_
  refine ww_iload_n (pc := 0) hC dX11_taken_0 2 rfl ?_
  refine ww_if_lt (pc := 1) hC h 10 dX11_taken_1 (by decide) (fun h => ?_) (fun h => ?_)
  · refine ww_bipush (pc := 10) hC (v := (-2 : Int32)) dX11_taken_10 (by decide) ?_
    exact ww_iret (pc := 12) hC hr (ret_r h) dX11_taken_12
  · refine ww_iload_n (pc := 4) hC dX11_taken_4 2 rfl ?_
    refine ww_bipush (pc := 5) hC (v := (7 : Int32)) dX11_taken_5 (by decide) ?_
    refine ww_icmp_lt (pc := 7) hC h 13 dX11_taken_7 (by decide) (fun h => ?_) (fun h => ?_)
    · refine ww_aload_n (pc := 13) hC dX11_taken_13 0 rfl ?_
      refine ww_iload_n (pc := 14) hC dX11_taken_14 1 rfl ?_
      obtain ⟨r2, h1, h⟩ := bnd_i h
      rcases r2 with _ | t3
      · replace h := mto_n h
        refine ww_callVn (pc := 15) hC [.int x1] hL.1.1 hL.1.2 (by decide) (ceX11_find hL h1) ql_X11_95 qi_X11_find qs_X11_X11_find qn_X11 qc_X11_find rfl ⟨by decide, by decide, rfl⟩ rfl ⟨Nat.le_of_ble_eq_true rfl, Nat.le_of_ble_eq_true rfl⟩ (by decide) (rest := []) (Nat.le_of_ble_eq_true rfl) dX11_taken_15 ⟨Nat.le_of_ble_eq_true rfl, Nat.le_of_ble_eq_true rfl⟩ rfl ?_
        refine ww_astore_nN (pc := 18) hC [(3, .null), (0, .ref (w.1 0)), (1, .int x1), (2, .int x2)] dX11_taken_18 rfl (by decide) rfl ?_
        refine ww_aload_nN (pc := 19) hC dX11_taken_19 0 rfl ?_
        refine ww_ifnonnullN (pc := 20) hC dX11_taken_20 ?_
        refine ww_bipush (pc := 23) hC (v := (-11 : Int32)) dX11_taken_23 (by decide) ?_
        exact ww_iret (pc := 25) hC hr (ret_r h) dX11_taken_25
      · replace h := mto_s h
        have hkt3 : KS Z t3 := ks_find hL h1
        refine ww_callVr (pc := 15) hC [.int x1] hL.1.1 hL.1.2 (by decide) (ceX11_find hL h1) ql_X11_95 qi_X11_find qs_X11_X11_find qn_X11 qc_X11_find rfl ⟨by decide, by decide, rfl⟩ rfl ⟨Nat.le_of_ble_eq_true rfl, Nat.le_of_ble_eq_true rfl⟩ (by decide) (rest := []) (Nat.le_of_ble_eq_true rfl) dX11_taken_15 ⟨Nat.le_of_ble_eq_true rfl, Nat.le_of_ble_eq_true rfl⟩ rfl ?_
        refine ww_astore_n (pc := 18) hC [(3, .ref (w.1 t3)), (0, .ref (w.1 0)), (1, .int x1), (2, .int x2)] dX11_taken_18 rfl (by decide) rfl ?_
        refine ww_aload_n (pc := 19) hC dX11_taken_19 0 rfl ?_
        refine ww_ifnonnull (pc := 20) hC 26 dX11_taken_20 (by decide) ?_
        refine ww_aload_n (pc := 26) hC dX11_taken_26 0 rfl ?_
        refine ww_iload_n (pc := 27) hC dX11_taken_27 3 rfl ?_
        obtain ⟨r5, h4, h⟩ := bnd_i h
        refine ww_callSi (pc := 28) hC [.ref (w.1 t3), .int x2] (ceX11_isOfKind hL hkt3 h4) ql_X11_269 qt_X11_isOfKind qn_X11 qc_X11_isOfKind ⟨by decide, by decide, rfl⟩ rfl ⟨Nat.le_of_ble_eq_true rfl, Nat.le_of_ble_eq_true rfl⟩ (by decide) (rest := []) (Nat.le_of_ble_eq_true rfl) dX11_taken_28 ⟨Nat.le_of_ble_eq_true rfl, Nat.le_of_ble_eq_true rfl⟩ rfl ?_
        refine ww_if_eq (pc := 31) hC h 41 dX11_taken_31 (by decide) (fun h => ?_) (fun h => ?_)
        · refine ww_bipush (pc := 41) hC (v := (-12 : Int32)) dX11_taken_41 (by decide) ?_
          exact ww_iret (pc := 43) hC hr (ret_r h) dX11_taken_43
        · refine ww_aload_n (pc := 34) hC dX11_taken_34 0 rfl ?_
          obtain ⟨r7, h6, h⟩ := bnd_i h
          refine vd_X4_kind (pc := 35) hC hL hkt3 h6 ql_X11_99 ⟨Nat.le_of_ble_eq_true rfl, Nat.le_of_ble_eq_true rfl⟩ (Nat.le_of_ble_eq_true rfl) dX11_taken_35 ⟨Nat.le_of_ble_eq_true rfl, Nat.le_of_ble_eq_true rfl⟩ ?_
          refine ww_goto (pc := 38) hC 43 dX11_taken_38 (by decide) ?_
          exact ww_iret (pc := 43) hC hr (ret_r h) dX11_taken_43
    · refine ww_bipush (pc := 10) hC (v := (-2 : Int32)) dX11_taken_10 (by decide) ?_
      exact ww_iret (pc := 12) hC hr (ret_r h) dX11_taken_12
noncomputable def fX11_count (Z : XS) (x1 : Int32) (X : XD) : Option Int32 := if x1 = (0 : Int32) then some (X.1 47 0) else (if x1 = (1 : Int32) then some (X.1 0 2) else (if x1 = (2 : Int32) then some (X.1 52 1) else (if x1 = (3 : Int32) then some (X.1 54 1) else (if x1 = (4 : Int32) then some (X.1 56 1) else (if x1 = (5 : Int32) then some (X.1 45 1) else (if x1 = (6 : Int32) then some (X.1 142 2) else (some ((-2 : Int32)))))))))
set_option maxHeartbeats 40000000 in
set_option maxRecDepth 100000 in
theorem ceX11_count {l : Launch} {E : XE} {w : XW} {z : Nat} {Z : XS}  (hL : LayC Z) {x1 : Int32} {X : XD} {r : Int32} (h : fX11_count Z x1 X = some r) : Ct l E w yX11_count (wsM yX11_count cX11_count 2 (some .int)) (rmX 1 0 0) 0 0 [.ref (w.1 0), .int x1] z z Z Z X X (some (.int r)) := by
  refine ct_of (by decide) (Nat.le_of_ble_eq_true rfl) ?_
  intro p e s m args below meth c hC hr hin hav
  unfold fX11_count at h
  refine ww_lv (lv' := [(0, .ref (w.1 0)), (1, .int x1)]) rfl ?_
  refine ww_iload_n (pc := 0) hC dX11_count_0 1 rfl ?_
  rcases Classical.em (x1 = (0 : Int32)) with q1 | q1
  · replace h := ite_t h q1
    refine ww_tableIn (pc := 1) hC 44 dX11_count_1 (0 : Int32) q1 (by decide) (by decide) rfl (by decide) ?_
    refine ww_aload_n (pc := 44) hC dX11_count_44 0 rfl ?_
    refine ww_getR (pc := 45) hC 11 4 47 hL.1 RX11 (by decide) (by decide) rfl (lay_11_4 hL).1 qf_X11_36 rfl dX11_count_45 ?_
    refine ww_getI (pc := 48) hC 6 0 ((lay_11_4 hL).2) RX6 (by decide) (by decide) rfl qf_X11_88 (Or.inl rfl) dX11_count_48 ?_
    exact ww_iret (pc := 51) hC hr (ret_r h) dX11_count_51
  replace h := ite_f h q1
  rcases Classical.em (x1 = (1 : Int32)) with q2 | q2
  · replace h := ite_t h q2
    refine ww_tableIn (pc := 1) hC 52 dX11_count_1 (1 : Int32) q2 (by decide) (by decide) rfl (by decide) ?_
    refine ww_aload_n (pc := 52) hC dX11_count_52 0 rfl ?_
    refine ww_getI (pc := 53) hC 11 2 hL.1 RX11 (by decide) (by decide) rfl qf_X11_148 (Or.inl rfl) dX11_count_53 ?_
    exact ww_iret (pc := 56) hC hr (ret_r h) dX11_count_56
  replace h := ite_f h q2
  rcases Classical.em (x1 = (2 : Int32)) with q3 | q3
  · replace h := ite_t h q3
    refine ww_tableIn (pc := 1) hC 57 dX11_count_1 (2 : Int32) q3 (by decide) (by decide) rfl (by decide) ?_
    refine ww_aload_n (pc := 57) hC dX11_count_57 0 rfl ?_
    refine ww_getR (pc := 58) hC 11 4 47 hL.1 RX11 (by decide) (by decide) rfl (lay_11_4 hL).1 qf_X11_36 rfl dX11_count_58 ?_
    refine ww_getR (pc := 61) hC 6 8 52 ((lay_11_4 hL).2) RX6 (by decide) (by decide) rfl (lay_6_8 hL ((lay_11_4 hL).2)).1 qf_X11_194 rfl dX11_count_61 ?_
    refine ww_getI (pc := 64) hC 3 1 ((lay_6_8 hL ((lay_11_4 hL).2)).2) RX3 (by decide) (by decide) rfl qf_X11_145 (Or.inl rfl) dX11_count_64 ?_
    exact ww_iret (pc := 67) hC hr (ret_r h) dX11_count_67
  replace h := ite_f h q3
  rcases Classical.em (x1 = (3 : Int32)) with q4 | q4
  · replace h := ite_t h q4
    refine ww_tableIn (pc := 1) hC 68 dX11_count_1 (3 : Int32) q4 (by decide) (by decide) rfl (by decide) ?_
    refine ww_aload_n (pc := 68) hC dX11_count_68 0 rfl ?_
    refine ww_getR (pc := 69) hC 11 4 47 hL.1 RX11 (by decide) (by decide) rfl (lay_11_4 hL).1 qf_X11_36 rfl dX11_count_69 ?_
    refine ww_getR (pc := 72) hC 6 9 54 ((lay_11_4 hL).2) RX6 (by decide) (by decide) rfl (lay_6_9 hL ((lay_11_4 hL).2)).1 qf_X11_223 rfl dX11_count_72 ?_
    refine ww_getI (pc := 75) hC 3 1 ((lay_6_9 hL ((lay_11_4 hL).2)).2) RX3 (by decide) (by decide) rfl qf_X11_145 (Or.inl rfl) dX11_count_75 ?_
    exact ww_iret (pc := 78) hC hr (ret_r h) dX11_count_78
  replace h := ite_f h q4
  rcases Classical.em (x1 = (4 : Int32)) with q5 | q5
  · replace h := ite_t h q5
    refine ww_tableIn (pc := 1) hC 79 dX11_count_1 (4 : Int32) q5 (by decide) (by decide) rfl (by decide) ?_
    refine ww_aload_n (pc := 79) hC dX11_count_79 0 rfl ?_
    refine ww_getR (pc := 80) hC 11 4 47 hL.1 RX11 (by decide) (by decide) rfl (lay_11_4 hL).1 qf_X11_36 rfl dX11_count_80 ?_
    refine ww_getR (pc := 83) hC 6 10 56 ((lay_11_4 hL).2) RX6 (by decide) (by decide) rfl (lay_6_10 hL ((lay_11_4 hL).2)).1 qf_X11_235 rfl dX11_count_83 ?_
    refine ww_getI (pc := 86) hC 3 1 ((lay_6_10 hL ((lay_11_4 hL).2)).2) RX3 (by decide) (by decide) rfl qf_X11_145 (Or.inl rfl) dX11_count_86 ?_
    exact ww_iret (pc := 89) hC hr (ret_r h) dX11_count_89
  replace h := ite_f h q5
  rcases Classical.em (x1 = (5 : Int32)) with q6 | q6
  · replace h := ite_t h q6
    refine ww_tableIn (pc := 1) hC 90 dX11_count_1 (5 : Int32) q6 (by decide) (by decide) rfl (by decide) ?_
    refine ww_aload_n (pc := 90) hC dX11_count_90 0 rfl ?_
    refine ww_getR (pc := 91) hC 11 3 45 hL.1 RX11 (by decide) (by decide) rfl (lay_11_3 hL).1 qf_X11_29 rfl dX11_count_91 ?_
    refine ww_getI (pc := 94) hC 3 1 ((lay_11_3 hL).2) RX3 (by decide) (by decide) rfl qf_X11_145 (Or.inl rfl) dX11_count_94 ?_
    exact ww_iret (pc := 97) hC hr (ret_r h) dX11_count_97
  replace h := ite_f h q6
  rcases Classical.em (x1 = (6 : Int32)) with q7 | q7
  · replace h := ite_t h q7
    refine ww_tableIn (pc := 1) hC 98 dX11_count_1 (6 : Int32) q7 (by decide) (by decide) rfl (by decide) ?_
    refine ww_aload_n (pc := 98) hC dX11_count_98 0 rfl ?_
    refine ww_getR (pc := 99) hC 11 9 142 hL.1 RX11 (by decide) (by decide) rfl (lay_11_9 hL).1 qf_X11_54 rfl dX11_count_99 ?_
    refine ww_getI (pc := 102) hC 3 2 ((lay_11_9 hL).2) RX3 (by decide) (by decide) rfl qf_X11_273 (Or.inl rfl) dX11_count_102 ?_
    exact ww_iret (pc := 105) hC hr (ret_r h) dX11_count_105
  replace h := ite_f h q7
  refine ww_tableOut (pc := 1) hC 106 dX11_count_1 (sw_out (fun k h1 h2 => by rcases (show k = 0 ∨ k = 1 ∨ k = 2 ∨ k = 3 ∨ k = 4 ∨ k = 5 ∨ k = 6 by omega) with rfl | rfl | rfl | rfl | rfl | rfl | rfl; exact q1; exact q2; exact q3; exact q4; exact q5; exact q6; exact q7)) (by decide) ?_
  refine ww_bipush (pc := 106) hC (v := (-2 : Int32)) dX11_count_106 (by decide) ?_
  exact ww_iret (pc := 108) hC hr (ret_r h) dX11_count_108
noncomputable def fX11_tape_71 (Z : XS) (x1 : Int32) (s0 : Int32) (s1 : Int32) (X : XD) : Option (Int32 × XD) := gin s1 6 (nm (wI X 152 (s1).toNatClampNeg s0) (fun X_4 => gin x1 6 (bnw (fJ7_fill_d0a16 Z (145 + (x1).toNatClampNeg) ((0 : Int64)) X_4) (fun _ X_8 => some ((1 : Int32), X_8)))))
noncomputable def fX11_tape_49 (Z : XS) (x1 : Int32) (x2 : Int32) (x3 : Int32) (X : XD) : Option (Int32 × XD) := gin x1 6 (nm (wI X 151 (x1).toNatClampNeg x2) (fun X_3 => if x2 = ((-1 : Int32)) then fX11_tape_71 Z x1 ((0 : Int32)) x1 X_3 else fX11_tape_71 Z x1 x3 x1 X_3))
noncomputable def fX11_tape_37 (Z : XS) (x1 : Int32) (x2 : Int32) (x3 : Int32) (X : XD) : Option (Int32 × XD) := if x2 = ((-1 : Int32)) then fX11_tape_49 Z x1 x2 x3 X else if 0 ≤ x3 then fX11_tape_49 Z x1 x2 x3 X else some ((-14 : Int32), X)
noncomputable def fX11_tape (Z : XS) (x1 : Int32) (x2 : Int32) (x3 : Int32) (X : XD) : Option (Int32 × XD) := bnd (fX11_isTape Z x1 X) (fun r2 => if r2 = 0 then some ((-1 : Int32), X) else if x2 < ((-1 : Int32)) then some ((-2 : Int32), X) else if x2 ≤ ((4 : Int32)) then if x2 = ((-1 : Int32)) then fX11_tape_37 Z x1 x2 x3 X else if x3 ≤ ((60 : Int32)) then fX11_tape_37 Z x1 x2 x3 X else some ((-2 : Int32), X) else some ((-2 : Int32), X))
set_option maxHeartbeats 40000000 in
set_option maxRecDepth 100000 in
theorem ceX11_tape {l : Launch} {E : XE} {w : XW} {z : Nat} {Z : XS}  (hL : LayC Z) {x1 : Int32} {x2 : Int32} {x3 : Int32} {X X1 : XD} {r : Int32} (h : fX11_tape Z x1 x2 x3 X = some (r, X1)) : Ct l E w yX11_tape (wsM yX11_tape cX11_tape 4 (some .int)) (rmX 2 0 0) 0 0 [.ref (w.1 0), .int x1, .int x2, .int x3] z z Z Z X X1 (some (.int r)) := by
  refine ct_of (by decide) (Nat.le_of_ble_eq_true rfl) ?_
  intro p e s m args below meth c hC hr hin hav
  have j71 : ∀ (x1 : Int32) (s0 : Int32) (s1 : Int32) (X : XD), fX11_tape_71 Z x1 s0 s1 X = some (r, X1) → WW p l e (rmX 2 0 0) s m args below meth c 4 (MQ below (XQ E w z Z X1 (some (.int r))) args s 0 0 (A0 E)) E w 0 0 z Z 71 [(0, .ref (w.1 0)), (1, .int x1)] [.int s0, .int s1, .ref (w.1 152)] X := by
    intro x1 s0 s1 X h
    unfold fX11_tape_71 at h
    refine ww_iast (pc := 71) hC ((lay_11_12 hL).2) h dX11_tape_71 (fun h => ?_)
    obtain ⟨X_4, eX_4⟩ : ∃ q, q = wI X 152 (s1).toNatClampNeg s0 := ⟨_, rfl⟩
    replace h := nm_i h eX_4
    refine ww_nmX eX_4 ?_
    refine ww_aload_n (pc := 72) hC dX11_tape_72 0 rfl ?_
    refine ww_getR (pc := 73) hC 11 10 144 hL.1 RX11 (by decide) (by decide) rfl (lay_11_10 hL).1 qf_X11_59 rfl dX11_tape_73 ?_
    refine ww_iload_n (pc := 76) hC dX11_tape_76 1 rfl ?_
    have hin5 := (gin_i h).1
    refine ww_aald (pc := 77) hC (145 + (x1).toNatClampNeg) ((lay_11_10 hL).2) (by decide) (by decide) h (fun q => (lay_el19 hL q).1) dX11_tape_77 (fun h => ?_)
    refine ww_lconst (pc := 78) hC (v := (0 : Int64)) dX11_tape_78 (by decide) ?_
    obtain ⟨_, X_8, h6, h⟩ := bnw_i h
    refine ww_callSv (pc := 79) hC [.ref (w.1 (145 + (x1).toNatClampNeg)), .long ((0 : Int64))] (ceJ7_fill_d0a16 ⟨((lay_el19 hL hin5).2).1, ((lay_el19 hL hin5).2).2.1, rfl⟩ h6) ql_X11_276 qt_J7_fill_d0a16 qn_J7 qc_J7_fill_d0a16 ⟨by decide, by decide, rfl⟩ rfl ⟨Nat.le_of_ble_eq_true rfl, Nat.le_of_ble_eq_true rfl⟩ (by decide) (rest := []) (Nat.le_of_ble_eq_true rfl) dX11_tape_79 ⟨Nat.le_of_ble_eq_true rfl, Nat.le_of_ble_eq_true rfl⟩ rfl ?_
    refine ww_iconst (pc := 82) hC (v := (1 : Int32)) dX11_tape_82 (by decide) ?_
    exact ww_iret (pc := 83) hC hr h dX11_tape_83
  have j49 : ∀ (x1 : Int32) (x2 : Int32) (x3 : Int32) (X : XD), fX11_tape_49 Z x1 x2 x3 X = some (r, X1) → WW p l e (rmX 2 0 0) s m args below meth c 4 (MQ below (XQ E w z Z X1 (some (.int r))) args s 0 0 (A0 E)) E w 0 0 z Z 49 [(0, .ref (w.1 0)), (1, .int x1), (2, .int x2), (3, .int x3)] [] X := by
    intro x1 x2 x3 X h
    unfold fX11_tape_49 at h
    refine ww_aload_n (pc := 49) hC dX11_tape_49 0 rfl ?_
    refine ww_getR (pc := 50) hC 11 11 151 hL.1 RX11 (by decide) (by decide) rfl (lay_11_11 hL).1 qf_X11_62 rfl dX11_tape_50 ?_
    refine ww_iload_n (pc := 53) hC dX11_tape_53 1 rfl ?_
    refine ww_iload_n (pc := 54) hC dX11_tape_54 2 rfl ?_
    refine ww_iast (pc := 55) hC ((lay_11_11 hL).2) h dX11_tape_55 (fun h => ?_)
    obtain ⟨X_3, eX_3⟩ : ∃ q, q = wI X 151 (x1).toNatClampNeg x2 := ⟨_, rfl⟩
    replace h := nm_i h eX_3
    refine ww_nmX eX_3 ?_
    refine ww_aload_n (pc := 56) hC dX11_tape_56 0 rfl ?_
    refine ww_getR (pc := 57) hC 11 12 152 hL.1 RX11 (by decide) (by decide) rfl (lay_11_12 hL).1 qf_X11_72 rfl dX11_tape_57 ?_
    refine ww_iload_n (pc := 60) hC dX11_tape_60 1 rfl ?_
    refine ww_iload_n (pc := 61) hC dX11_tape_61 2 rfl ?_
    refine ww_iconst (pc := 62) hC (v := (-1 : Int32)) dX11_tape_62 (by decide) ?_
    refine ww_icmp_ne (pc := 63) hC h 70 dX11_tape_63 (by decide) (fun h => ?_) (fun h => ?_)
    · refine ww_iload_n (pc := 70) hC dX11_tape_70 3 rfl ?_
      refine ww_sub [0, 1] rfl ?_
      exact j71 _ _ _ _ h
    · refine ww_iconst (pc := 66) hC (v := (0 : Int32)) dX11_tape_66 (by decide) ?_
      refine ww_goto (pc := 67) hC 71 dX11_tape_67 (by decide) ?_
      refine ww_sub [0, 1] rfl ?_
      exact j71 _ _ _ _ h
  have j37 : ∀ (x1 : Int32) (x2 : Int32) (x3 : Int32) (X : XD), fX11_tape_37 Z x1 x2 x3 X = some (r, X1) → WW p l e (rmX 2 0 0) s m args below meth c 4 (MQ below (XQ E w z Z X1 (some (.int r))) args s 0 0 (A0 E)) E w 0 0 z Z 37 [(0, .ref (w.1 0)), (1, .int x1), (2, .int x2), (3, .int x3)] [] X := by
    intro x1 x2 x3 X h
    unfold fX11_tape_37 at h
    refine ww_iload_n (pc := 37) hC dX11_tape_37 2 rfl ?_
    refine ww_iconst (pc := 38) hC (v := (-1 : Int32)) dX11_tape_38 (by decide) ?_
    refine ww_icmp_eq (pc := 39) hC h 49 dX11_tape_39 (by decide) (fun h => ?_) (fun h => ?_)
    · refine ww_sub [0, 1, 2, 3] rfl ?_
      exact j49 _ _ _ _ h
    · refine ww_iload_n (pc := 42) hC dX11_tape_42 3 rfl ?_
      refine ww_if_ge (pc := 43) hC h 49 dX11_tape_43 (by decide) (fun h => ?_) (fun h => ?_)
      · refine ww_sub [0, 1, 2, 3] rfl ?_
        exact j49 _ _ _ _ h
      · refine ww_bipush (pc := 46) hC (v := (-14 : Int32)) dX11_tape_46 (by decide) ?_
        exact ww_iret (pc := 48) hC hr h dX11_tape_48
  unfold fX11_tape at h
  refine ww_lv (lv' := [(0, .ref (w.1 0)), (1, .int x1), (2, .int x2), (3, .int x3)]) rfl ?_
  refine ww_aload_n (pc := 0) hC dX11_tape_0 0 rfl ?_
  refine ww_iload_n (pc := 1) hC dX11_tape_1 1 rfl ?_
  obtain ⟨r2, h1, h⟩ := bnd_i h
  refine ww_callVi (pc := 2) hC [.int x1] hL.1.1 hL.1.2 (by decide) (ceX11_isTape hL h1) ql_X11_244 qi_X11_isTape qs_X11_X11_isTape qn_X11 qc_X11_isTape rfl ⟨by decide, by decide, rfl⟩ rfl ⟨Nat.le_of_ble_eq_true rfl, Nat.le_of_ble_eq_true rfl⟩ (by decide) (rest := []) (Nat.le_of_ble_eq_true rfl) dX11_tape_2 ⟨Nat.le_of_ble_eq_true rfl, Nat.le_of_ble_eq_true rfl⟩ rfl ?_
  refine ww_if_ne (pc := 5) hC h 10 dX11_tape_5 (by decide) (fun h => ?_) (fun h => ?_)
  · refine ww_iload_n (pc := 10) hC dX11_tape_10 2 rfl ?_
    refine ww_iconst (pc := 11) hC (v := (-1 : Int32)) dX11_tape_11 (by decide) ?_
    refine ww_icmp_lt (pc := 12) hC h 20 dX11_tape_12 (by decide) (fun h => ?_) (fun h => ?_)
    · refine ww_bipush (pc := 20) hC (v := (-2 : Int32)) dX11_tape_20 (by decide) ?_
      exact ww_iret (pc := 22) hC hr h dX11_tape_22
    · refine ww_iload_n (pc := 15) hC dX11_tape_15 2 rfl ?_
      refine ww_iconst (pc := 16) hC (v := (4 : Int32)) dX11_tape_16 (by decide) ?_
      refine ww_icmp_le (pc := 17) hC h 23 dX11_tape_17 (by decide) (fun h => ?_) (fun h => ?_)
      · refine ww_iload_n (pc := 23) hC dX11_tape_23 2 rfl ?_
        refine ww_iconst (pc := 24) hC (v := (-1 : Int32)) dX11_tape_24 (by decide) ?_
        refine ww_icmp_eq (pc := 25) hC h 37 dX11_tape_25 (by decide) (fun h => ?_) (fun h => ?_)
        · refine ww_sub [0, 1, 2, 3] rfl ?_
          exact j37 _ _ _ _ h
        · refine ww_iload_n (pc := 28) hC dX11_tape_28 3 rfl ?_
          refine ww_bipush (pc := 29) hC (v := (60 : Int32)) dX11_tape_29 (by decide) ?_
          refine ww_icmp_le (pc := 31) hC h 37 dX11_tape_31 (by decide) (fun h => ?_) (fun h => ?_)
          · refine ww_sub [0, 1, 2, 3] rfl ?_
            exact j37 _ _ _ _ h
          · refine ww_bipush (pc := 34) hC (v := (-2 : Int32)) dX11_tape_34 (by decide) ?_
            exact ww_iret (pc := 36) hC hr h dX11_tape_36
      · refine ww_bipush (pc := 20) hC (v := (-2 : Int32)) dX11_tape_20 (by decide) ?_
        exact ww_iret (pc := 22) hC hr h dX11_tape_22
  · refine ww_iconst (pc := 8) hC (v := (-1 : Int32)) dX11_tape_8 (by decide) ?_
    exact ww_iret (pc := 9) hC hr h dX11_tape_9
noncomputable def fX11_narrowed (Z : XS) (x0 : Int32) (x1 : Int64) (X : XD) : Option Int64 := if x0 = (0 : Int32) then some x1.toInt32.toInt8.toInt32.toInt64 else (if x0 = (1 : Int32) then some x1.toInt32.toInt16.toInt32.toInt64 else (if x0 = (2 : Int32) then some x1.toInt32.toInt64 else (if x0 = (3 : Int32) then some x1 else (if x0 = (4 : Int32) then if (lg_cmp x1 ((0 : Int64))) = 0 then some ((0 : Int64)) else some ((1 : Int64)) else (some x1)))))
set_option maxHeartbeats 40000000 in
set_option maxRecDepth 100000 in
theorem ceX11_narrowed {l : Launch} {E : XE} {w : XW} {z : Nat} {Z : XS}  (hL : LayC Z) {x0 : Int32} {x1 : Int64} {X : XD} {r : Int64} (h : fX11_narrowed Z x0 x1 X = some r) : Ct l E w yX11_narrowed (wsM yX11_narrowed cX11_narrowed 3 (some .long)) (rmX 1 0 0) 0 0 [.int x0, .long x1] z z Z Z X X (some (.long r)) := by
  refine ct_of (by decide) (Nat.le_of_ble_eq_true rfl) ?_
  intro p e s m args below meth c hC hr hin hav
  unfold fX11_narrowed at h
  refine ww_lv (lv' := [(0, .int x0), (1, .long x1)]) rfl ?_
  refine ww_iload_n (pc := 0) hC dX11_narrowed_0 0 rfl ?_
  rcases Classical.em (x0 = (0 : Int32)) with q1 | q1
  · replace h := ite_t h q1
    refine ww_tableIn (pc := 1) hC 36 dX11_narrowed_1 (0 : Int32) q1 (by decide) (by decide) rfl (by decide) ?_
    refine ww_lload_n (pc := 36) hC dX11_narrowed_36 1 rfl ?_
    refine ww_l2i (pc := 37) hC dX11_narrowed_37 ?_
    refine ww_i2b (pc := 38) hC dX11_narrowed_38 ?_
    refine ww_i2l (pc := 39) hC dX11_narrowed_39 ?_
    exact ww_lret (pc := 40) hC hr (ret_r h) dX11_narrowed_40
  replace h := ite_f h q1
  rcases Classical.em (x0 = (1 : Int32)) with q2 | q2
  · replace h := ite_t h q2
    refine ww_tableIn (pc := 1) hC 41 dX11_narrowed_1 (1 : Int32) q2 (by decide) (by decide) rfl (by decide) ?_
    refine ww_lload_n (pc := 41) hC dX11_narrowed_41 1 rfl ?_
    refine ww_l2i (pc := 42) hC dX11_narrowed_42 ?_
    refine ww_i2s (pc := 43) hC dX11_narrowed_43 ?_
    refine ww_i2l (pc := 44) hC dX11_narrowed_44 ?_
    exact ww_lret (pc := 45) hC hr (ret_r h) dX11_narrowed_45
  replace h := ite_f h q2
  rcases Classical.em (x0 = (2 : Int32)) with q3 | q3
  · replace h := ite_t h q3
    refine ww_tableIn (pc := 1) hC 46 dX11_narrowed_1 (2 : Int32) q3 (by decide) (by decide) rfl (by decide) ?_
    refine ww_lload_n (pc := 46) hC dX11_narrowed_46 1 rfl ?_
    refine ww_l2i (pc := 47) hC dX11_narrowed_47 ?_
    refine ww_i2l (pc := 48) hC dX11_narrowed_48 ?_
    exact ww_lret (pc := 49) hC hr (ret_r h) dX11_narrowed_49
  replace h := ite_f h q3
  rcases Classical.em (x0 = (3 : Int32)) with q4 | q4
  · replace h := ite_t h q4
    refine ww_tableIn (pc := 1) hC 62 dX11_narrowed_1 (3 : Int32) q4 (by decide) (by decide) rfl (by decide) ?_
    refine ww_lload_n (pc := 62) hC dX11_narrowed_62 1 rfl ?_
    exact ww_lret (pc := 63) hC hr (ret_r h) dX11_narrowed_63
  replace h := ite_f h q4
  rcases Classical.em (x0 = (4 : Int32)) with q5 | q5
  · replace h := ite_t h q5
    refine ww_tableIn (pc := 1) hC 50 dX11_narrowed_1 (4 : Int32) q5 (by decide) (by decide) rfl (by decide) ?_
    refine ww_lload_n (pc := 50) hC dX11_narrowed_50 1 rfl ?_
    refine ww_lconst (pc := 51) hC (v := (0 : Int64)) dX11_narrowed_51 (by decide) ?_
    refine ww_lcmp (pc := 52) hC dX11_narrowed_52 ?_
    refine ww_if_eq (pc := 53) hC h 60 dX11_narrowed_53 (by decide) (fun h => ?_) (fun h => ?_)
    · refine ww_lconst (pc := 60) hC (v := (0 : Int64)) dX11_narrowed_60 (by decide) ?_
      exact ww_lret (pc := 61) hC hr (ret_r h) dX11_narrowed_61
    · refine ww_lconst (pc := 56) hC (v := (1 : Int64)) dX11_narrowed_56 (by decide) ?_
      refine ww_goto (pc := 57) hC 61 dX11_narrowed_57 (by decide) ?_
      exact ww_lret (pc := 61) hC hr (ret_r h) dX11_narrowed_61
  replace h := ite_f h q5
  refine ww_tableOut (pc := 1) hC 62 dX11_narrowed_1 (sw_out (fun k h1 h2 => by rcases (show k = 0 ∨ k = 1 ∨ k = 2 ∨ k = 3 ∨ k = 4 by omega) with rfl | rfl | rfl | rfl | rfl; exact q1; exact q2; exact q3; exact q4; exact q5)) (by decide) ?_
  refine ww_lload_n (pc := 62) hC dX11_narrowed_62 1 rfl ?_
  exact ww_lret (pc := 63) hC hr (ret_r h) dX11_narrowed_63
noncomputable def fX11_item (Z : XS) (x1 : Int32) (x2 : Int32) (x3 : Int64) (X : XD) : Option (Int32 × XD) := bnd (fX11_isTape Z x1 X) (fun r2 => if r2 = 0 then some ((-1 : Int32), X) else gin x1 6 (if (X.1 151 (x1).toNatClampNeg) = ((-1 : Int32)) then some ((-11 : Int32), X) else bnd (fX11_hasPlace Z x1 x2 X) (fun r4 => if r4 = 0 then some ((-13 : Int32), X) else gin x1 6 (gin x1 6 (bnd (fX11_narrowed Z (X.1 151 (x1).toNatClampNeg) x3 X) (fun r7 => gin x2 60 (nm (wJ X (145 + (x1).toNatClampNeg) (x2).toNatClampNeg r7) (fun X_8 => some ((1 : Int32), X_8)))))))))
set_option maxHeartbeats 40000000 in
set_option maxRecDepth 100000 in
theorem ceX11_item {l : Launch} {E : XE} {w : XW} {z : Nat} {Z : XS}  (hL : LayC Z) {x1 : Int32} {x2 : Int32} {x3 : Int64} {X X1 : XD} {r : Int32} (h : fX11_item Z x1 x2 x3 X = some (r, X1)) : Ct l E w yX11_item (wsM yX11_item cX11_item 5 (some .int)) (rmX 2 0 0) 0 0 [.ref (w.1 0), .int x1, .int x2, .long x3] z z Z Z X X1 (some (.int r)) := by
  refine ct_of (by decide) (Nat.le_of_ble_eq_true rfl) ?_
  intro p e s m args below meth c hC hr hin hav
  unfold fX11_item at h
  refine ww_lv (lv' := [(0, .ref (w.1 0)), (1, .int x1), (2, .int x2), (3, .long x3)]) rfl ?_
  refine ww_aload_n (pc := 0) hC dX11_item_0 0 rfl ?_
  refine ww_iload_n (pc := 1) hC dX11_item_1 1 rfl ?_
  obtain ⟨r2, h1, h⟩ := bnd_i h
  refine ww_callVi (pc := 2) hC [.int x1] hL.1.1 hL.1.2 (by decide) (ceX11_isTape hL h1) ql_X11_244 qi_X11_isTape qs_X11_X11_isTape qn_X11 qc_X11_isTape rfl ⟨by decide, by decide, rfl⟩ rfl ⟨Nat.le_of_ble_eq_true rfl, Nat.le_of_ble_eq_true rfl⟩ (by decide) (rest := []) (Nat.le_of_ble_eq_true rfl) dX11_item_2 ⟨Nat.le_of_ble_eq_true rfl, Nat.le_of_ble_eq_true rfl⟩ rfl ?_
  refine ww_if_ne (pc := 5) hC h 10 dX11_item_5 (by decide) (fun h => ?_) (fun h => ?_)
  · refine ww_aload_n (pc := 10) hC dX11_item_10 0 rfl ?_
    refine ww_getR (pc := 11) hC 11 11 151 hL.1 RX11 (by decide) (by decide) rfl (lay_11_11 hL).1 qf_X11_62 rfl dX11_item_11 ?_
    refine ww_iload_n (pc := 14) hC dX11_item_14 1 rfl ?_
    refine ww_iald (pc := 15) hC ((lay_11_11 hL).2) h dX11_item_15 (fun h => ?_)
    refine ww_iconst (pc := 16) hC (v := (-1 : Int32)) dX11_item_16 (by decide) ?_
    refine ww_icmp_ne (pc := 17) hC h 23 dX11_item_17 (by decide) (fun h => ?_) (fun h => ?_)
    · refine ww_aload_n (pc := 23) hC dX11_item_23 0 rfl ?_
      refine ww_iload_n (pc := 24) hC dX11_item_24 1 rfl ?_
      refine ww_iload_n (pc := 25) hC dX11_item_25 2 rfl ?_
      obtain ⟨r4, h3, h⟩ := bnd_i h
      refine ww_callVi (pc := 26) hC [.int x1, .int x2] hL.1.1 hL.1.2 (by decide) (ceX11_hasPlace hL h3) ql_X11_247 qi_X11_hasPlace qs_X11_X11_hasPlace qn_X11 qc_X11_hasPlace rfl ⟨by decide, by decide, rfl⟩ rfl ⟨Nat.le_of_ble_eq_true rfl, Nat.le_of_ble_eq_true rfl⟩ (by decide) (rest := []) (Nat.le_of_ble_eq_true rfl) dX11_item_26 ⟨Nat.le_of_ble_eq_true rfl, Nat.le_of_ble_eq_true rfl⟩ rfl ?_
      refine ww_if_ne (pc := 29) hC h 35 dX11_item_29 (by decide) (fun h => ?_) (fun h => ?_)
      · refine ww_aload_n (pc := 35) hC dX11_item_35 0 rfl ?_
        refine ww_getR (pc := 36) hC 11 10 144 hL.1 RX11 (by decide) (by decide) rfl (lay_11_10 hL).1 qf_X11_59 rfl dX11_item_36 ?_
        refine ww_iload_n (pc := 39) hC dX11_item_39 1 rfl ?_
        have hin5 := (gin_i h).1
        refine ww_aald (pc := 40) hC (145 + (x1).toNatClampNeg) ((lay_11_10 hL).2) (by decide) (by decide) h (fun q => (lay_el19 hL q).1) dX11_item_40 (fun h => ?_)
        refine ww_iload_n (pc := 41) hC dX11_item_41 2 rfl ?_
        refine ww_aload_n (pc := 42) hC dX11_item_42 0 rfl ?_
        refine ww_getR (pc := 43) hC 11 11 151 hL.1 RX11 (by decide) (by decide) rfl (lay_11_11 hL).1 qf_X11_62 rfl dX11_item_43 ?_
        refine ww_iload_n (pc := 46) hC dX11_item_46 1 rfl ?_
        refine ww_iald (pc := 47) hC ((lay_11_11 hL).2) h dX11_item_47 (fun h => ?_)
        refine ww_lload_n (pc := 48) hC dX11_item_48 3 rfl ?_
        obtain ⟨r7, h6, h⟩ := bnd_i h
        refine ww_callSl (pc := 49) hC [.int (X.1 151 (x1).toNatClampNeg), .long x3] (ceX11_narrowed hL h6) ql_X11_279 qt_X11_narrowed qn_X11 qc_X11_narrowed ⟨by decide, by decide, rfl⟩ rfl ⟨Nat.le_of_ble_eq_true rfl, Nat.le_of_ble_eq_true rfl⟩ (by decide) (rest := [.int x2, .ref (w.1 (145 + (x1).toNatClampNeg))]) (Nat.le_of_ble_eq_true rfl) dX11_item_49 ⟨Nat.le_of_ble_eq_true rfl, Nat.le_of_ble_eq_true rfl⟩ rfl ?_
        refine ww_last (pc := 52) hC ((lay_el19 hL hin5).2) h dX11_item_52 (fun h => ?_)
        obtain ⟨X_8, eX_8⟩ : ∃ q, q = wJ X (145 + (x1).toNatClampNeg) (x2).toNatClampNeg r7 := ⟨_, rfl⟩
        replace h := nm_i h eX_8
        refine ww_nmX eX_8 ?_
        refine ww_iconst (pc := 53) hC (v := (1 : Int32)) dX11_item_53 (by decide) ?_
        exact ww_iret (pc := 54) hC hr h dX11_item_54
      · refine ww_bipush (pc := 32) hC (v := (-13 : Int32)) dX11_item_32 (by decide) ?_
        exact ww_iret (pc := 34) hC hr h dX11_item_34
    · refine ww_bipush (pc := 20) hC (v := (-11 : Int32)) dX11_item_20 (by decide) ?_
      exact ww_iret (pc := 22) hC hr h dX11_item_22
  · refine ww_iconst (pc := 8) hC (v := (-1 : Int32)) dX11_item_8 (by decide) ?_
    exact ww_iret (pc := 9) hC hr h dX11_item_9
noncomputable def fX11_read (Z : XS) (x1 : Int32) (x2 : Int32) (X : XD) : Option Int64 := bnd (fX11_isTape Z x1 X) (fun r2 => if r2 = 0 then some ((-9223372036854775808 : Int64)) else bnd (fX11_hasPlace Z x1 x2 X) (fun r4 => if r4 = 0 then some ((-9223372036854775808 : Int64)) else gin x1 6 (gin x2 60 (some (X.2 (145 + (x1).toNatClampNeg) (x2).toNatClampNeg)))))
set_option maxHeartbeats 40000000 in
set_option maxRecDepth 100000 in
theorem ceX11_read {l : Launch} {E : XE} {w : XW} {z : Nat} {Z : XS}  (hL : LayC Z) {x1 : Int32} {x2 : Int32} {X : XD} {r : Int64} (h : fX11_read Z x1 x2 X = some r) : Ct l E w yX11_read (wsM yX11_read cX11_read 3 (some .long)) (rmX 2 0 0) 0 0 [.ref (w.1 0), .int x1, .int x2] z z Z Z X X (some (.long r)) := by
  refine ct_of (by decide) (Nat.le_of_ble_eq_true rfl) ?_
  intro p e s m args below meth c hC hr hin hav
  unfold fX11_read at h
  refine ww_lv (lv' := [(0, .ref (w.1 0)), (1, .int x1), (2, .int x2)]) rfl ?_
  refine ww_aload_n (pc := 0) hC dX11_read_0 0 rfl ?_
  refine ww_iload_n (pc := 1) hC dX11_read_1 1 rfl ?_
  obtain ⟨r2, h1, h⟩ := bnd_i h
  refine ww_callVi (pc := 2) hC [.int x1] hL.1.1 hL.1.2 (by decide) (ceX11_isTape hL h1) ql_X11_244 qi_X11_isTape qs_X11_X11_isTape qn_X11 qc_X11_isTape rfl ⟨by decide, by decide, rfl⟩ rfl ⟨Nat.le_of_ble_eq_true rfl, Nat.le_of_ble_eq_true rfl⟩ (by decide) (rest := []) (Nat.le_of_ble_eq_true rfl) dX11_read_2 ⟨Nat.le_of_ble_eq_true rfl, Nat.le_of_ble_eq_true rfl⟩ rfl ?_
  refine ww_if_eq (pc := 5) hC h 28 dX11_read_5 (by decide) (fun h => ?_) (fun h => ?_)
  · refine ww_ldc2 (pc := 28) hC (v := (-9223372036854775808 : Int64)) dX11_read_28 qg_X11_197 ?_
    exact ww_lret (pc := 31) hC hr (ret_r h) dX11_read_31
  · refine ww_aload_n (pc := 8) hC dX11_read_8 0 rfl ?_
    refine ww_iload_n (pc := 9) hC dX11_read_9 1 rfl ?_
    refine ww_iload_n (pc := 10) hC dX11_read_10 2 rfl ?_
    obtain ⟨r4, h3, h⟩ := bnd_i h
    refine ww_callVi (pc := 11) hC [.int x1, .int x2] hL.1.1 hL.1.2 (by decide) (ceX11_hasPlace hL h3) ql_X11_247 qi_X11_hasPlace qs_X11_X11_hasPlace qn_X11 qc_X11_hasPlace rfl ⟨by decide, by decide, rfl⟩ rfl ⟨Nat.le_of_ble_eq_true rfl, Nat.le_of_ble_eq_true rfl⟩ (by decide) (rest := []) (Nat.le_of_ble_eq_true rfl) dX11_read_11 ⟨Nat.le_of_ble_eq_true rfl, Nat.le_of_ble_eq_true rfl⟩ rfl ?_
    refine ww_if_eq (pc := 14) hC h 28 dX11_read_14 (by decide) (fun h => ?_) (fun h => ?_)
    · refine ww_ldc2 (pc := 28) hC (v := (-9223372036854775808 : Int64)) dX11_read_28 qg_X11_197 ?_
      exact ww_lret (pc := 31) hC hr (ret_r h) dX11_read_31
    · refine ww_aload_n (pc := 17) hC dX11_read_17 0 rfl ?_
      refine ww_getR (pc := 18) hC 11 10 144 hL.1 RX11 (by decide) (by decide) rfl (lay_11_10 hL).1 qf_X11_59 rfl dX11_read_18 ?_
      refine ww_iload_n (pc := 21) hC dX11_read_21 1 rfl ?_
      have hin5 := (gin_i h).1
      refine ww_aald (pc := 22) hC (145 + (x1).toNatClampNeg) ((lay_11_10 hL).2) (by decide) (by decide) h (fun q => (lay_el19 hL q).1) dX11_read_22 (fun h => ?_)
      refine ww_iload_n (pc := 23) hC dX11_read_23 2 rfl ?_
      refine ww_lald (pc := 24) hC ((lay_el19 hL hin5).2) h dX11_read_24 (fun h => ?_)
      refine ww_goto (pc := 25) hC 31 dX11_read_25 (by decide) ?_
      exact ww_lret (pc := 31) hC hr (ret_r h) dX11_read_31
noncomputable def fX11_hasPart (Z : XS) (x1 : Int32) (x2 : Int32) (x3 : Int32) (X : XD) : Option Int32 := if x3 < 0 then some ((0 : Int32)) else if x2 < 0 then some ((0 : Int32)) else gin x1 6 (if (X.1 152 (x1).toNatClampNeg) < x3 then some ((0 : Int32)) else gin x1 6 (if ((X.1 152 (x1).toNatClampNeg) - x3) < x2 then some ((0 : Int32)) else some ((1 : Int32))))
set_option maxHeartbeats 40000000 in
set_option maxRecDepth 100000 in
theorem ceX11_hasPart {l : Launch} {E : XE} {w : XW} {z : Nat} {Z : XS}  (hL : LayC Z) {x1 : Int32} {x2 : Int32} {x3 : Int32} {X : XD} {r : Int32} (h : fX11_hasPart Z x1 x2 x3 X = some r) : Ct l E w yX11_hasPart (wsM yX11_hasPart cX11_hasPart 4 (some .boolean)) (rmX 1 0 0) 0 0 [.ref (w.1 0), .int x1, .int x2, .int x3] z z Z Z X X (some (.int r)) := by
  refine ct_of (by decide) (Nat.le_of_ble_eq_true rfl) ?_
  intro p e s m args below meth c hC hr hin hav
  unfold fX11_hasPart at h
  refine ww_lv (lv' := [(0, .ref (w.1 0)), (1, .int x1), (2, .int x2), (3, .int x3)]) rfl ?_
  refine ww_iload_n (pc := 0) hC dX11_hasPart_0 3 rfl ?_
  refine ww_if_lt (pc := 1) hC h 34 dX11_hasPart_1 (by decide) (fun h => ?_) (fun h => ?_)
  · refine ww_iconst (pc := 34) hC (v := (0 : Int32)) dX11_hasPart_34 (by decide) ?_
    exact ww_zret (pc := 35) hC hr rfl (ret_r h) dX11_hasPart_35
  · refine ww_iload_n (pc := 4) hC dX11_hasPart_4 2 rfl ?_
    refine ww_if_lt (pc := 5) hC h 34 dX11_hasPart_5 (by decide) (fun h => ?_) (fun h => ?_)
    · refine ww_iconst (pc := 34) hC (v := (0 : Int32)) dX11_hasPart_34 (by decide) ?_
      exact ww_zret (pc := 35) hC hr rfl (ret_r h) dX11_hasPart_35
    · refine ww_iload_n (pc := 8) hC dX11_hasPart_8 3 rfl ?_
      refine ww_aload_n (pc := 9) hC dX11_hasPart_9 0 rfl ?_
      refine ww_getR (pc := 10) hC 11 12 152 hL.1 RX11 (by decide) (by decide) rfl (lay_11_12 hL).1 qf_X11_72 rfl dX11_hasPart_10 ?_
      refine ww_iload_n (pc := 13) hC dX11_hasPart_13 1 rfl ?_
      refine ww_iald (pc := 14) hC ((lay_11_12 hL).2) h dX11_hasPart_14 (fun h => ?_)
      refine ww_icmp_gt (pc := 15) hC h 34 dX11_hasPart_15 (by decide) (fun h => ?_) (fun h => ?_)
      · refine ww_iconst (pc := 34) hC (v := (0 : Int32)) dX11_hasPart_34 (by decide) ?_
        exact ww_zret (pc := 35) hC hr rfl (ret_r h) dX11_hasPart_35
      · refine ww_iload_n (pc := 18) hC dX11_hasPart_18 2 rfl ?_
        refine ww_aload_n (pc := 19) hC dX11_hasPart_19 0 rfl ?_
        refine ww_getR (pc := 20) hC 11 12 152 hL.1 RX11 (by decide) (by decide) rfl (lay_11_12 hL).1 qf_X11_72 rfl dX11_hasPart_20 ?_
        refine ww_iload_n (pc := 23) hC dX11_hasPart_23 1 rfl ?_
        refine ww_iald (pc := 24) hC ((lay_11_12 hL).2) h dX11_hasPart_24 (fun h => ?_)
        refine ww_iload_n (pc := 25) hC dX11_hasPart_25 3 rfl ?_
        refine ww_isub (pc := 26) hC dX11_hasPart_26 ?_
        refine ww_icmp_gt (pc := 27) hC h 34 dX11_hasPart_27 (by decide) (fun h => ?_) (fun h => ?_)
        · refine ww_iconst (pc := 34) hC (v := (0 : Int32)) dX11_hasPart_34 (by decide) ?_
          exact ww_zret (pc := 35) hC hr rfl (ret_r h) dX11_hasPart_35
        · refine ww_iconst (pc := 30) hC (v := (1 : Int32)) dX11_hasPart_30 (by decide) ?_
          refine ww_goto (pc := 31) hC 35 dX11_hasPart_31 (by decide) ?_
          exact ww_zret (pc := 35) hC hr rfl (ret_r h) dX11_hasPart_35
noncomputable def fX11_shift (Z : XS) (x1 : Int32) (x2 : Int32) (x3 : Int32) (x4 : Int32) (x5 : Int32) (X : XD) : Option (Int32 × XD) := bnd (fX11_isTape Z x1 X) (fun r2 => if r2 = 0 then some ((-1 : Int32), X) else bnd (fX11_isTape Z x3 X) (fun r4 => if r4 = 0 then some ((-1 : Int32), X) else gin x1 6 (if (X.1 151 (x1).toNatClampNeg) = ((-1 : Int32)) then some ((-11 : Int32), X) else gin x3 6 (if (X.1 151 (x3).toNatClampNeg) = ((-1 : Int32)) then some ((-11 : Int32), X) else gin x1 6 (gin x3 6 (if (X.1 151 (x1).toNatClampNeg) = (X.1 151 (x3).toNatClampNeg) then bnd (fX11_hasPart Z x1 x2 x5 X) (fun r6 => if r6 = 0 then some ((-13 : Int32), X) else bnd (fX11_hasPart Z x3 x4 x5 X) (fun r8 => if r8 = 0 then some ((-13 : Int32), X) else gin x1 6 (gin x3 6 (gcp x2 x4 x5 60 60 (nm (cpJ X (145 + (x1).toNatClampNeg) x2 (145 + (x3).toNatClampNeg) x4 x5) (fun X_11 => some (x5, X_11))))))) else some ((-12 : Int32), X)))))))
set_option maxHeartbeats 40000000 in
set_option maxRecDepth 100000 in
theorem ceX11_shift {l : Launch} {E : XE} {w : XW} {z : Nat} {Z : XS}  (hL : LayC Z) {x1 : Int32} {x2 : Int32} {x3 : Int32} {x4 : Int32} {x5 : Int32} {X X1 : XD} {r : Int32} (h : fX11_shift Z x1 x2 x3 x4 x5 X = some (r, X1)) : Ct l E w yX11_shift (wsM yX11_shift cX11_shift 6 (some .int)) (rmX 2 0 0) 0 0 [.ref (w.1 0), .int x1, .int x2, .int x3, .int x4, .int x5] z z Z Z X X1 (some (.int r)) := by
  refine ct_of (by decide) (Nat.le_of_ble_eq_true rfl) ?_
  intro p e s m args below meth c hC hr hin hav
  unfold fX11_shift at h
  refine ww_lv (lv' := [(0, .ref (w.1 0)), (1, .int x1), (2, .int x2), (3, .int x3), (4, .int x4), (5, .int x5)]) rfl ?_
  refine ww_aload_n (pc := 0) hC dX11_shift_0 0 rfl ?_
  refine ww_iload_n (pc := 1) hC dX11_shift_1 1 rfl ?_
  obtain ⟨r2, h1, h⟩ := bnd_i h
  refine ww_callVi (pc := 2) hC [.int x1] hL.1.1 hL.1.2 (by decide) (ceX11_isTape hL h1) ql_X11_244 qi_X11_isTape qs_X11_X11_isTape qn_X11 qc_X11_isTape rfl ⟨by decide, by decide, rfl⟩ rfl ⟨Nat.le_of_ble_eq_true rfl, Nat.le_of_ble_eq_true rfl⟩ (by decide) (rest := []) (Nat.le_of_ble_eq_true rfl) dX11_shift_2 ⟨Nat.le_of_ble_eq_true rfl, Nat.le_of_ble_eq_true rfl⟩ rfl ?_
  refine ww_if_eq (pc := 5) hC h 16 dX11_shift_5 (by decide) (fun h => ?_) (fun h => ?_)
  · refine ww_iconst (pc := 16) hC (v := (-1 : Int32)) dX11_shift_16 (by decide) ?_
    exact ww_iret (pc := 17) hC hr h dX11_shift_17
  · refine ww_aload_n (pc := 8) hC dX11_shift_8 0 rfl ?_
    refine ww_iload_n (pc := 9) hC dX11_shift_9 3 rfl ?_
    obtain ⟨r4, h3, h⟩ := bnd_i h
    refine ww_callVi (pc := 10) hC [.int x3] hL.1.1 hL.1.2 (by decide) (ceX11_isTape hL h3) ql_X11_244 qi_X11_isTape qs_X11_X11_isTape qn_X11 qc_X11_isTape rfl ⟨by decide, by decide, rfl⟩ rfl ⟨Nat.le_of_ble_eq_true rfl, Nat.le_of_ble_eq_true rfl⟩ (by decide) (rest := []) (Nat.le_of_ble_eq_true rfl) dX11_shift_10 ⟨Nat.le_of_ble_eq_true rfl, Nat.le_of_ble_eq_true rfl⟩ rfl ?_
    refine ww_if_ne (pc := 13) hC h 18 dX11_shift_13 (by decide) (fun h => ?_) (fun h => ?_)
    · refine ww_aload_n (pc := 18) hC dX11_shift_18 0 rfl ?_
      refine ww_getR (pc := 19) hC 11 11 151 hL.1 RX11 (by decide) (by decide) rfl (lay_11_11 hL).1 qf_X11_62 rfl dX11_shift_19 ?_
      refine ww_iload_n (pc := 22) hC dX11_shift_22 1 rfl ?_
      refine ww_iald (pc := 23) hC ((lay_11_11 hL).2) h dX11_shift_23 (fun h => ?_)
      refine ww_iconst (pc := 24) hC (v := (-1 : Int32)) dX11_shift_24 (by decide) ?_
      refine ww_icmp_eq (pc := 25) hC h 38 dX11_shift_25 (by decide) (fun h => ?_) (fun h => ?_)
      · refine ww_bipush (pc := 38) hC (v := (-11 : Int32)) dX11_shift_38 (by decide) ?_
        exact ww_iret (pc := 40) hC hr h dX11_shift_40
      · refine ww_aload_n (pc := 28) hC dX11_shift_28 0 rfl ?_
        refine ww_getR (pc := 29) hC 11 11 151 hL.1 RX11 (by decide) (by decide) rfl (lay_11_11 hL).1 qf_X11_62 rfl dX11_shift_29 ?_
        refine ww_iload_n (pc := 32) hC dX11_shift_32 3 rfl ?_
        refine ww_iald (pc := 33) hC ((lay_11_11 hL).2) h dX11_shift_33 (fun h => ?_)
        refine ww_iconst (pc := 34) hC (v := (-1 : Int32)) dX11_shift_34 (by decide) ?_
        refine ww_icmp_ne (pc := 35) hC h 41 dX11_shift_35 (by decide) (fun h => ?_) (fun h => ?_)
        · refine ww_aload_n (pc := 41) hC dX11_shift_41 0 rfl ?_
          refine ww_getR (pc := 42) hC 11 11 151 hL.1 RX11 (by decide) (by decide) rfl (lay_11_11 hL).1 qf_X11_62 rfl dX11_shift_42 ?_
          refine ww_iload_n (pc := 45) hC dX11_shift_45 1 rfl ?_
          refine ww_iald (pc := 46) hC ((lay_11_11 hL).2) h dX11_shift_46 (fun h => ?_)
          refine ww_aload_n (pc := 47) hC dX11_shift_47 0 rfl ?_
          refine ww_getR (pc := 48) hC 11 11 151 hL.1 RX11 (by decide) (by decide) rfl (lay_11_11 hL).1 qf_X11_62 rfl dX11_shift_48 ?_
          refine ww_iload_n (pc := 51) hC dX11_shift_51 3 rfl ?_
          refine ww_iald (pc := 52) hC ((lay_11_11 hL).2) h dX11_shift_52 (fun h => ?_)
          refine ww_icmp_eq (pc := 53) hC h 59 dX11_shift_53 (by decide) (fun h => ?_) (fun h => ?_)
          · refine ww_aload_n (pc := 59) hC dX11_shift_59 0 rfl ?_
            refine ww_iload_n (pc := 60) hC dX11_shift_60 1 rfl ?_
            refine ww_iload_n (pc := 61) hC dX11_shift_61 2 rfl ?_
            refine ww_iload (pc := 62) hC dX11_shift_62 5 rfl ?_
            obtain ⟨r6, h5, h⟩ := bnd_i h
            refine ww_callVi (pc := 64) hC [.int x1, .int x2, .int x5] hL.1.1 hL.1.2 (by decide) (ceX11_hasPart hL h5) ql_X11_283 qi_X11_hasPart qs_X11_X11_hasPart qn_X11 qc_X11_hasPart rfl ⟨by decide, by decide, rfl⟩ rfl ⟨Nat.le_of_ble_eq_true rfl, Nat.le_of_ble_eq_true rfl⟩ (by decide) (rest := []) (Nat.le_of_ble_eq_true rfl) dX11_shift_64 ⟨Nat.le_of_ble_eq_true rfl, Nat.le_of_ble_eq_true rfl⟩ rfl ?_
            refine ww_if_eq (pc := 67) hC h 82 dX11_shift_67 (by decide) (fun h => ?_) (fun h => ?_)
            · refine ww_bipush (pc := 82) hC (v := (-13 : Int32)) dX11_shift_82 (by decide) ?_
              exact ww_iret (pc := 84) hC hr h dX11_shift_84
            · refine ww_aload_n (pc := 70) hC dX11_shift_70 0 rfl ?_
              refine ww_iload_n (pc := 71) hC dX11_shift_71 3 rfl ?_
              refine ww_iload (pc := 72) hC dX11_shift_72 4 rfl ?_
              refine ww_iload (pc := 74) hC dX11_shift_74 5 rfl ?_
              obtain ⟨r8, h7, h⟩ := bnd_i h
              refine ww_callVi (pc := 76) hC [.int x3, .int x4, .int x5] hL.1.1 hL.1.2 (by decide) (ceX11_hasPart hL h7) ql_X11_283 qi_X11_hasPart qs_X11_X11_hasPart qn_X11 qc_X11_hasPart rfl ⟨by decide, by decide, rfl⟩ rfl ⟨Nat.le_of_ble_eq_true rfl, Nat.le_of_ble_eq_true rfl⟩ (by decide) (rest := []) (Nat.le_of_ble_eq_true rfl) dX11_shift_76 ⟨Nat.le_of_ble_eq_true rfl, Nat.le_of_ble_eq_true rfl⟩ rfl ?_
              refine ww_if_ne (pc := 79) hC h 85 dX11_shift_79 (by decide) (fun h => ?_) (fun h => ?_)
              · refine ww_aload_n (pc := 85) hC dX11_shift_85 0 rfl ?_
                refine ww_getR (pc := 86) hC 11 10 144 hL.1 RX11 (by decide) (by decide) rfl (lay_11_10 hL).1 qf_X11_59 rfl dX11_shift_86 ?_
                refine ww_iload_n (pc := 89) hC dX11_shift_89 1 rfl ?_
                have hin9 := (gin_i h).1
                refine ww_aald (pc := 90) hC (145 + (x1).toNatClampNeg) ((lay_11_10 hL).2) (by decide) (by decide) h (fun q => (lay_el19 hL q).1) dX11_shift_90 (fun h => ?_)
                refine ww_iload_n (pc := 91) hC dX11_shift_91 2 rfl ?_
                refine ww_aload_n (pc := 92) hC dX11_shift_92 0 rfl ?_
                refine ww_getR (pc := 93) hC 11 10 144 hL.1 RX11 (by decide) (by decide) rfl (lay_11_10 hL).1 qf_X11_59 rfl dX11_shift_93 ?_
                refine ww_iload_n (pc := 96) hC dX11_shift_96 3 rfl ?_
                have hin10 := (gin_i h).1
                refine ww_aald (pc := 97) hC (145 + (x3).toNatClampNeg) ((lay_11_10 hL).2) (by decide) (by decide) h (fun q => (lay_el19 hL q).1) dX11_shift_97 (fun h => ?_)
                refine ww_iload (pc := 98) hC dX11_shift_98 4 rfl ?_
                refine ww_iload (pc := 100) hC dX11_shift_100 5 rfl ?_
                refine ww_copyJ (pc := 102) hC ((lay_el19 hL hin9).2) ((lay_el19 hL hin10).2) h ql_X11_287 qv_java_lang_System_arraycopy qt_java_lang_System_arraycopy qn_J10 ⟨Nat.le_of_ble_eq_true rfl, Nat.le_of_ble_eq_true rfl⟩ (Nat.le_of_ble_eq_true rfl) dX11_shift_102 (fun h => ?_)
                obtain ⟨X_11, eX_11⟩ : ∃ q, q = cpJ X (145 + (x1).toNatClampNeg) x2 (145 + (x3).toNatClampNeg) x4 x5 := ⟨_, rfl⟩
                replace h := nm_i h eX_11
                refine ww_nmX eX_11 ?_
                refine ww_iload (pc := 105) hC dX11_shift_105 5 rfl ?_
                exact ww_iret (pc := 107) hC hr h dX11_shift_107
              · refine ww_bipush (pc := 82) hC (v := (-13 : Int32)) dX11_shift_82 (by decide) ?_
                exact ww_iret (pc := 84) hC hr h dX11_shift_84
          · refine ww_bipush (pc := 56) hC (v := (-12 : Int32)) dX11_shift_56 (by decide) ?_
            exact ww_iret (pc := 58) hC hr h dX11_shift_58
        · refine ww_bipush (pc := 38) hC (v := (-11 : Int32)) dX11_shift_38 (by decide) ?_
          exact ww_iret (pc := 40) hC hr h dX11_shift_40
    · refine ww_iconst (pc := 16) hC (v := (-1 : Int32)) dX11_shift_16 (by decide) ?_
      exact ww_iret (pc := 17) hC hr h dX11_shift_17
