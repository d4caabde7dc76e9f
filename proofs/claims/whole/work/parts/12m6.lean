noncomputable def fX12_item (x1 : Int32) (x2 : Int32) (x3 : Int64) (X : XD) : Option (Int32 × XD) := bnd (fX12_isTape x1 X) (fun r2 => if r2 = 0 then some ((-1 : Int32), X) else gin x1 6 (if 0 ≤ (X.1 39 (x1).toNatClampNeg) then gin x1 6 (bnd (fX12_in x2 ((0 : Int32)) ((X.1 40 (x1).toNatClampNeg) - ((1 : Int32))) X) (fun r4 => if r4 = 0 then some ((-13 : Int32), X) else gin x1 6 (bnd (fX12_narrow (X.1 39 (x1).toNatClampNeg) x3 X) (fun r6 => gin ((((60 : Int32)) * x1) + x2) 360 (nm (wJ X 41 ((((60 : Int32)) * x1) + x2).toNatClampNeg r6) (fun X_7 => some ((1 : Int32), X_7))))))) else some ((-11 : Int32), X)))
set_option maxHeartbeats 40000000 in
set_option maxRecDepth 100000 in
theorem ceX12_item {l : Launch} {E : XE} {w : XW} {z : Nat} {Z : XS} (hL : LayM Z) {x1 : Int32} {x2 : Int32} {x3 : Int64} {X X1 : XD} {r : Int32} (h : fX12_item x1 x2 x3 X = some (r, X1)) : Ct l E w yX12_item (wsM yX12_item cX12_item 5 (some .int)) (rmX 3 0 0) 0 0 [.ref (w.1 0), .int x1, .int x2, .long x3] z z Z Z X X1 (some (.int r)) := by
  refine ct_of (by decide) (Nat.le_of_ble_eq_true rfl) ?_
  intro p e s m args below meth c hC hr hin hav
  unfold fX12_item at h
  refine ww_lv (lv' := [(0, .ref (w.1 0)), (1, .int x1), (2, .int x2), (3, .long x3)]) rfl ?_
  refine ww_aload_n (pc := 0) hC dX12_item_0 0 rfl ?_
  refine ww_iload_n (pc := 1) hC dX12_item_1 1 rfl ?_
  obtain ⟨r2, h1, h⟩ := bnd_i h
  refine ww_callVi (pc := 2) hC [.int x1] hL.1.1 hL.1.2 (by decide) (ceX12_isTape hL h1) ql_X12_377 qi_X12_isTape qs_X12_X12_isTape qn_X12 qc_X12_isTape rfl ⟨by decide, by decide, rfl⟩ rfl ⟨Nat.le_of_ble_eq_true rfl, Nat.le_of_ble_eq_true rfl⟩ (by decide) (rest := []) (Nat.le_of_ble_eq_true rfl) dX12_item_2 ⟨Nat.le_of_ble_eq_true rfl, Nat.le_of_ble_eq_true rfl⟩ rfl ?_
  refine ww_if_ne (pc := 5) hC h 10 dX12_item_5 (by decide) (fun h => ?_) (fun h => ?_)
  · refine ww_aload_n (pc := 10) hC dX12_item_10 0 rfl ?_
    refine ww_getR (pc := 11) hC 12 63 39 hL.1 RX12 (by decide) (by decide) rfl (lay_12_63 hL).1 qf_X12_203 rfl dX12_item_11 ?_
    refine ww_iload_n (pc := 14) hC dX12_item_14 1 rfl ?_
    refine ww_iald (pc := 15) hC ((lay_12_63 hL).2) h dX12_item_15 (fun h => ?_)
    refine ww_if_ge (pc := 16) hC h 22 dX12_item_16 (by decide) (fun h => ?_) (fun h => ?_)
    · refine ww_aload_n (pc := 22) hC dX12_item_22 0 rfl ?_
      refine ww_iload_n (pc := 23) hC dX12_item_23 2 rfl ?_
      refine ww_iconst (pc := 24) hC (v := (0 : Int32)) dX12_item_24 (by decide) ?_
      refine ww_aload_n (pc := 25) hC dX12_item_25 0 rfl ?_
      refine ww_getR (pc := 26) hC 12 64 40 hL.1 RX12 (by decide) (by decide) rfl (lay_12_64 hL).1 qf_X12_206 rfl dX12_item_26 ?_
      refine ww_iload_n (pc := 29) hC dX12_item_29 1 rfl ?_
      refine ww_iald (pc := 30) hC ((lay_12_64 hL).2) h dX12_item_30 (fun h => ?_)
      refine ww_iconst (pc := 31) hC (v := (1 : Int32)) dX12_item_31 (by decide) ?_
      refine ww_isub (pc := 32) hC dX12_item_32 ?_
      obtain ⟨r4, h3, h⟩ := bnd_i h
      refine ww_callVi (pc := 33) hC [.int x2, .int ((0 : Int32)), .int ((X.1 40 (x1).toNatClampNeg) - ((1 : Int32)))] hL.1.1 hL.1.2 (by decide) (ceX12_in hL h3) ql_X12_215 qi_X12_in qs_X12_X12_in qn_X12 qc_X12_in rfl ⟨by decide, by decide, rfl⟩ rfl ⟨Nat.le_of_ble_eq_true rfl, Nat.le_of_ble_eq_true rfl⟩ (by decide) (rest := []) (Nat.le_of_ble_eq_true rfl) dX12_item_33 ⟨Nat.le_of_ble_eq_true rfl, Nat.le_of_ble_eq_true rfl⟩ rfl ?_
      refine ww_if_ne (pc := 36) hC h 42 dX12_item_36 (by decide) (fun h => ?_) (fun h => ?_)
      · refine ww_aload_n (pc := 42) hC dX12_item_42 0 rfl ?_
        refine ww_getR (pc := 43) hC 12 65 41 hL.1 RX12 (by decide) (by decide) rfl (lay_12_65 hL).1 qf_X12_209 rfl dX12_item_43 ?_
        refine ww_bipush (pc := 46) hC (v := (60 : Int32)) dX12_item_46 (by decide) ?_
        refine ww_iload_n (pc := 48) hC dX12_item_48 1 rfl ?_
        refine ww_imul (pc := 49) hC dX12_item_49 ?_
        refine ww_iload_n (pc := 50) hC dX12_item_50 2 rfl ?_
        refine ww_iadd (pc := 51) hC dX12_item_51 ?_
        refine ww_aload_n (pc := 52) hC dX12_item_52 0 rfl ?_
        refine ww_aload_n (pc := 53) hC dX12_item_53 0 rfl ?_
        refine ww_getR (pc := 54) hC 12 63 39 hL.1 RX12 (by decide) (by decide) rfl (lay_12_63 hL).1 qf_X12_203 rfl dX12_item_54 ?_
        refine ww_iload_n (pc := 57) hC dX12_item_57 1 rfl ?_
        refine ww_iald (pc := 58) hC ((lay_12_63 hL).2) h dX12_item_58 (fun h => ?_)
        refine ww_lload_n (pc := 59) hC dX12_item_59 3 rfl ?_
        obtain ⟨r6, h5, h⟩ := bnd_i h
        refine ww_callVl (pc := 60) hC [.int (X.1 39 (x1).toNatClampNeg), .long x3] hL.1.1 hL.1.2 (by decide) (ceX12_narrow hL h5) ql_X12_404 qi_X12_narrow qs_X12_X12_narrow qn_X12 qc_X12_narrow rfl ⟨by decide, by decide, rfl⟩ rfl ⟨Nat.le_of_ble_eq_true rfl, Nat.le_of_ble_eq_true rfl⟩ (by decide) (rest := [.int ((((60 : Int32)) * x1) + x2), .ref (w.1 41)]) (Nat.le_of_ble_eq_true rfl) dX12_item_60 ⟨Nat.le_of_ble_eq_true rfl, Nat.le_of_ble_eq_true rfl⟩ rfl ?_
        refine ww_last (pc := 63) hC ((lay_12_65 hL).2) h dX12_item_63 (fun h => ?_)
        obtain ⟨X_7, eX_7⟩ : ∃ q, q = wJ X 41 ((((60 : Int32)) * x1) + x2).toNatClampNeg r6 := ⟨_, rfl⟩
        replace h := nm_i h eX_7
        refine ww_nmX eX_7 ?_
        refine ww_iconst (pc := 64) hC (v := (1 : Int32)) dX12_item_64 (by decide) ?_
        exact ww_iret (pc := 65) hC hr h dX12_item_65
      · refine ww_bipush (pc := 39) hC (v := (-13 : Int32)) dX12_item_39 (by decide) ?_
        exact ww_iret (pc := 41) hC hr h dX12_item_41
    · refine ww_bipush (pc := 19) hC (v := (-11 : Int32)) dX12_item_19 (by decide) ?_
      exact ww_iret (pc := 21) hC hr h dX12_item_21
  · refine ww_iconst (pc := 8) hC (v := (-1 : Int32)) dX12_item_8 (by decide) ?_
    exact ww_iret (pc := 9) hC hr h dX12_item_9
noncomputable def fX12_read_34 (X : XD) : Option Int64 := some ((-9223372036854775808 : Int64))
noncomputable def fX12_read (x1 : Int32) (x2 : Int32) (X : XD) : Option Int64 := bnd (fX12_isTape x1 X) (fun r2 => if r2 = 0 then fX12_read_34 X else gin x1 6 (if (X.1 39 (x1).toNatClampNeg) < 0 then fX12_read_34 X else gin x1 6 (bnd (fX12_in x2 ((0 : Int32)) ((X.1 40 (x1).toNatClampNeg) - ((1 : Int32))) X) (fun r4 => if r4 = 0 then fX12_read_34 X else gin ((((60 : Int32)) * x1) + x2) 360 (some (X.2 41 ((((60 : Int32)) * x1) + x2).toNatClampNeg))))))
set_option maxHeartbeats 40000000 in
set_option maxRecDepth 100000 in
theorem ceX12_read {l : Launch} {E : XE} {w : XW} {z : Nat} {Z : XS} (hL : LayM Z) {x1 : Int32} {x2 : Int32} {X : XD} {r : Int64} (h : fX12_read x1 x2 X = some r) : Ct l E w yX12_read (wsM yX12_read cX12_read 3 (some .long)) (rmX 3 0 0) 0 0 [.ref (w.1 0), .int x1, .int x2] z z Z Z X X (some (.long r)) := by
  refine ct_of (by decide) (Nat.le_of_ble_eq_true rfl) ?_
  intro p e s m args below meth c hC hr hin hav
  have j34 : fX12_read_34 X = some r → WW p l e (rmX 3 0 0) s m args below meth c 3 (MQ below (XQ E w z Z X (some (.long r))) args s 0 0 (A0 E)) E w 0 0 z Z 34 [] [] X := by
    intro h
    unfold fX12_read_34 at h
    refine ww_ldc2 (pc := 34) hC (v := (-9223372036854775808 : Int64)) dX12_read_34 qg_X12_351 ?_
    refine ww_goto (pc := 37) hC 51 dX12_read_37 (by decide) ?_
    exact ww_lret (pc := 51) hC hr (ret_r h) dX12_read_51
  unfold fX12_read at h
  refine ww_lv (lv' := [(0, .ref (w.1 0)), (1, .int x1), (2, .int x2)]) rfl ?_
  refine ww_aload_n (pc := 0) hC dX12_read_0 0 rfl ?_
  refine ww_iload_n (pc := 1) hC dX12_read_1 1 rfl ?_
  obtain ⟨r2, h1, h⟩ := bnd_i h
  refine ww_callVi (pc := 2) hC [.int x1] hL.1.1 hL.1.2 (by decide) (ceX12_isTape hL h1) ql_X12_377 qi_X12_isTape qs_X12_X12_isTape qn_X12 qc_X12_isTape rfl ⟨by decide, by decide, rfl⟩ rfl ⟨Nat.le_of_ble_eq_true rfl, Nat.le_of_ble_eq_true rfl⟩ (by decide) (rest := []) (Nat.le_of_ble_eq_true rfl) dX12_read_2 ⟨Nat.le_of_ble_eq_true rfl, Nat.le_of_ble_eq_true rfl⟩ rfl ?_
  refine ww_if_eq (pc := 5) hC h 34 dX12_read_5 (by decide) (fun h => ?_) (fun h => ?_)
  · refine ww_sub [] rfl ?_
    exact j34 h
  · refine ww_aload_n (pc := 8) hC dX12_read_8 0 rfl ?_
    refine ww_getR (pc := 9) hC 12 63 39 hL.1 RX12 (by decide) (by decide) rfl (lay_12_63 hL).1 qf_X12_203 rfl dX12_read_9 ?_
    refine ww_iload_n (pc := 12) hC dX12_read_12 1 rfl ?_
    refine ww_iald (pc := 13) hC ((lay_12_63 hL).2) h dX12_read_13 (fun h => ?_)
    refine ww_if_lt (pc := 14) hC h 34 dX12_read_14 (by decide) (fun h => ?_) (fun h => ?_)
    · refine ww_sub [] rfl ?_
      exact j34 h
    · refine ww_aload_n (pc := 17) hC dX12_read_17 0 rfl ?_
      refine ww_iload_n (pc := 18) hC dX12_read_18 2 rfl ?_
      refine ww_iconst (pc := 19) hC (v := (0 : Int32)) dX12_read_19 (by decide) ?_
      refine ww_aload_n (pc := 20) hC dX12_read_20 0 rfl ?_
      refine ww_getR (pc := 21) hC 12 64 40 hL.1 RX12 (by decide) (by decide) rfl (lay_12_64 hL).1 qf_X12_206 rfl dX12_read_21 ?_
      refine ww_iload_n (pc := 24) hC dX12_read_24 1 rfl ?_
      refine ww_iald (pc := 25) hC ((lay_12_64 hL).2) h dX12_read_25 (fun h => ?_)
      refine ww_iconst (pc := 26) hC (v := (1 : Int32)) dX12_read_26 (by decide) ?_
      refine ww_isub (pc := 27) hC dX12_read_27 ?_
      obtain ⟨r4, h3, h⟩ := bnd_i h
      refine ww_callVi (pc := 28) hC [.int x2, .int ((0 : Int32)), .int ((X.1 40 (x1).toNatClampNeg) - ((1 : Int32)))] hL.1.1 hL.1.2 (by decide) (ceX12_in hL h3) ql_X12_215 qi_X12_in qs_X12_X12_in qn_X12 qc_X12_in rfl ⟨by decide, by decide, rfl⟩ rfl ⟨Nat.le_of_ble_eq_true rfl, Nat.le_of_ble_eq_true rfl⟩ (by decide) (rest := []) (Nat.le_of_ble_eq_true rfl) dX12_read_28 ⟨Nat.le_of_ble_eq_true rfl, Nat.le_of_ble_eq_true rfl⟩ rfl ?_
      refine ww_if_ne (pc := 31) hC h 40 dX12_read_31 (by decide) (fun h => ?_) (fun h => ?_)
      · refine ww_aload_n (pc := 40) hC dX12_read_40 0 rfl ?_
        refine ww_getR (pc := 41) hC 12 65 41 hL.1 RX12 (by decide) (by decide) rfl (lay_12_65 hL).1 qf_X12_209 rfl dX12_read_41 ?_
        refine ww_bipush (pc := 44) hC (v := (60 : Int32)) dX12_read_44 (by decide) ?_
        refine ww_iload_n (pc := 46) hC dX12_read_46 1 rfl ?_
        refine ww_imul (pc := 47) hC dX12_read_47 ?_
        refine ww_iload_n (pc := 48) hC dX12_read_48 2 rfl ?_
        refine ww_iadd (pc := 49) hC dX12_read_49 ?_
        refine ww_lald (pc := 50) hC ((lay_12_65 hL).2) h dX12_read_50 (fun h => ?_)
        exact ww_lret (pc := 51) hC hr (ret_r h) dX12_read_51
      · refine ww_sub [] rfl ?_
        exact j34 h
noncomputable def fX12_shift_141 (n : Nat) : Int32 → Int32 → Int32 → Int32 → XD → Option (Int32 × XD) := Nat.rec (motive := fun _ => Int32 → Int32 → Int32 → Int32 → XD → Option (Int32 × XD)) (fun _ _ _ _ _ => none) (fun _ f => fun x3 x4 x5 x6 X => if x5 ≤ x6 then some (x5, X) else gin x6 60 (gin (((((60 : Int32)) * x3) + x4) + x6) 360 (nm (wJ X 41 (((((60 : Int32)) * x3) + x4) + x6).toNatClampNeg (X.2 42 (x6).toNatClampNeg)) (fun X_7 => nm (x6 + (1 : Int32)) (fun y8 => f x3 x4 x5 y8 X_7))))) n
theorem fX12_shift_141_s (n : Nat) (x3 : Int32) (x4 : Int32) (x5 : Int32) (x6 : Int32) (X : XD) : fX12_shift_141 (n + 1) x3 x4 x5 x6 X = if x5 ≤ x6 then some (x5, X) else gin x6 60 (gin (((((60 : Int32)) * x3) + x4) + x6) 360 (nm (wJ X 41 (((((60 : Int32)) * x3) + x4) + x6).toNatClampNeg (X.2 42 (x6).toNatClampNeg)) (fun X_7 => nm (x6 + (1 : Int32)) (fun y8 => (fX12_shift_141 n) x3 x4 x5 y8 X_7)))) := rfl
noncomputable def fX12_shift_104 (n : Nat) : Int32 → Int32 → Int32 → Int32 → Int32 → Int32 → XD → Option (Int32 × XD) := Nat.rec (motive := fun _ => Int32 → Int32 → Int32 → Int32 → Int32 → Int32 → XD → Option (Int32 × XD)) (fun _ _ _ _ _ _ _ => none) (fun _ f => fun x1 x2 x3 x4 x5 x6 X => if x5 ≤ x6 then fX12_shift_141 FU x3 x4 x5 ((0 : Int32)) X else gin (((((60 : Int32)) * x1) + x2) + x6) 360 (gin x6 60 (nm (wJ X 42 (x6).toNatClampNeg (X.2 41 (((((60 : Int32)) * x1) + x2) + x6).toNatClampNeg)) (fun X_5 => nm (x6 + (1 : Int32)) (fun y6 => f x1 x2 x3 x4 x5 y6 X_5))))) n
theorem fX12_shift_104_s (n : Nat) (x1 : Int32) (x2 : Int32) (x3 : Int32) (x4 : Int32) (x5 : Int32) (x6 : Int32) (X : XD) : fX12_shift_104 (n + 1) x1 x2 x3 x4 x5 x6 X = if x5 ≤ x6 then fX12_shift_141 FU x3 x4 x5 ((0 : Int32)) X else gin (((((60 : Int32)) * x1) + x2) + x6) 360 (gin x6 60 (nm (wJ X 42 (x6).toNatClampNeg (X.2 41 (((((60 : Int32)) * x1) + x2) + x6).toNatClampNeg)) (fun X_5 => nm (x6 + (1 : Int32)) (fun y6 => (fX12_shift_104 n) x1 x2 x3 x4 x5 y6 X_5)))) := rfl
noncomputable def fX12_shift (x1 : Int32) (x2 : Int32) (x3 : Int32) (x4 : Int32) (x5 : Int32) (X : XD) : Option (Int32 × XD) := bnd (fX12_isTape x1 X) (fun r2 => if r2 = 0 then some ((-1 : Int32), X) else bnd (fX12_isTape x3 X) (fun r4 => if r4 = 0 then some ((-1 : Int32), X) else gin x1 6 (if (X.1 39 (x1).toNatClampNeg) < 0 then some ((-11 : Int32), X) else gin x3 6 (if 0 ≤ (X.1 39 (x3).toNatClampNeg) then gin x1 6 (gin x3 6 (if (X.1 39 (x1).toNatClampNeg) = (X.1 39 (x3).toNatClampNeg) then if x5 < 0 then some ((-13 : Int32), X) else if x2 < 0 then some ((-13 : Int32), X) else if x4 < 0 then some ((-13 : Int32), X) else gin x1 6 (if ((X.1 40 (x1).toNatClampNeg) - x5) < x2 then some ((-13 : Int32), X) else gin x3 6 (if x4 ≤ ((X.1 40 (x3).toNatClampNeg) - x5) then fX12_shift_104 FU x1 x2 x3 x4 x5 ((0 : Int32)) X else some ((-13 : Int32), X))) else some ((-12 : Int32), X))) else some ((-11 : Int32), X)))))
set_option maxHeartbeats 40000000 in
set_option maxRecDepth 100000 in
theorem ceX12_shift {l : Launch} {E : XE} {w : XW} {z : Nat} {Z : XS} (hL : LayM Z) {x1 : Int32} {x2 : Int32} {x3 : Int32} {x4 : Int32} {x5 : Int32} {X X1 : XD} {r : Int32} (h : fX12_shift x1 x2 x3 x4 x5 X = some (r, X1)) : Ct l E w yX12_shift (wsM yX12_shift cX12_shift 7 (some .int)) (rmX 3 0 0) 0 0 [.ref (w.1 0), .int x1, .int x2, .int x3, .int x4, .int x5] z z Z Z X X1 (some (.int r)) := by
  refine ct_of (by decide) (Nat.le_of_ble_eq_true rfl) ?_
  intro p e s m args below meth c hC hr hin hav
  have j141 : ∀ (n : Nat), ∀ (x3 : Int32) (x4 : Int32) (x5 : Int32) (x6 : Int32) (X : XD), fX12_shift_141 n x3 x4 x5 x6 X = some (r, X1) → WW p l e (rmX 3 0 0) s m args below meth c 7 (MQ below (XQ E w z Z X1 (some (.int r))) args s 0 0 (A0 E)) E w 0 0 z Z 141 [(0, .ref (w.1 0)), (3, .int x3), (4, .int x4), (5, .int x5), (6, .int x6)] [] X := by
    intro n
    induction n with
    | zero =>
      intro x3 x4 x5 x6 X h
      cases (show none = some (r, X1) from h)
    | succ n ih =>
      intro x3 x4 x5 x6 X h
      rw [fX12_shift_141_s] at h
      refine ww_iload (pc := 141) hC dX12_shift_141 4 rfl ?_
      refine ww_iload (pc := 143) hC dX12_shift_143 3 rfl ?_
      refine ww_icmp_ge (pc := 145) hC h 176 dX12_shift_145 (by decide) (fun h => ?_) (fun h => ?_)
      · refine ww_iload (pc := 176) hC dX12_shift_176 3 rfl ?_
        exact ww_iret (pc := 178) hC hr h dX12_shift_178
      · refine ww_aload_n (pc := 148) hC dX12_shift_148 0 rfl ?_
        refine ww_getR (pc := 149) hC 12 65 41 hL.1 RX12 (by decide) (by decide) rfl (lay_12_65 hL).1 qf_X12_209 rfl dX12_shift_149 ?_
        refine ww_bipush (pc := 152) hC (v := (60 : Int32)) dX12_shift_152 (by decide) ?_
        refine ww_iload_n (pc := 154) hC dX12_shift_154 1 rfl ?_
        refine ww_imul (pc := 155) hC dX12_shift_155 ?_
        refine ww_iload (pc := 156) hC dX12_shift_156 2 rfl ?_
        refine ww_iadd (pc := 158) hC dX12_shift_158 ?_
        refine ww_iload (pc := 159) hC dX12_shift_159 4 rfl ?_
        refine ww_iadd (pc := 161) hC dX12_shift_161 ?_
        refine ww_aload_n (pc := 162) hC dX12_shift_162 0 rfl ?_
        refine ww_getR (pc := 163) hC 12 66 42 hL.1 RX12 (by decide) (by decide) rfl (lay_12_66 hL).1 qf_X12_212 rfl dX12_shift_163 ?_
        refine ww_iload (pc := 166) hC dX12_shift_166 4 rfl ?_
        refine ww_lald (pc := 168) hC ((lay_12_66 hL).2) h dX12_shift_168 (fun h => ?_)
        refine ww_last (pc := 169) hC ((lay_12_65 hL).2) h dX12_shift_169 (fun h => ?_)
        obtain ⟨X_7, eX_7⟩ : ∃ q, q = wJ X 41 (((((60 : Int32)) * x3) + x4) + x6).toNatClampNeg (X.2 42 (x6).toNatClampNeg) := ⟨_, rfl⟩
        replace h := nm_i h eX_7
        refine ww_nmX eX_7 ?_
        obtain ⟨y8, ey8⟩ : ∃ q, q = x6 + (1 : Int32) := ⟨_, rfl⟩
        replace h := nm_i h ey8
        refine ww_iinc (pc := 170) hC y8 [(6, .int y8), (0, .ref (w.1 0)), (3, .int x3), (4, .int x4), (5, .int x5)] dX12_shift_170 4 rfl (by rw [ey8]; rfl) (by decide) rfl ?_
        refine ww_goto (pc := 173) hC 141 dX12_shift_173 (by decide) ?_
        refine ww_sub [1, 2, 3, 4, 0] rfl ?_
        exact ih _ _ _ _ _ h
  have j104 : ∀ (n : Nat), ∀ (x1 : Int32) (x2 : Int32) (x3 : Int32) (x4 : Int32) (x5 : Int32) (x6 : Int32) (X : XD), fX12_shift_104 n x1 x2 x3 x4 x5 x6 X = some (r, X1) → WW p l e (rmX 3 0 0) s m args below meth c 7 (MQ below (XQ E w z Z X1 (some (.int r))) args s 0 0 (A0 E)) E w 0 0 z Z 104 [(0, .ref (w.1 0)), (1, .int x1), (2, .int x2), (3, .int x3), (4, .int x4), (5, .int x5), (6, .int x6)] [] X := by
    intro n
    induction n with
    | zero =>
      intro x1 x2 x3 x4 x5 x6 X h
      cases (show none = some (r, X1) from h)
    | succ n ih =>
      intro x1 x2 x3 x4 x5 x6 X h
      rw [fX12_shift_104_s] at h
      refine ww_iload (pc := 104) hC dX12_shift_104 6 rfl ?_
      refine ww_iload (pc := 106) hC dX12_shift_106 5 rfl ?_
      refine ww_icmp_ge (pc := 108) hC h 138 dX12_shift_108 (by decide) (fun h => ?_) (fun h => ?_)
      · refine ww_iconst (pc := 138) hC (v := (0 : Int32)) dX12_shift_138 (by decide) ?_
        refine ww_istore (pc := 139) hC [(6, .int ((0 : Int32))), (0, .ref (w.1 0)), (1, .int x1), (2, .int x2), (3, .int x3), (4, .int x4), (5, .int x5)] dX12_shift_139  (by decide) rfl ?_
        refine ww_sub [1, 4, 5, 6, 0] rfl ?_
        exact j141 _ _ _ _ _ _ h
      · refine ww_aload_n (pc := 111) hC dX12_shift_111 0 rfl ?_
        refine ww_getR (pc := 112) hC 12 66 42 hL.1 RX12 (by decide) (by decide) rfl (lay_12_66 hL).1 qf_X12_212 rfl dX12_shift_112 ?_
        refine ww_iload (pc := 115) hC dX12_shift_115 6 rfl ?_
        refine ww_aload_n (pc := 117) hC dX12_shift_117 0 rfl ?_
        refine ww_getR (pc := 118) hC 12 65 41 hL.1 RX12 (by decide) (by decide) rfl (lay_12_65 hL).1 qf_X12_209 rfl dX12_shift_118 ?_
        refine ww_bipush (pc := 121) hC (v := (60 : Int32)) dX12_shift_121 (by decide) ?_
        refine ww_iload_n (pc := 123) hC dX12_shift_123 1 rfl ?_
        refine ww_imul (pc := 124) hC dX12_shift_124 ?_
        refine ww_iload_n (pc := 125) hC dX12_shift_125 2 rfl ?_
        refine ww_iadd (pc := 126) hC dX12_shift_126 ?_
        refine ww_iload (pc := 127) hC dX12_shift_127 6 rfl ?_
        refine ww_iadd (pc := 129) hC dX12_shift_129 ?_
        refine ww_lald (pc := 130) hC ((lay_12_65 hL).2) h dX12_shift_130 (fun h => ?_)
        refine ww_last (pc := 131) hC ((lay_12_66 hL).2) h dX12_shift_131 (fun h => ?_)
        obtain ⟨X_5, eX_5⟩ : ∃ q, q = wJ X 42 (x6).toNatClampNeg (X.2 41 (((((60 : Int32)) * x1) + x2) + x6).toNatClampNeg) := ⟨_, rfl⟩
        replace h := nm_i h eX_5
        refine ww_nmX eX_5 ?_
        obtain ⟨y6, ey6⟩ : ∃ q, q = x6 + (1 : Int32) := ⟨_, rfl⟩
        replace h := nm_i h ey6
        refine ww_iinc (pc := 132) hC y6 [(6, .int y6), (0, .ref (w.1 0)), (1, .int x1), (2, .int x2), (3, .int x3), (4, .int x4), (5, .int x5)] dX12_shift_132 6 rfl (by rw [ey6]; rfl) (by decide) rfl ?_
        refine ww_goto (pc := 135) hC 104 dX12_shift_135 (by decide) ?_
        refine ww_sub [1, 2, 3, 4, 5, 6, 0] rfl ?_
        exact ih _ _ _ _ _ _ _ h
  unfold fX12_shift at h
  refine ww_lv (lv' := [(0, .ref (w.1 0)), (1, .int x1), (2, .int x2), (3, .int x3), (4, .int x4), (5, .int x5)]) rfl ?_
  refine ww_aload_n (pc := 0) hC dX12_shift_0 0 rfl ?_
  refine ww_iload_n (pc := 1) hC dX12_shift_1 1 rfl ?_
  obtain ⟨r2, h1, h⟩ := bnd_i h
  refine ww_callVi (pc := 2) hC [.int x1] hL.1.1 hL.1.2 (by decide) (ceX12_isTape hL h1) ql_X12_377 qi_X12_isTape qs_X12_X12_isTape qn_X12 qc_X12_isTape rfl ⟨by decide, by decide, rfl⟩ rfl ⟨Nat.le_of_ble_eq_true rfl, Nat.le_of_ble_eq_true rfl⟩ (by decide) (rest := []) (Nat.le_of_ble_eq_true rfl) dX12_shift_2 ⟨Nat.le_of_ble_eq_true rfl, Nat.le_of_ble_eq_true rfl⟩ rfl ?_
  refine ww_if_eq (pc := 5) hC h 16 dX12_shift_5 (by decide) (fun h => ?_) (fun h => ?_)
  · refine ww_iconst (pc := 16) hC (v := (-1 : Int32)) dX12_shift_16 (by decide) ?_
    exact ww_iret (pc := 17) hC hr h dX12_shift_17
  · refine ww_aload_n (pc := 8) hC dX12_shift_8 0 rfl ?_
    refine ww_iload_n (pc := 9) hC dX12_shift_9 3 rfl ?_
    obtain ⟨r4, h3, h⟩ := bnd_i h
    refine ww_callVi (pc := 10) hC [.int x3] hL.1.1 hL.1.2 (by decide) (ceX12_isTape hL h3) ql_X12_377 qi_X12_isTape qs_X12_X12_isTape qn_X12 qc_X12_isTape rfl ⟨by decide, by decide, rfl⟩ rfl ⟨Nat.le_of_ble_eq_true rfl, Nat.le_of_ble_eq_true rfl⟩ (by decide) (rest := []) (Nat.le_of_ble_eq_true rfl) dX12_shift_10 ⟨Nat.le_of_ble_eq_true rfl, Nat.le_of_ble_eq_true rfl⟩ rfl ?_
    refine ww_if_ne (pc := 13) hC h 18 dX12_shift_13 (by decide) (fun h => ?_) (fun h => ?_)
    · refine ww_aload_n (pc := 18) hC dX12_shift_18 0 rfl ?_
      refine ww_getR (pc := 19) hC 12 63 39 hL.1 RX12 (by decide) (by decide) rfl (lay_12_63 hL).1 qf_X12_203 rfl dX12_shift_19 ?_
      refine ww_iload_n (pc := 22) hC dX12_shift_22 1 rfl ?_
      refine ww_iald (pc := 23) hC ((lay_12_63 hL).2) h dX12_shift_23 (fun h => ?_)
      refine ww_if_lt (pc := 24) hC h 36 dX12_shift_24 (by decide) (fun h => ?_) (fun h => ?_)
      · refine ww_bipush (pc := 36) hC (v := (-11 : Int32)) dX12_shift_36 (by decide) ?_
        exact ww_iret (pc := 38) hC hr h dX12_shift_38
      · refine ww_aload_n (pc := 27) hC dX12_shift_27 0 rfl ?_
        refine ww_getR (pc := 28) hC 12 63 39 hL.1 RX12 (by decide) (by decide) rfl (lay_12_63 hL).1 qf_X12_203 rfl dX12_shift_28 ?_
        refine ww_iload_n (pc := 31) hC dX12_shift_31 3 rfl ?_
        refine ww_iald (pc := 32) hC ((lay_12_63 hL).2) h dX12_shift_32 (fun h => ?_)
        refine ww_if_ge (pc := 33) hC h 39 dX12_shift_33 (by decide) (fun h => ?_) (fun h => ?_)
        · refine ww_aload_n (pc := 39) hC dX12_shift_39 0 rfl ?_
          refine ww_getR (pc := 40) hC 12 63 39 hL.1 RX12 (by decide) (by decide) rfl (lay_12_63 hL).1 qf_X12_203 rfl dX12_shift_40 ?_
          refine ww_iload_n (pc := 43) hC dX12_shift_43 1 rfl ?_
          refine ww_iald (pc := 44) hC ((lay_12_63 hL).2) h dX12_shift_44 (fun h => ?_)
          refine ww_aload_n (pc := 45) hC dX12_shift_45 0 rfl ?_
          refine ww_getR (pc := 46) hC 12 63 39 hL.1 RX12 (by decide) (by decide) rfl (lay_12_63 hL).1 qf_X12_203 rfl dX12_shift_46 ?_
          refine ww_iload_n (pc := 49) hC dX12_shift_49 3 rfl ?_
          refine ww_iald (pc := 50) hC ((lay_12_63 hL).2) h dX12_shift_50 (fun h => ?_)
          refine ww_icmp_eq (pc := 51) hC h 57 dX12_shift_51 (by decide) (fun h => ?_) (fun h => ?_)
          · refine ww_iload (pc := 57) hC dX12_shift_57 5 rfl ?_
            refine ww_if_lt (pc := 59) hC h 98 dX12_shift_59 (by decide) (fun h => ?_) (fun h => ?_)
            · refine ww_bipush (pc := 98) hC (v := (-13 : Int32)) dX12_shift_98 (by decide) ?_
              exact ww_iret (pc := 100) hC hr h dX12_shift_100
            · refine ww_iload_n (pc := 62) hC dX12_shift_62 2 rfl ?_
              refine ww_if_lt (pc := 63) hC h 98 dX12_shift_63 (by decide) (fun h => ?_) (fun h => ?_)
              · refine ww_bipush (pc := 98) hC (v := (-13 : Int32)) dX12_shift_98 (by decide) ?_
                exact ww_iret (pc := 100) hC hr h dX12_shift_100
              · refine ww_iload (pc := 66) hC dX12_shift_66 4 rfl ?_
                refine ww_if_lt (pc := 68) hC h 98 dX12_shift_68 (by decide) (fun h => ?_) (fun h => ?_)
                · refine ww_bipush (pc := 98) hC (v := (-13 : Int32)) dX12_shift_98 (by decide) ?_
                  exact ww_iret (pc := 100) hC hr h dX12_shift_100
                · refine ww_iload_n (pc := 71) hC dX12_shift_71 2 rfl ?_
                  refine ww_aload_n (pc := 72) hC dX12_shift_72 0 rfl ?_
                  refine ww_getR (pc := 73) hC 12 64 40 hL.1 RX12 (by decide) (by decide) rfl (lay_12_64 hL).1 qf_X12_206 rfl dX12_shift_73 ?_
                  refine ww_iload_n (pc := 76) hC dX12_shift_76 1 rfl ?_
                  refine ww_iald (pc := 77) hC ((lay_12_64 hL).2) h dX12_shift_77 (fun h => ?_)
                  refine ww_iload (pc := 78) hC dX12_shift_78 5 rfl ?_
                  refine ww_isub (pc := 80) hC dX12_shift_80 ?_
                  refine ww_icmp_gt (pc := 81) hC h 98 dX12_shift_81 (by decide) (fun h => ?_) (fun h => ?_)
                  · refine ww_bipush (pc := 98) hC (v := (-13 : Int32)) dX12_shift_98 (by decide) ?_
                    exact ww_iret (pc := 100) hC hr h dX12_shift_100
                  · refine ww_iload (pc := 84) hC dX12_shift_84 4 rfl ?_
                    refine ww_aload_n (pc := 86) hC dX12_shift_86 0 rfl ?_
                    refine ww_getR (pc := 87) hC 12 64 40 hL.1 RX12 (by decide) (by decide) rfl (lay_12_64 hL).1 qf_X12_206 rfl dX12_shift_87 ?_
                    refine ww_iload_n (pc := 90) hC dX12_shift_90 3 rfl ?_
                    refine ww_iald (pc := 91) hC ((lay_12_64 hL).2) h dX12_shift_91 (fun h => ?_)
                    refine ww_iload (pc := 92) hC dX12_shift_92 5 rfl ?_
                    refine ww_isub (pc := 94) hC dX12_shift_94 ?_
                    refine ww_icmp_le (pc := 95) hC h 101 dX12_shift_95 (by decide) (fun h => ?_) (fun h => ?_)
                    · refine ww_iconst (pc := 101) hC (v := (0 : Int32)) dX12_shift_101 (by decide) ?_
                      refine ww_istore (pc := 102) hC [(6, .int ((0 : Int32))), (0, .ref (w.1 0)), (1, .int x1), (2, .int x2), (3, .int x3), (4, .int x4), (5, .int x5)] dX12_shift_102  (by decide) rfl ?_
                      refine ww_sub [1, 2, 3, 4, 5, 6, 0] rfl ?_
                      exact j104 _ _ _ _ _ _ _ _ h
                    · refine ww_bipush (pc := 98) hC (v := (-13 : Int32)) dX12_shift_98 (by decide) ?_
                      exact ww_iret (pc := 100) hC hr h dX12_shift_100
          · refine ww_bipush (pc := 54) hC (v := (-12 : Int32)) dX12_shift_54 (by decide) ?_
            exact ww_iret (pc := 56) hC hr h dX12_shift_56
        · refine ww_bipush (pc := 36) hC (v := (-11 : Int32)) dX12_shift_36 (by decide) ?_
          exact ww_iret (pc := 38) hC hr h dX12_shift_38
    · refine ww_iconst (pc := 16) hC (v := (-1 : Int32)) dX12_shift_16 (by decide) ?_
      exact ww_iret (pc := 17) hC hr h dX12_shift_17
