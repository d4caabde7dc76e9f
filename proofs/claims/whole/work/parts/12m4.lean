noncomputable def fX12_worth (x1 : Int32) (X : XD) : Option (Int32 × XD) := bnd (fX12_isShooter x1 X) (fun r2 => if r2 = 0 then some ((-1001 : Int32), X) else bnw (fX12_aim x1 X) (fun r4 X_5 => bnw (fX12_chanceOf x1 r4 ((1 : Int32)) X_5) (fun r7 X_8 => bnw (fX12_chanceNow x1 X_8) (fun r10 X_11 => some (r7 - r10, X_11)))))
set_option maxHeartbeats 40000000 in
set_option maxRecDepth 100000 in
theorem ceX12_worth {l : Launch} {E : XE} {w : XW} {z : Nat} {Z : XS} (hL : LayM Z) {x1 : Int32} {X X1 : XD} {r : Int32} (h : fX12_worth x1 X = some (r, X1)) : Ct l E w yX12_worth (wsM yX12_worth cX12_worth 2 (some .int)) (rmX 8 0 0) 0 0 [.ref (w.1 0), .int x1] z z Z Z X X1 (some (.int r)) := by
  refine ct_of (by decide) (Nat.le_of_ble_eq_true rfl) ?_
  intro p e s m args below meth c hC hr hin hav
  unfold fX12_worth at h
  refine ww_lv (lv' := [(0, .ref (w.1 0)), (1, .int x1)]) rfl ?_
  refine ww_aload_n (pc := 0) hC dX12_worth_0 0 rfl ?_
  refine ww_iload_n (pc := 1) hC dX12_worth_1 1 rfl ?_
  obtain ⟨r2, h1, h⟩ := bnd_i h
  refine ww_callVi (pc := 2) hC [.int x1] hL.1.1 hL.1.2 (by decide) (ceX12_isShooter hL h1) ql_X12_219 qi_X12_isShooter qs_X12_X12_isShooter qn_X12 qc_X12_isShooter rfl ⟨by decide, by decide, rfl⟩ rfl ⟨Nat.le_of_ble_eq_true rfl, Nat.le_of_ble_eq_true rfl⟩ (by decide) (rest := []) (Nat.le_of_ble_eq_true rfl) dX12_worth_2 ⟨Nat.le_of_ble_eq_true rfl, Nat.le_of_ble_eq_true rfl⟩ rfl ?_
  refine ww_if_eq (pc := 5) hC h 28 dX12_worth_5 (by decide) (fun h => ?_) (fun h => ?_)
  · refine ww_sipush (pc := 28) hC (v := (-1001 : Int32)) dX12_worth_28 (by decide) ?_
    exact ww_iret (pc := 31) hC hr h dX12_worth_31
  · refine ww_aload_n (pc := 8) hC dX12_worth_8 0 rfl ?_
    refine ww_iload_n (pc := 9) hC dX12_worth_9 1 rfl ?_
    refine ww_aload_n (pc := 10) hC dX12_worth_10 0 rfl ?_
    refine ww_iload_n (pc := 11) hC dX12_worth_11 1 rfl ?_
    obtain ⟨r4, X_5, h3, h⟩ := bnw_i h
    refine ww_callVi (pc := 12) hC [.int x1] hL.1.1 hL.1.2 (by decide) (ceX12_aim hL h3) ql_X12_314 qi_X12_aim qs_X12_X12_aim qn_X12 qc_X12_aim rfl ⟨by decide, by decide, rfl⟩ rfl ⟨Nat.le_of_ble_eq_true rfl, Nat.le_of_ble_eq_true rfl⟩ (by decide) (rest := [.int x1, .ref (w.1 0)]) (Nat.le_of_ble_eq_true rfl) dX12_worth_12 ⟨Nat.le_of_ble_eq_true rfl, Nat.le_of_ble_eq_true rfl⟩ rfl ?_
    refine ww_iconst (pc := 15) hC (v := (1 : Int32)) dX12_worth_15 (by decide) ?_
    obtain ⟨r7, X_8, h6, h⟩ := bnw_i h
    refine ww_callVi (pc := 16) hC [.int x1, .int r4, .int ((1 : Int32))] hL.1.1 hL.1.2 (by decide) (ceX12_chanceOf hL h6) ql_X12_317 qi_X12_chanceOf qs_X12_X12_chanceOf qn_X12 qc_X12_chanceOf rfl ⟨by decide, by decide, rfl⟩ rfl ⟨Nat.le_of_ble_eq_true rfl, Nat.le_of_ble_eq_true rfl⟩ (by decide) (rest := []) (Nat.le_of_ble_eq_true rfl) dX12_worth_16 ⟨Nat.le_of_ble_eq_true rfl, Nat.le_of_ble_eq_true rfl⟩ rfl ?_
    refine ww_aload_n (pc := 19) hC dX12_worth_19 0 rfl ?_
    refine ww_iload_n (pc := 20) hC dX12_worth_20 1 rfl ?_
    obtain ⟨r10, X_11, h9, h⟩ := bnw_i h
    refine ww_callVi (pc := 21) hC [.int x1] hL.1.1 hL.1.2 (by decide) (ceX12_chanceNow hL h9) ql_X12_323 qi_X12_chanceNow qs_X12_X12_chanceNow qn_X12 qc_X12_chanceNow rfl ⟨by decide, by decide, rfl⟩ rfl ⟨Nat.le_of_ble_eq_true rfl, Nat.le_of_ble_eq_true rfl⟩ (by decide) (rest := [.int r7]) (Nat.le_of_ble_eq_true rfl) dX12_worth_21 ⟨Nat.le_of_ble_eq_true rfl, Nat.le_of_ble_eq_true rfl⟩ rfl ?_
    refine ww_isub (pc := 24) hC dX12_worth_24 ?_
    refine ww_goto (pc := 25) hC 31 dX12_worth_25 (by decide) ?_
    exact ww_iret (pc := 31) hC hr h dX12_worth_31
noncomputable def fX12_stop (x1 : Int32) (X : XD) : Option (Int32 × XD) := bnd (fX12_isShooter x1 X) (fun r2 => if r2 = 0 then some ((-1001 : Int32), X) else bnw (fX12_waits x1 X) (fun r4 X_5 => bnw (fX12_note x1 X_5) (fun r7 X_8 => bnw (fX12_chanceOf x1 r4 r7 X_8) (fun r10 X_11 => bnw (fX12_chanceNow x1 X_11) (fun r13 X_14 => some (r10 - r13, X_14))))))
set_option maxHeartbeats 40000000 in
set_option maxRecDepth 100000 in
theorem ceX12_stop {l : Launch} {E : XE} {w : XW} {z : Nat} {Z : XS} (hL : LayM Z) {x1 : Int32} {X X1 : XD} {r : Int32} (h : fX12_stop x1 X = some (r, X1)) : Ct l E w yX12_stop (wsM yX12_stop cX12_stop 2 (some .int)) (rmX 8 0 0) 0 0 [.ref (w.1 0), .int x1] z z Z Z X X1 (some (.int r)) := by
  refine ct_of (by decide) (Nat.le_of_ble_eq_true rfl) ?_
  intro p e s m args below meth c hC hr hin hav
  unfold fX12_stop at h
  refine ww_lv (lv' := [(0, .ref (w.1 0)), (1, .int x1)]) rfl ?_
  refine ww_aload_n (pc := 0) hC dX12_stop_0 0 rfl ?_
  refine ww_iload_n (pc := 1) hC dX12_stop_1 1 rfl ?_
  obtain ⟨r2, h1, h⟩ := bnd_i h
  refine ww_callVi (pc := 2) hC [.int x1] hL.1.1 hL.1.2 (by decide) (ceX12_isShooter hL h1) ql_X12_219 qi_X12_isShooter qs_X12_X12_isShooter qn_X12 qc_X12_isShooter rfl ⟨by decide, by decide, rfl⟩ rfl ⟨Nat.le_of_ble_eq_true rfl, Nat.le_of_ble_eq_true rfl⟩ (by decide) (rest := []) (Nat.le_of_ble_eq_true rfl) dX12_stop_2 ⟨Nat.le_of_ble_eq_true rfl, Nat.le_of_ble_eq_true rfl⟩ rfl ?_
  refine ww_if_eq (pc := 5) hC h 32 dX12_stop_5 (by decide) (fun h => ?_) (fun h => ?_)
  · refine ww_sipush (pc := 32) hC (v := (-1001 : Int32)) dX12_stop_32 (by decide) ?_
    exact ww_iret (pc := 35) hC hr h dX12_stop_35
  · refine ww_aload_n (pc := 8) hC dX12_stop_8 0 rfl ?_
    refine ww_iload_n (pc := 9) hC dX12_stop_9 1 rfl ?_
    refine ww_aload_n (pc := 10) hC dX12_stop_10 0 rfl ?_
    refine ww_iload_n (pc := 11) hC dX12_stop_11 1 rfl ?_
    obtain ⟨r4, X_5, h3, h⟩ := bnw_i h
    refine ww_callVi (pc := 12) hC [.int x1] hL.1.1 hL.1.2 (by decide) (ceX12_waits hL h3) ql_X12_309 qi_X12_waits qs_X12_X12_waits qn_X12 qc_X12_waits rfl ⟨by decide, by decide, rfl⟩ rfl ⟨Nat.le_of_ble_eq_true rfl, Nat.le_of_ble_eq_true rfl⟩ (by decide) (rest := [.int x1, .ref (w.1 0)]) (Nat.le_of_ble_eq_true rfl) dX12_stop_12 ⟨Nat.le_of_ble_eq_true rfl, Nat.le_of_ble_eq_true rfl⟩ rfl ?_
    refine ww_aload_n (pc := 15) hC dX12_stop_15 0 rfl ?_
    refine ww_iload_n (pc := 16) hC dX12_stop_16 1 rfl ?_
    obtain ⟨r7, X_8, h6, h⟩ := bnw_i h
    refine ww_callVi (pc := 17) hC [.int x1] hL.1.1 hL.1.2 (by decide) (ceX12_note hL h6) ql_X12_296 qi_X12_note qs_X12_X12_note qn_X12 qc_X12_note rfl ⟨by decide, by decide, rfl⟩ rfl ⟨Nat.le_of_ble_eq_true rfl, Nat.le_of_ble_eq_true rfl⟩ (by decide) (rest := [.int r4, .int x1, .ref (w.1 0)]) (Nat.le_of_ble_eq_true rfl) dX12_stop_17 ⟨Nat.le_of_ble_eq_true rfl, Nat.le_of_ble_eq_true rfl⟩ rfl ?_
    obtain ⟨r10, X_11, h9, h⟩ := bnw_i h
    refine ww_callVi (pc := 20) hC [.int x1, .int r4, .int r7] hL.1.1 hL.1.2 (by decide) (ceX12_chanceOf hL h9) ql_X12_317 qi_X12_chanceOf qs_X12_X12_chanceOf qn_X12 qc_X12_chanceOf rfl ⟨by decide, by decide, rfl⟩ rfl ⟨Nat.le_of_ble_eq_true rfl, Nat.le_of_ble_eq_true rfl⟩ (by decide) (rest := []) (Nat.le_of_ble_eq_true rfl) dX12_stop_20 ⟨Nat.le_of_ble_eq_true rfl, Nat.le_of_ble_eq_true rfl⟩ rfl ?_
    refine ww_aload_n (pc := 23) hC dX12_stop_23 0 rfl ?_
    refine ww_iload_n (pc := 24) hC dX12_stop_24 1 rfl ?_
    obtain ⟨r13, X_14, h12, h⟩ := bnw_i h
    refine ww_callVi (pc := 25) hC [.int x1] hL.1.1 hL.1.2 (by decide) (ceX12_chanceNow hL h12) ql_X12_323 qi_X12_chanceNow qs_X12_X12_chanceNow qn_X12 qc_X12_chanceNow rfl ⟨by decide, by decide, rfl⟩ rfl ⟨Nat.le_of_ble_eq_true rfl, Nat.le_of_ble_eq_true rfl⟩ (by decide) (rest := [.int r10]) (Nat.le_of_ble_eq_true rfl) dX12_stop_25 ⟨Nat.le_of_ble_eq_true rfl, Nat.le_of_ble_eq_true rfl⟩ rfl ?_
    refine ww_isub (pc := 28) hC dX12_stop_28 ?_
    refine ww_goto (pc := 29) hC 35 dX12_stop_29 (by decide) ?_
    exact ww_iret (pc := 35) hC hr h dX12_stop_35
noncomputable def fX12_forget_75 (k36 : Int32 → Int32 → Int32 → Int32 → Int32 → Int32 → XD → Option (Int32 × XD)) (x1 : Int32) (x2 : Int32) (x3 : Int32) (x4 : Int32) (x5 : Int32) (x6 : Int32) (X : XD) : Option (Int32 × XD) := nm (x6 + (1 : Int32)) (fun y11 => k36 x1 x2 x3 x4 x5 y11 X)
noncomputable def fX12_forget_36 (n : Nat) : Int32 → Int32 → Int32 → Int32 → Int32 → Int32 → XD → Option (Int32 × XD) := Nat.rec (motive := fun _ => Int32 → Int32 → Int32 → Int32 → Int32 → Int32 → XD → Option (Int32 × XD)) (fun _ _ _ _ _ _ _ => none) (fun _ f => fun x1 x2 x3 x4 x5 x6 X => if ((4 : Int32)) ≤ x6 then gin x1 6 (nm (wI X 3 (x1).toNatClampNeg x3) (fun X_6 => if x2 = 0 then some (x4, X_6) else some (x5, X_6))) else gin x1 6 (nm (wI X 3 (x1).toNatClampNeg x6) (fun X_7 => bnw (fX12_chanceNow x1 X_7) (fun r9 X_10 => if x5 < r9 then fX12_forget_75 (f) x1 x2 x3 x6 r9 x6 X_10 else fX12_forget_75 (f) x1 x2 x3 x4 x5 x6 X_10)))) n
theorem fX12_forget_36_s (n : Nat) (x1 : Int32) (x2 : Int32) (x3 : Int32) (x4 : Int32) (x5 : Int32) (x6 : Int32) (X : XD) : fX12_forget_36 (n + 1) x1 x2 x3 x4 x5 x6 X = if ((4 : Int32)) ≤ x6 then gin x1 6 (nm (wI X 3 (x1).toNatClampNeg x3) (fun X_6 => if x2 = 0 then some (x4, X_6) else some (x5, X_6))) else gin x1 6 (nm (wI X 3 (x1).toNatClampNeg x6) (fun X_7 => bnw (fX12_chanceNow x1 X_7) (fun r9 X_10 => if x5 < r9 then fX12_forget_75 ((fX12_forget_36 n)) x1 x2 x3 x6 r9 x6 X_10 else fX12_forget_75 ((fX12_forget_36 n)) x1 x2 x3 x4 x5 x6 X_10))) := rfl
noncomputable def fX12_forget (x1 : Int32) (x2 : Int32) (X : XD) : Option (Int32 × XD) := bnd (fX12_isShooter x1 X) (fun r2 => if r2 = 0 then some ((-1 : Int32), X) else bnd (fX12_in x2 ((0 : Int32)) ((1 : Int32)) X) (fun r4 => if r4 = 0 then some ((-1 : Int32), X) else gin x1 6 (nm (X.1 3 (x1).toNatClampNeg) (fun y5 => fX12_forget_36 FU x1 x2 y5 ((0 : Int32)) ((-1 : Int32)) ((0 : Int32)) X))))
set_option maxHeartbeats 40000000 in
set_option maxRecDepth 100000 in
theorem ceX12_forget {l : Launch} {E : XE} {w : XW} {z : Nat} {Z : XS} (hL : LayM Z) {x1 : Int32} {x2 : Int32} {X X1 : XD} {r : Int32} (h : fX12_forget x1 x2 X = some (r, X1)) : Ct l E w yX12_forget (wsM yX12_forget cX12_forget 8 (some .int)) (rmX 8 0 0) 0 0 [.ref (w.1 0), .int x1, .int x2] z z Z Z X X1 (some (.int r)) := by
  refine ct_of (by decide) (Nat.le_of_ble_eq_true rfl) ?_
  intro p e s m args below meth c hC hr hin hav
  have j75 : ∀ (k36 : Int32 → Int32 → Int32 → Int32 → Int32 → Int32 → XD → Option (Int32 × XD)) (hk36 : ∀ (x1 : Int32) (x2 : Int32) (x3 : Int32) (x4 : Int32) (x5 : Int32) (x6 : Int32) (X : XD), k36 x1 x2 x3 x4 x5 x6 X = some (r, X1) → WW p l e (rmX 8 0 0) s m args below meth c 8 (MQ below (XQ E w z Z X1 (some (.int r))) args s 0 0 (A0 E)) E w 0 0 z Z 36 [(0, .ref (w.1 0)), (1, .int x1), (2, .int x2), (3, .int x3), (4, .int x4), (5, .int x5), (6, .int x6)] [] X), ∀ (x1 : Int32) (x2 : Int32) (x3 : Int32) (x4 : Int32) (x5 : Int32) (x6 : Int32) (X : XD), fX12_forget_75 k36 x1 x2 x3 x4 x5 x6 X = some (r, X1) → WW p l e (rmX 8 0 0) s m args below meth c 8 (MQ below (XQ E w z Z X1 (some (.int r))) args s 0 0 (A0 E)) E w 0 0 z Z 75 [(0, .ref (w.1 0)), (1, .int x1), (2, .int x2), (3, .int x3), (4, .int x4), (5, .int x5), (6, .int x6)] [] X := by
    intro k36 hk36 x1 x2 x3 x4 x5 x6 X h
    unfold fX12_forget_75 at h
    obtain ⟨y11, ey11⟩ : ∃ q, q = x6 + (1 : Int32) := ⟨_, rfl⟩
    replace h := nm_i h ey11
    refine ww_iinc (pc := 75) hC y11 [(6, .int y11), (0, .ref (w.1 0)), (1, .int x1), (2, .int x2), (3, .int x3), (4, .int x4), (5, .int x5)] dX12_forget_75 6 rfl (by rw [ey11]; rfl) (by decide) rfl ?_
    refine ww_goto (pc := 78) hC 36 dX12_forget_78 (by decide) ?_
    refine ww_sub [1, 2, 3, 4, 5, 6, 0] rfl ?_
    exact hk36 _ _ _ _ _ _ _ h
  have j36 : ∀ (n : Nat), ∀ (x1 : Int32) (x2 : Int32) (x3 : Int32) (x4 : Int32) (x5 : Int32) (x6 : Int32) (X : XD), fX12_forget_36 n x1 x2 x3 x4 x5 x6 X = some (r, X1) → WW p l e (rmX 8 0 0) s m args below meth c 8 (MQ below (XQ E w z Z X1 (some (.int r))) args s 0 0 (A0 E)) E w 0 0 z Z 36 [(0, .ref (w.1 0)), (1, .int x1), (2, .int x2), (3, .int x3), (4, .int x4), (5, .int x5), (6, .int x6)] [] X := by
    intro n
    induction n with
    | zero =>
      intro x1 x2 x3 x4 x5 x6 X h
      cases (show none = some (r, X1) from h)
    | succ n ih =>
      intro x1 x2 x3 x4 x5 x6 X h
      rw [fX12_forget_36_s] at h
      refine ww_iload (pc := 36) hC dX12_forget_36 6 rfl ?_
      refine ww_iconst (pc := 38) hC (v := (4 : Int32)) dX12_forget_38 (by decide) ?_
      refine ww_icmp_ge (pc := 39) hC h 81 dX12_forget_39 (by decide) (fun h => ?_) (fun h => ?_)
      · refine ww_aload_n (pc := 81) hC dX12_forget_81 0 rfl ?_
        refine ww_getR (pc := 82) hC 12 5 3 hL.1 RX12 (by decide) (by decide) rfl (lay_12_5 hL).1 qf_X12_26 rfl dX12_forget_82 ?_
        refine ww_iload_n (pc := 85) hC dX12_forget_85 1 rfl ?_
        refine ww_iload_n (pc := 86) hC dX12_forget_86 3 rfl ?_
        refine ww_iast (pc := 87) hC ((lay_12_5 hL).2) h dX12_forget_87 (fun h => ?_)
        obtain ⟨X_6, eX_6⟩ : ∃ q, q = wI X 3 (x1).toNatClampNeg x3 := ⟨_, rfl⟩
        replace h := nm_i h eX_6
        refine ww_nmX eX_6 ?_
        refine ww_iload_n (pc := 88) hC dX12_forget_88 2 rfl ?_
        refine ww_if_ne (pc := 89) hC h 97 dX12_forget_89 (by decide) (fun h => ?_) (fun h => ?_)
        · refine ww_iload (pc := 97) hC dX12_forget_97 5 rfl ?_
          exact ww_iret (pc := 99) hC hr h dX12_forget_99
        · refine ww_iload (pc := 92) hC dX12_forget_92 4 rfl ?_
          refine ww_goto (pc := 94) hC 99 dX12_forget_94 (by decide) ?_
          exact ww_iret (pc := 99) hC hr h dX12_forget_99
      · refine ww_aload_n (pc := 42) hC dX12_forget_42 0 rfl ?_
        refine ww_getR (pc := 43) hC 12 5 3 hL.1 RX12 (by decide) (by decide) rfl (lay_12_5 hL).1 qf_X12_26 rfl dX12_forget_43 ?_
        refine ww_iload_n (pc := 46) hC dX12_forget_46 1 rfl ?_
        refine ww_iload (pc := 47) hC dX12_forget_47 6 rfl ?_
        refine ww_iast (pc := 49) hC ((lay_12_5 hL).2) h dX12_forget_49 (fun h => ?_)
        obtain ⟨X_7, eX_7⟩ : ∃ q, q = wI X 3 (x1).toNatClampNeg x6 := ⟨_, rfl⟩
        replace h := nm_i h eX_7
        refine ww_nmX eX_7 ?_
        refine ww_aload_n (pc := 50) hC dX12_forget_50 0 rfl ?_
        refine ww_iload_n (pc := 51) hC dX12_forget_51 1 rfl ?_
        obtain ⟨r9, X_10, h8, h⟩ := bnw_i h
        refine ww_callVi (pc := 52) hC [.int x1] hL.1.1 hL.1.2 (by decide) (ceX12_chanceNow hL h8) ql_X12_323 qi_X12_chanceNow qs_X12_X12_chanceNow qn_X12 qc_X12_chanceNow rfl ⟨by decide, by decide, rfl⟩ rfl ⟨Nat.le_of_ble_eq_true rfl, Nat.le_of_ble_eq_true rfl⟩ (by decide) (rest := []) (Nat.le_of_ble_eq_true rfl) dX12_forget_52 ⟨Nat.le_of_ble_eq_true rfl, Nat.le_of_ble_eq_true rfl⟩ rfl ?_
        refine ww_istore (pc := 55) hC [(7, .int r9), (0, .ref (w.1 0)), (1, .int x1), (2, .int x2), (3, .int x3), (4, .int x4), (5, .int x5), (6, .int x6)] dX12_forget_55  (by decide) rfl ?_
        refine ww_iload (pc := 57) hC dX12_forget_57 0 rfl ?_
        refine ww_iload (pc := 59) hC dX12_forget_59 6 rfl ?_
        refine ww_icmp_gt (pc := 61) hC h 67 dX12_forget_61 (by decide) (fun h => ?_) (fun h => ?_)
        · refine ww_iload (pc := 67) hC dX12_forget_67 7 rfl ?_
          refine ww_istore (pc := 69) hC [(4, .int x6), (7, .int r9), (0, .ref (w.1 0)), (1, .int x1), (2, .int x2), (3, .int x3), (5, .int x5), (6, .int x6)] dX12_forget_69  (by decide) rfl ?_
          refine ww_iload (pc := 71) hC dX12_forget_71 1 rfl ?_
          refine ww_istore (pc := 73) hC [(5, .int r9), (4, .int x6), (7, .int r9), (0, .ref (w.1 0)), (1, .int x1), (2, .int x2), (3, .int x3), (6, .int x6)] dX12_forget_73  (by decide) rfl ?_
          refine ww_sub [3, 4, 5, 6, 1, 0, 7] rfl ?_
          exact j75 _ ih _ _ _ _ _ _ _ h
        · refine ww_goto (pc := 64) hC 75 dX12_forget_64 (by decide) ?_
          refine ww_sub [1, 2, 3, 4, 5, 6, 7] rfl ?_
          exact j75 _ ih _ _ _ _ _ _ _ h
  unfold fX12_forget at h
  refine ww_lv (lv' := [(0, .ref (w.1 0)), (1, .int x1), (2, .int x2)]) rfl ?_
  refine ww_aload_n (pc := 0) hC dX12_forget_0 0 rfl ?_
  refine ww_iload_n (pc := 1) hC dX12_forget_1 1 rfl ?_
  obtain ⟨r2, h1, h⟩ := bnd_i h
  refine ww_callVi (pc := 2) hC [.int x1] hL.1.1 hL.1.2 (by decide) (ceX12_isShooter hL h1) ql_X12_219 qi_X12_isShooter qs_X12_X12_isShooter qn_X12 qc_X12_isShooter rfl ⟨by decide, by decide, rfl⟩ rfl ⟨Nat.le_of_ble_eq_true rfl, Nat.le_of_ble_eq_true rfl⟩ (by decide) (rest := []) (Nat.le_of_ble_eq_true rfl) dX12_forget_2 ⟨Nat.le_of_ble_eq_true rfl, Nat.le_of_ble_eq_true rfl⟩ rfl ?_
  refine ww_if_eq (pc := 5) hC h 18 dX12_forget_5 (by decide) (fun h => ?_) (fun h => ?_)
  · refine ww_iconst (pc := 18) hC (v := (-1 : Int32)) dX12_forget_18 (by decide) ?_
    exact ww_iret (pc := 19) hC hr h dX12_forget_19
  · refine ww_aload_n (pc := 8) hC dX12_forget_8 0 rfl ?_
    refine ww_iload_n (pc := 9) hC dX12_forget_9 2 rfl ?_
    refine ww_iconst (pc := 10) hC (v := (0 : Int32)) dX12_forget_10 (by decide) ?_
    refine ww_iconst (pc := 11) hC (v := (1 : Int32)) dX12_forget_11 (by decide) ?_
    obtain ⟨r4, h3, h⟩ := bnd_i h
    refine ww_callVi (pc := 12) hC [.int x2, .int ((0 : Int32)), .int ((1 : Int32))] hL.1.1 hL.1.2 (by decide) (ceX12_in hL h3) ql_X12_215 qi_X12_in qs_X12_X12_in qn_X12 qc_X12_in rfl ⟨by decide, by decide, rfl⟩ rfl ⟨Nat.le_of_ble_eq_true rfl, Nat.le_of_ble_eq_true rfl⟩ (by decide) (rest := []) (Nat.le_of_ble_eq_true rfl) dX12_forget_12 ⟨Nat.le_of_ble_eq_true rfl, Nat.le_of_ble_eq_true rfl⟩ rfl ?_
    refine ww_if_ne (pc := 15) hC h 20 dX12_forget_15 (by decide) (fun h => ?_) (fun h => ?_)
    · refine ww_aload_n (pc := 20) hC dX12_forget_20 0 rfl ?_
      refine ww_getR (pc := 21) hC 12 5 3 hL.1 RX12 (by decide) (by decide) rfl (lay_12_5 hL).1 qf_X12_26 rfl dX12_forget_21 ?_
      refine ww_iload_n (pc := 24) hC dX12_forget_24 1 rfl ?_
      refine ww_iald (pc := 25) hC ((lay_12_5 hL).2) h dX12_forget_25 (fun h => ?_)
      obtain ⟨y5, ey5⟩ : ∃ q, q = X.1 3 (x1).toNatClampNeg := ⟨_, rfl⟩
      replace h := nm_i h ey5
      refine ww_nmi ey5 ?_
      refine ww_istore_n (pc := 26) hC [(3, .int y5), (0, .ref (w.1 0)), (1, .int x1), (2, .int x2)] dX12_forget_26 rfl (by decide) rfl ?_
      refine ww_iconst (pc := 27) hC (v := (0 : Int32)) dX12_forget_27 (by decide) ?_
      refine ww_istore (pc := 28) hC [(4, .int ((0 : Int32))), (3, .int y5), (0, .ref (w.1 0)), (1, .int x1), (2, .int x2)] dX12_forget_28  (by decide) rfl ?_
      refine ww_iconst (pc := 30) hC (v := (-1 : Int32)) dX12_forget_30 (by decide) ?_
      refine ww_istore (pc := 31) hC [(5, .int ((-1 : Int32))), (4, .int ((0 : Int32))), (3, .int y5), (0, .ref (w.1 0)), (1, .int x1), (2, .int x2)] dX12_forget_31  (by decide) rfl ?_
      refine ww_iconst (pc := 33) hC (v := (0 : Int32)) dX12_forget_33 (by decide) ?_
      refine ww_istore (pc := 34) hC [(6, .int ((0 : Int32))), (5, .int ((-1 : Int32))), (4, .int ((0 : Int32))), (3, .int y5), (0, .ref (w.1 0)), (1, .int x1), (2, .int x2)] dX12_forget_34  (by decide) rfl ?_
      refine ww_sub [4, 5, 6, 3, 2, 1, 0] rfl ?_
      exact j36 _ _ _ _ _ _ _ _ h
    · refine ww_iconst (pc := 18) hC (v := (-1 : Int32)) dX12_forget_18 (by decide) ?_
      exact ww_iret (pc := 19) hC hr h dX12_forget_19
noncomputable def fX12_caught_63 (k33 : Int32 → Int32 → Int32 → Int32 → XD → Option (Int32 × XD)) (x1 : Int32) (x2 : Int32) (x4 : Int32) (s0 : Int32) (s1 : Int32) (X : XD) : Option (Int32 × XD) := nm (s1 + s0) (fun y17 => nm (x4 + (1 : Int32)) (fun y18 => k33 x1 x2 y17 y18 X))
noncomputable def fX12_caught_33 (n : Nat) : Int32 → Int32 → Int32 → Int32 → XD → Option (Int32 × XD) := Nat.rec (motive := fun _ => Int32 → Int32 → Int32 → Int32 → XD → Option (Int32 × XD)) (fun _ _ _ _ _ => none) (fun _ f => fun x1 x2 x3 x4 X => if x2 ≤ x4 then bnw (fX12_putBack X) (fun _ X_10 => some (x3, X_10)) else bnw (fX12_note x1 X) (fun r12 X_13 => bnw (fX12_goes x1 ((0 : Int32)) X_13) (fun r15 X_16 => if r15 = r12 then fX12_caught_63 (f) x1 x2 x4 ((1 : Int32)) x3 X_16 else fX12_caught_63 (f) x1 x2 x4 ((0 : Int32)) x3 X_16))) n
theorem fX12_caught_33_s (n : Nat) (x1 : Int32) (x2 : Int32) (x3 : Int32) (x4 : Int32) (X : XD) : fX12_caught_33 (n + 1) x1 x2 x3 x4 X = if x2 ≤ x4 then bnw (fX12_putBack X) (fun _ X_10 => some (x3, X_10)) else bnw (fX12_note x1 X) (fun r12 X_13 => bnw (fX12_goes x1 ((0 : Int32)) X_13) (fun r15 X_16 => if r15 = r12 then fX12_caught_63 ((fX12_caught_33 n)) x1 x2 x4 ((1 : Int32)) x3 X_16 else fX12_caught_63 ((fX12_caught_33 n)) x1 x2 x4 ((0 : Int32)) x3 X_16)) := rfl
noncomputable def fX12_caught (x1 : Int32) (x2 : Int32) (X : XD) : Option (Int32 × XD) := bnd (fX12_isShooter x1 X) (fun r2 => if r2 = 0 then some ((-1 : Int32), X) else bnd (fX12_in x2 ((0 : Int32)) ((20 : Int32)) X) (fun r4 => if r4 = 0 then some ((-2 : Int32), X) else bnw (fX12_save X) (fun _ X_7 => fX12_caught_33 FU x1 x2 ((0 : Int32)) ((0 : Int32)) X_7)))
set_option maxHeartbeats 40000000 in
set_option maxRecDepth 100000 in
theorem ceX12_caught {l : Launch} {E : XE} {w : XW} {z : Nat} {Z : XS} (hL : LayM Z) {x1 : Int32} {x2 : Int32} {X X1 : XD} {r : Int32} (h : fX12_caught x1 x2 X = some (r, X1)) : Ct l E w yX12_caught (wsM yX12_caught cX12_caught 6 (some .int)) (rmX 8 0 0) 0 0 [.ref (w.1 0), .int x1, .int x2] z z Z Z X X1 (some (.int r)) := by
  refine ct_of (by decide) (Nat.le_of_ble_eq_true rfl) ?_
  intro p e s m args below meth c hC hr hin hav
  have j63 : ∀ (k33 : Int32 → Int32 → Int32 → Int32 → XD → Option (Int32 × XD)) (hk33 : ∀ (x1 : Int32) (x2 : Int32) (x3 : Int32) (x4 : Int32) (X : XD), k33 x1 x2 x3 x4 X = some (r, X1) → WW p l e (rmX 8 0 0) s m args below meth c 6 (MQ below (XQ E w z Z X1 (some (.int r))) args s 0 0 (A0 E)) E w 0 0 z Z 33 [(0, .ref (w.1 0)), (1, .int x1), (2, .int x2), (3, .int x3), (4, .int x4)] [] X), ∀ (x1 : Int32) (x2 : Int32) (x4 : Int32) (s0 : Int32) (s1 : Int32) (X : XD), fX12_caught_63 k33 x1 x2 x4 s0 s1 X = some (r, X1) → WW p l e (rmX 8 0 0) s m args below meth c 6 (MQ below (XQ E w z Z X1 (some (.int r))) args s 0 0 (A0 E)) E w 0 0 z Z 63 [(0, .ref (w.1 0)), (1, .int x1), (2, .int x2), (4, .int x4)] [.int s0, .int s1] X := by
    intro k33 hk33 x1 x2 x4 s0 s1 X h
    unfold fX12_caught_63 at h
    refine ww_iadd (pc := 63) hC dX12_caught_63 ?_
    obtain ⟨y17, ey17⟩ : ∃ q, q = s1 + s0 := ⟨_, rfl⟩
    replace h := nm_i h ey17
    refine ww_nmi ey17 ?_
    refine ww_istore_n (pc := 64) hC [(3, .int y17), (0, .ref (w.1 0)), (1, .int x1), (2, .int x2), (4, .int x4)] dX12_caught_64 rfl (by decide) rfl ?_
    obtain ⟨y18, ey18⟩ : ∃ q, q = x4 + (1 : Int32) := ⟨_, rfl⟩
    replace h := nm_i h ey18
    refine ww_iinc (pc := 65) hC y18 [(4, .int y18), (3, .int y17), (0, .ref (w.1 0)), (1, .int x1), (2, .int x2)] dX12_caught_65 4 rfl (by rw [ey18]; rfl) (by decide) rfl ?_
    refine ww_goto (pc := 68) hC 33 dX12_caught_68 (by decide) ?_
    refine ww_sub [2, 3, 4, 1, 0] rfl ?_
    exact hk33 _ _ _ _ _ h
  have j33 : ∀ (n : Nat), ∀ (x1 : Int32) (x2 : Int32) (x3 : Int32) (x4 : Int32) (X : XD), fX12_caught_33 n x1 x2 x3 x4 X = some (r, X1) → WW p l e (rmX 8 0 0) s m args below meth c 6 (MQ below (XQ E w z Z X1 (some (.int r))) args s 0 0 (A0 E)) E w 0 0 z Z 33 [(0, .ref (w.1 0)), (1, .int x1), (2, .int x2), (3, .int x3), (4, .int x4)] [] X := by
    intro n
    induction n with
    | zero =>
      intro x1 x2 x3 x4 X h
      cases (show none = some (r, X1) from h)
    | succ n ih =>
      intro x1 x2 x3 x4 X h
      rw [fX12_caught_33_s] at h
      refine ww_iload (pc := 33) hC dX12_caught_33 4 rfl ?_
      refine ww_iload_n (pc := 35) hC dX12_caught_35 2 rfl ?_
      refine ww_icmp_ge (pc := 36) hC h 71 dX12_caught_36 (by decide) (fun h => ?_) (fun h => ?_)
      · refine ww_aload_n (pc := 71) hC dX12_caught_71 0 rfl ?_
        obtain ⟨_, X_10, h8, h⟩ := bnw_i h
        refine ww_callVv (pc := 72) hC [] hL.1.1 hL.1.2 (by decide) (ceX12_putBack hL h8) ql_X12_339 qi_X12_putBack qs_X12_X12_putBack qn_X12 qc_X12_putBack rfl ⟨by decide, by decide, rfl⟩ rfl ⟨Nat.le_of_ble_eq_true rfl, Nat.le_of_ble_eq_true rfl⟩ (by decide) (rest := []) (Nat.le_of_ble_eq_true rfl) dX12_caught_72 ⟨Nat.le_of_ble_eq_true rfl, Nat.le_of_ble_eq_true rfl⟩ rfl ?_
        refine ww_iload_n (pc := 75) hC dX12_caught_75 3 rfl ?_
        exact ww_iret (pc := 76) hC hr h dX12_caught_76
      · refine ww_aload_n (pc := 39) hC dX12_caught_39 0 rfl ?_
        refine ww_iload_n (pc := 40) hC dX12_caught_40 1 rfl ?_
        obtain ⟨r12, X_13, h11, h⟩ := bnw_i h
        refine ww_callVi (pc := 41) hC [.int x1] hL.1.1 hL.1.2 (by decide) (ceX12_note hL h11) ql_X12_296 qi_X12_note qs_X12_X12_note qn_X12 qc_X12_note rfl ⟨by decide, by decide, rfl⟩ rfl ⟨Nat.le_of_ble_eq_true rfl, Nat.le_of_ble_eq_true rfl⟩ (by decide) (rest := []) (Nat.le_of_ble_eq_true rfl) dX12_caught_41 ⟨Nat.le_of_ble_eq_true rfl, Nat.le_of_ble_eq_true rfl⟩ rfl ?_
        refine ww_istore (pc := 44) hC [(5, .int r12), (0, .ref (w.1 0)), (1, .int x1), (2, .int x2), (3, .int x3), (4, .int x4)] dX12_caught_44  (by decide) rfl ?_
        refine ww_iload_n (pc := 46) hC dX12_caught_46 4 rfl ?_
        refine ww_aload_n (pc := 47) hC dX12_caught_47 1 rfl ?_
        refine ww_iload_n (pc := 48) hC dX12_caught_48 2 rfl ?_
        refine ww_iconst (pc := 49) hC (v := (0 : Int32)) dX12_caught_49 (by decide) ?_
        obtain ⟨r15, X_16, h14, h⟩ := bnw_i h
        refine ww_callVi (pc := 50) hC [.int x1, .int ((0 : Int32))] hL.1.1 hL.1.2 (by decide) (ceX12_goes hL h14) ql_X12_326 qi_X12_goes qs_X12_X12_goes qn_X12 qc_X12_goes rfl ⟨by decide, by decide, rfl⟩ rfl ⟨Nat.le_of_ble_eq_true rfl, Nat.le_of_ble_eq_true rfl⟩ (by decide) (rest := [.int x3]) (Nat.le_of_ble_eq_true rfl) dX12_caught_50 ⟨Nat.le_of_ble_eq_true rfl, Nat.le_of_ble_eq_true rfl⟩ rfl ?_
        refine ww_iload (pc := 53) hC dX12_caught_53 0 rfl ?_
        refine ww_icmp_ne (pc := 55) hC h 62 dX12_caught_55 (by decide) (fun h => ?_) (fun h => ?_)
        · refine ww_iconst (pc := 62) hC (v := (0 : Int32)) dX12_caught_62 (by decide) ?_
          refine ww_sub [1, 2, 3, 5] rfl ?_
          exact j63 _ ih _ _ _ _ _ _ h
        · refine ww_iconst (pc := 58) hC (v := (1 : Int32)) dX12_caught_58 (by decide) ?_
          refine ww_goto (pc := 59) hC 63 dX12_caught_59 (by decide) ?_
          refine ww_sub [1, 2, 3, 5] rfl ?_
          exact j63 _ ih _ _ _ _ _ _ h
  unfold fX12_caught at h
  refine ww_lv (lv' := [(0, .ref (w.1 0)), (1, .int x1), (2, .int x2)]) rfl ?_
  refine ww_aload_n (pc := 0) hC dX12_caught_0 0 rfl ?_
  refine ww_iload_n (pc := 1) hC dX12_caught_1 1 rfl ?_
  obtain ⟨r2, h1, h⟩ := bnd_i h
  refine ww_callVi (pc := 2) hC [.int x1] hL.1.1 hL.1.2 (by decide) (ceX12_isShooter hL h1) ql_X12_219 qi_X12_isShooter qs_X12_X12_isShooter qn_X12 qc_X12_isShooter rfl ⟨by decide, by decide, rfl⟩ rfl ⟨Nat.le_of_ble_eq_true rfl, Nat.le_of_ble_eq_true rfl⟩ (by decide) (rest := []) (Nat.le_of_ble_eq_true rfl) dX12_caught_2 ⟨Nat.le_of_ble_eq_true rfl, Nat.le_of_ble_eq_true rfl⟩ rfl ?_
  refine ww_if_ne (pc := 5) hC h 10 dX12_caught_5 (by decide) (fun h => ?_) (fun h => ?_)
  · refine ww_aload_n (pc := 10) hC dX12_caught_10 0 rfl ?_
    refine ww_iload_n (pc := 11) hC dX12_caught_11 2 rfl ?_
    refine ww_iconst (pc := 12) hC (v := (0 : Int32)) dX12_caught_12 (by decide) ?_
    refine ww_bipush (pc := 13) hC (v := (20 : Int32)) dX12_caught_13 (by decide) ?_
    obtain ⟨r4, h3, h⟩ := bnd_i h
    refine ww_callVi (pc := 15) hC [.int x2, .int ((0 : Int32)), .int ((20 : Int32))] hL.1.1 hL.1.2 (by decide) (ceX12_in hL h3) ql_X12_215 qi_X12_in qs_X12_X12_in qn_X12 qc_X12_in rfl ⟨by decide, by decide, rfl⟩ rfl ⟨Nat.le_of_ble_eq_true rfl, Nat.le_of_ble_eq_true rfl⟩ (by decide) (rest := []) (Nat.le_of_ble_eq_true rfl) dX12_caught_15 ⟨Nat.le_of_ble_eq_true rfl, Nat.le_of_ble_eq_true rfl⟩ rfl ?_
    refine ww_if_ne (pc := 18) hC h 24 dX12_caught_18 (by decide) (fun h => ?_) (fun h => ?_)
    · refine ww_aload_n (pc := 24) hC dX12_caught_24 0 rfl ?_
      obtain ⟨_, X_7, h5, h⟩ := bnw_i h
      refine ww_callVv (pc := 25) hC [] hL.1.1 hL.1.2 (by decide) (ceX12_save hL h5) ql_X12_333 qi_X12_save qs_X12_X12_save qn_X12 qc_X12_save rfl ⟨by decide, by decide, rfl⟩ rfl ⟨Nat.le_of_ble_eq_true rfl, Nat.le_of_ble_eq_true rfl⟩ (by decide) (rest := []) (Nat.le_of_ble_eq_true rfl) dX12_caught_25 ⟨Nat.le_of_ble_eq_true rfl, Nat.le_of_ble_eq_true rfl⟩ rfl ?_
      refine ww_iconst (pc := 28) hC (v := (0 : Int32)) dX12_caught_28 (by decide) ?_
      refine ww_istore_n (pc := 29) hC [(3, .int ((0 : Int32))), (0, .ref (w.1 0)), (1, .int x1), (2, .int x2)] dX12_caught_29 rfl (by decide) rfl ?_
      refine ww_iconst (pc := 30) hC (v := (0 : Int32)) dX12_caught_30 (by decide) ?_
      refine ww_istore (pc := 31) hC [(4, .int ((0 : Int32))), (3, .int ((0 : Int32))), (0, .ref (w.1 0)), (1, .int x1), (2, .int x2)] dX12_caught_31  (by decide) rfl ?_
      refine ww_sub [2, 3, 4, 1, 0] rfl ?_
      exact j33 _ _ _ _ _ _ h
    · refine ww_bipush (pc := 21) hC (v := (-2 : Int32)) dX12_caught_21 (by decide) ?_
      exact ww_iret (pc := 23) hC hr h dX12_caught_23
  · refine ww_iconst (pc := 8) hC (v := (-1 : Int32)) dX12_caught_8 (by decide) ?_
    exact ww_iret (pc := 9) hC hr h dX12_caught_9
noncomputable def fX12_see (x1 : Int32) (X : XD) : Option (Int32 × XD) := if x1 = ((-1 : Int32)) then nm (wI X 0 38 ((0 : Int32))) (fun X_5 => some ((0 : Int32), X_5)) else bnd (fX12_isSide x1 X) (fun r2 => if r2 = 0 then some ((-1 : Int32), X) else if (X.1 0 38) = ((6 : Int32)) then some ((-4 : Int32), X) else gin (X.1 0 38) 6 (nm (wI X 25 (X.1 0 38).toNatClampNeg x1) (fun X_3 => nm (wI X_3 0 38 ((X_3.1 0 38) + ((1 : Int32)))) (fun X_4 => some (X_4.1 0 38, X_4)))))
set_option maxHeartbeats 40000000 in
set_option maxRecDepth 100000 in
theorem ceX12_see {l : Launch} {E : XE} {w : XW} {z : Nat} {Z : XS} (hL : LayM Z) {x1 : Int32} {X X1 : XD} {r : Int32} (h : fX12_see x1 X = some (r, X1)) : Ct l E w yX12_see (wsM yX12_see cX12_see 2 (some .int)) (rmX 3 0 0) 0 0 [.ref (w.1 0), .int x1] z z Z Z X X1 (some (.int r)) := by
  refine ct_of (by decide) (Nat.le_of_ble_eq_true rfl) ?_
  intro p e s m args below meth c hC hr hin hav
  unfold fX12_see at h
  refine ww_lv (lv' := [(0, .ref (w.1 0)), (1, .int x1)]) rfl ?_
  refine ww_iload_n (pc := 0) hC dX12_see_0 1 rfl ?_
  refine ww_iconst (pc := 1) hC (v := (-1 : Int32)) dX12_see_1 (by decide) ?_
  refine ww_icmp_ne (pc := 2) hC h 12 dX12_see_2 (by decide) (fun h => ?_) (fun h => ?_)
  · refine ww_aload_n (pc := 12) hC dX12_see_12 0 rfl ?_
    refine ww_iload_n (pc := 13) hC dX12_see_13 1 rfl ?_
    obtain ⟨r2, h1, h⟩ := bnd_i h
    refine ww_callVi (pc := 14) hC [.int x1] hL.1.1 hL.1.2 (by decide) (ceX12_isSide hL h1) ql_X12_223 qi_X12_isSide qs_X12_X12_isSide qn_X12 qc_X12_isSide rfl ⟨by decide, by decide, rfl⟩ rfl ⟨Nat.le_of_ble_eq_true rfl, Nat.le_of_ble_eq_true rfl⟩ (by decide) (rest := []) (Nat.le_of_ble_eq_true rfl) dX12_see_14 ⟨Nat.le_of_ble_eq_true rfl, Nat.le_of_ble_eq_true rfl⟩ rfl ?_
    refine ww_if_ne (pc := 17) hC h 22 dX12_see_17 (by decide) (fun h => ?_) (fun h => ?_)
    · refine ww_aload_n (pc := 22) hC dX12_see_22 0 rfl ?_
      refine ww_getI (pc := 23) hC 12 38 hL.1 RX12 (by decide) (by decide) rfl qf_X12_127 (Or.inl rfl) dX12_see_23 ?_
      refine ww_bipush (pc := 26) hC (v := (6 : Int32)) dX12_see_26 (by decide) ?_
      refine ww_icmp_ne (pc := 28) hC h 34 dX12_see_28 (by decide) (fun h => ?_) (fun h => ?_)
      · refine ww_aload_n (pc := 34) hC dX12_see_34 0 rfl ?_
        refine ww_getR (pc := 35) hC 12 39 25 hL.1 RX12 (by decide) (by decide) rfl (lay_12_39 hL).1 qf_X12_130 rfl dX12_see_35 ?_
        refine ww_aload_n (pc := 38) hC dX12_see_38 0 rfl ?_
        refine ww_getI (pc := 39) hC 12 38 hL.1 RX12 (by decide) (by decide) rfl qf_X12_127 (Or.inl rfl) dX12_see_39 ?_
        refine ww_iload_n (pc := 42) hC dX12_see_42 1 rfl ?_
        refine ww_iast (pc := 43) hC ((lay_12_39 hL).2) h dX12_see_43 (fun h => ?_)
        obtain ⟨X_3, eX_3⟩ : ∃ q, q = wI X 25 (X.1 0 38).toNatClampNeg x1 := ⟨_, rfl⟩
        replace h := nm_i h eX_3
        refine ww_nmX eX_3 ?_
        refine ww_aload_n (pc := 44) hC dX12_see_44 0 rfl ?_
        refine ww_dup (pc := 45) hC dX12_see_45 rfl ?_
        refine ww_getI (pc := 46) hC 12 38 hL.1 RX12 (by decide) (by decide) rfl qf_X12_127 (Or.inl rfl) dX12_see_46 ?_
        refine ww_iconst (pc := 49) hC (v := (1 : Int32)) dX12_see_49 (by decide) ?_
        refine ww_iadd (pc := 50) hC dX12_see_50 ?_
        refine ww_putI (pc := 51) hC 12 38 hL.1 RX12 (by decide) (by decide) rfl qf_X12_127 rfl rfl rfl rfl dX12_see_51 ?_
        obtain ⟨X_4, eX_4⟩ : ∃ q, q = wI X_3 0 38 ((X_3.1 0 38) + ((1 : Int32))) := ⟨_, rfl⟩
        replace h := nm_i h eX_4
        refine ww_nmX eX_4 ?_
        refine ww_aload_n (pc := 54) hC dX12_see_54 0 rfl ?_
        refine ww_getI (pc := 55) hC 12 38 hL.1 RX12 (by decide) (by decide) rfl qf_X12_127 (Or.inl rfl) dX12_see_55 ?_
        exact ww_iret (pc := 58) hC hr h dX12_see_58
      · refine ww_bipush (pc := 31) hC (v := (-4 : Int32)) dX12_see_31 (by decide) ?_
        exact ww_iret (pc := 33) hC hr h dX12_see_33
    · refine ww_iconst (pc := 20) hC (v := (-1 : Int32)) dX12_see_20 (by decide) ?_
      exact ww_iret (pc := 21) hC hr h dX12_see_21
  · refine ww_aload_n (pc := 5) hC dX12_see_5 0 rfl ?_
    refine ww_iconst (pc := 6) hC (v := (0 : Int32)) dX12_see_6 (by decide) ?_
    refine ww_putI (pc := 7) hC 12 38 hL.1 RX12 (by decide) (by decide) rfl qf_X12_127 rfl rfl rfl rfl dX12_see_7 ?_
    obtain ⟨X_5, eX_5⟩ : ∃ q, q = wI X 0 38 ((0 : Int32)) := ⟨_, rfl⟩
    replace h := nm_i h eX_5
    refine ww_nmX eX_5 ?_
    refine ww_iconst (pc := 10) hC (v := (0 : Int32)) dX12_see_10 (by decide) ?_
    exact ww_iret (pc := 11) hC hr h dX12_see_11
noncomputable def fX12_isSeen_40 (k8 : Int32 → Int32 → Int32 → XD → Option (Int32 × XD)) (x1 : Int32) (x3 : Int32) (s0 : Int32) (X : XD) : Option (Int32 × XD) := nm (x3 + (1 : Int32)) (fun y11 => k8 x1 s0 y11 X)
noncomputable def fX12_isSeen_47 (x2 : Int32) (X : XD) : Option (Int32 × XD) := bnw (fX12_putBack X) (fun _ X_9 => gb x2 (some (x2, X_9)))
noncomputable def fX12_isSeen_8 (n : Nat) : Int32 → Int32 → Int32 → XD → Option (Int32 × XD) := Nat.rec (motive := fun _ => Int32 → Int32 → Int32 → XD → Option (Int32 × XD)) (fun _ _ _ _ => none) (fun _ f => fun x1 x2 x3 X => if (X.1 0 38) ≤ x3 then fX12_isSeen_47 x2 X else if x2 = 0 then fX12_isSeen_47 x2 X else bnw (fX12_goes x1 ((0 : Int32)) X) (fun r5 X_6 => gin x3 6 (if r5 = (X_6.1 25 (x3).toNatClampNeg) then fX12_isSeen_40 (f) x1 x3 ((1 : Int32)) X_6 else fX12_isSeen_40 (f) x1 x3 ((0 : Int32)) X_6))) n
theorem fX12_isSeen_8_s (n : Nat) (x1 : Int32) (x2 : Int32) (x3 : Int32) (X : XD) : fX12_isSeen_8 (n + 1) x1 x2 x3 X = if (X.1 0 38) ≤ x3 then fX12_isSeen_47 x2 X else if x2 = 0 then fX12_isSeen_47 x2 X else bnw (fX12_goes x1 ((0 : Int32)) X) (fun r5 X_6 => gin x3 6 (if r5 = (X_6.1 25 (x3).toNatClampNeg) then fX12_isSeen_40 ((fX12_isSeen_8 n)) x1 x3 ((1 : Int32)) X_6 else fX12_isSeen_40 ((fX12_isSeen_8 n)) x1 x3 ((0 : Int32)) X_6)) := rfl
noncomputable def fX12_isSeen (x1 : Int32) (X : XD) : Option (Int32 × XD) := bnw (fX12_save X) (fun _ X_3 => fX12_isSeen_8 FU x1 ((1 : Int32)) ((0 : Int32)) X_3)
set_option maxHeartbeats 40000000 in
set_option maxRecDepth 100000 in
theorem ceX12_isSeen {l : Launch} {E : XE} {w : XW} {z : Nat} {Z : XS} (hL : LayM Z) {x1 : Int32} {X X1 : XD} {r : Int32} (h : fX12_isSeen x1 X = some (r, X1)) : Ct l E w yX12_isSeen (wsM yX12_isSeen cX12_isSeen 4 (some .boolean)) (rmX 8 0 0) 0 0 [.ref (w.1 0), .int x1] z z Z Z X X1 (some (.int r)) := by
  refine ct_of (by decide) (Nat.le_of_ble_eq_true rfl) ?_
  intro p e s m args below meth c hC hr hin hav
  have j40 : ∀ (k8 : Int32 → Int32 → Int32 → XD → Option (Int32 × XD)) (hk8 : ∀ (x1 : Int32) (x2 : Int32) (x3 : Int32) (X : XD), k8 x1 x2 x3 X = some (r, X1) → WW p l e (rmX 8 0 0) s m args below meth c 4 (MQ below (XQ E w z Z X1 (some (.int r))) args s 0 0 (A0 E)) E w 0 0 z Z 8 [(0, .ref (w.1 0)), (1, .int x1), (2, .int x2), (3, .int x3)] [] X), ∀ (x1 : Int32) (x3 : Int32) (s0 : Int32) (X : XD), fX12_isSeen_40 k8 x1 x3 s0 X = some (r, X1) → WW p l e (rmX 8 0 0) s m args below meth c 4 (MQ below (XQ E w z Z X1 (some (.int r))) args s 0 0 (A0 E)) E w 0 0 z Z 40 [(0, .ref (w.1 0)), (1, .int x1), (3, .int x3)] [.int s0] X := by
    intro k8 hk8 x1 x3 s0 X h
    unfold fX12_isSeen_40 at h
    refine ww_istore_n (pc := 40) hC [(2, .int s0), (0, .ref (w.1 0)), (1, .int x1), (3, .int x3)] dX12_isSeen_40 rfl (by decide) rfl ?_
    obtain ⟨y11, ey11⟩ : ∃ q, q = x3 + (1 : Int32) := ⟨_, rfl⟩
    replace h := nm_i h ey11
    refine ww_iinc (pc := 41) hC y11 [(3, .int y11), (2, .int s0), (0, .ref (w.1 0)), (1, .int x1)] dX12_isSeen_41 3 rfl (by rw [ey11]; rfl) (by decide) rfl ?_
    refine ww_goto (pc := 44) hC 8 dX12_isSeen_44 (by decide) ?_
    refine ww_sub [2, 3, 1, 0] rfl ?_
    exact hk8 _ _ _ _ h
  have j47 : ∀ (x2 : Int32) (X : XD), fX12_isSeen_47 x2 X = some (r, X1) → WW p l e (rmX 8 0 0) s m args below meth c 4 (MQ below (XQ E w z Z X1 (some (.int r))) args s 0 0 (A0 E)) E w 0 0 z Z 47 [(0, .ref (w.1 0)), (2, .int x2)] [] X := by
    intro x2 X h
    unfold fX12_isSeen_47 at h
    refine ww_aload_n (pc := 47) hC dX12_isSeen_47 0 rfl ?_
    obtain ⟨_, X_9, h7, h⟩ := bnw_i h
    refine ww_callVv (pc := 48) hC [] hL.1.1 hL.1.2 (by decide) (ceX12_putBack hL h7) ql_X12_339 qi_X12_putBack qs_X12_X12_putBack qn_X12 qc_X12_putBack rfl ⟨by decide, by decide, rfl⟩ rfl ⟨Nat.le_of_ble_eq_true rfl, Nat.le_of_ble_eq_true rfl⟩ (by decide) (rest := []) (Nat.le_of_ble_eq_true rfl) dX12_isSeen_48 ⟨Nat.le_of_ble_eq_true rfl, Nat.le_of_ble_eq_true rfl⟩ rfl ?_
    refine ww_iload_n (pc := 51) hC dX12_isSeen_51 1 rfl ?_
    obtain ⟨hb10, h⟩ := gb_i h
    exact ww_zret (pc := 52) hC hr (gb_n hb10) h dX12_isSeen_52
  have j8 : ∀ (n : Nat), ∀ (x1 : Int32) (x2 : Int32) (x3 : Int32) (X : XD), fX12_isSeen_8 n x1 x2 x3 X = some (r, X1) → WW p l e (rmX 8 0 0) s m args below meth c 4 (MQ below (XQ E w z Z X1 (some (.int r))) args s 0 0 (A0 E)) E w 0 0 z Z 8 [(0, .ref (w.1 0)), (1, .int x1), (2, .int x2), (3, .int x3)] [] X := by
    intro n
    induction n with
    | zero =>
      intro x1 x2 x3 X h
      cases (show none = some (r, X1) from h)
    | succ n ih =>
      intro x1 x2 x3 X h
      rw [fX12_isSeen_8_s] at h
      refine ww_iload_n (pc := 8) hC dX12_isSeen_8 3 rfl ?_
      refine ww_aload_n (pc := 9) hC dX12_isSeen_9 0 rfl ?_
      refine ww_getI (pc := 10) hC 12 38 hL.1 RX12 (by decide) (by decide) rfl qf_X12_127 (Or.inl rfl) dX12_isSeen_10 ?_
      refine ww_icmp_ge (pc := 13) hC h 47 dX12_isSeen_13 (by decide) (fun h => ?_) (fun h => ?_)
      · refine ww_sub [0, 2] rfl ?_
        exact j47 _ _ h
      · refine ww_iload_n (pc := 16) hC dX12_isSeen_16 2 rfl ?_
        refine ww_if_eq (pc := 17) hC h 47 dX12_isSeen_17 (by decide) (fun h => ?_) (fun h => ?_)
        · refine ww_sub [0, 2] rfl ?_
          exact j47 _ _ h
        · refine ww_aload_n (pc := 20) hC dX12_isSeen_20 0 rfl ?_
          refine ww_iload_n (pc := 21) hC dX12_isSeen_21 1 rfl ?_
          refine ww_iconst (pc := 22) hC (v := (0 : Int32)) dX12_isSeen_22 (by decide) ?_
          obtain ⟨r5, X_6, h4, h⟩ := bnw_i h
          refine ww_callVi (pc := 23) hC [.int x1, .int ((0 : Int32))] hL.1.1 hL.1.2 (by decide) (ceX12_goes hL h4) ql_X12_326 qi_X12_goes qs_X12_X12_goes qn_X12 qc_X12_goes rfl ⟨by decide, by decide, rfl⟩ rfl ⟨Nat.le_of_ble_eq_true rfl, Nat.le_of_ble_eq_true rfl⟩ (by decide) (rest := []) (Nat.le_of_ble_eq_true rfl) dX12_isSeen_23 ⟨Nat.le_of_ble_eq_true rfl, Nat.le_of_ble_eq_true rfl⟩ rfl ?_
          refine ww_aload_n (pc := 26) hC dX12_isSeen_26 0 rfl ?_
          refine ww_getR (pc := 27) hC 12 39 25 hL.1 RX12 (by decide) (by decide) rfl (lay_12_39 hL).1 qf_X12_130 rfl dX12_isSeen_27 ?_
          refine ww_iload_n (pc := 30) hC dX12_isSeen_30 3 rfl ?_
          refine ww_iald (pc := 31) hC ((lay_12_39 hL).2) h dX12_isSeen_31 (fun h => ?_)
          refine ww_icmp_ne (pc := 32) hC h 39 dX12_isSeen_32 (by decide) (fun h => ?_) (fun h => ?_)
          · refine ww_iconst (pc := 39) hC (v := (0 : Int32)) dX12_isSeen_39 (by decide) ?_
            refine ww_sub [0, 1, 3] rfl ?_
            exact j40 _ ih _ _ _ _ h
          · refine ww_iconst (pc := 35) hC (v := (1 : Int32)) dX12_isSeen_35 (by decide) ?_
            refine ww_goto (pc := 36) hC 40 dX12_isSeen_36 (by decide) ?_
            refine ww_sub [0, 1, 3] rfl ?_
            exact j40 _ ih _ _ _ _ h
  unfold fX12_isSeen at h
  refine ww_lv (lv' := [(0, .ref (w.1 0)), (1, .int x1)]) rfl ?_
  refine ww_aload_n (pc := 0) hC dX12_isSeen_0 0 rfl ?_
  obtain ⟨_, X_3, h1, h⟩ := bnw_i h
  refine ww_callVv (pc := 1) hC [] hL.1.1 hL.1.2 (by decide) (ceX12_save hL h1) ql_X12_333 qi_X12_save qs_X12_X12_save qn_X12 qc_X12_save rfl ⟨by decide, by decide, rfl⟩ rfl ⟨Nat.le_of_ble_eq_true rfl, Nat.le_of_ble_eq_true rfl⟩ (by decide) (rest := []) (Nat.le_of_ble_eq_true rfl) dX12_isSeen_1 ⟨Nat.le_of_ble_eq_true rfl, Nat.le_of_ble_eq_true rfl⟩ rfl ?_
  refine ww_iconst (pc := 4) hC (v := (1 : Int32)) dX12_isSeen_4 (by decide) ?_
  refine ww_istore_n (pc := 5) hC [(2, .int ((1 : Int32))), (0, .ref (w.1 0)), (1, .int x1)] dX12_isSeen_5 rfl (by decide) rfl ?_
  refine ww_iconst (pc := 6) hC (v := (0 : Int32)) dX12_isSeen_6 (by decide) ?_
  refine ww_istore_n (pc := 7) hC [(3, .int ((0 : Int32))), (2, .int ((1 : Int32))), (0, .ref (w.1 0)), (1, .int x1)] dX12_isSeen_7 rfl (by decide) rfl ?_
  refine ww_sub [2, 3, 1, 0] rfl ?_
  exact j8 _ _ _ _ _ h
noncomputable def fX12_who_28 (k4 : Int32 → Int32 → XD → Option (Int32 × XD)) (x2 : Int32) (s0 : Int32) (s1 : Int32) (X : XD) : Option (Int32 × XD) := nm (s1 ||| s0) (fun y4 => nm (x2 + (1 : Int32)) (fun y5 => k4 y4 y5 X))
noncomputable def fX12_who_4 (n : Nat) : Int32 → Int32 → XD → Option (Int32 × XD) := Nat.rec (motive := fun _ => Int32 → Int32 → XD → Option (Int32 × XD)) (fun _ _ _ => none) (fun _ f => fun x1 x2 X => if (X.1 0 0) ≤ x2 then some (x1, X) else bnw (fX12_isSeen x2 X) (fun r2 X_3 => if r2 = 0 then fX12_who_28 (f) x2 ((0 : Int32)) x1 X_3 else fX12_who_28 (f) x2 (((1 : Int32)) <<< (x2 &&& 31)) x1 X_3)) n
theorem fX12_who_4_s (n : Nat) (x1 : Int32) (x2 : Int32) (X : XD) : fX12_who_4 (n + 1) x1 x2 X = if (X.1 0 0) ≤ x2 then some (x1, X) else bnw (fX12_isSeen x2 X) (fun r2 X_3 => if r2 = 0 then fX12_who_28 ((fX12_who_4 n)) x2 ((0 : Int32)) x1 X_3 else fX12_who_28 ((fX12_who_4 n)) x2 (((1 : Int32)) <<< (x2 &&& 31)) x1 X_3) := rfl
noncomputable def fX12_who (X : XD) : Option (Int32 × XD) := fX12_who_4 FU ((0 : Int32)) ((0 : Int32)) X
set_option maxHeartbeats 40000000 in
set_option maxRecDepth 100000 in
theorem ceX12_who {l : Launch} {E : XE} {w : XW} {z : Nat} {Z : XS} (hL : LayM Z) {X X1 : XD} {r : Int32} (h : fX12_who X = some (r, X1)) : Ct l E w yX12_who (wsM yX12_who cX12_who 3 (some .int)) (rmX 9 0 0) 0 0 [.ref (w.1 0)] z z Z Z X X1 (some (.int r)) := by
  refine ct_of (by decide) (Nat.le_of_ble_eq_true rfl) ?_
  intro p e s m args below meth c hC hr hin hav
  have j28 : ∀ (k4 : Int32 → Int32 → XD → Option (Int32 × XD)) (hk4 : ∀ (x1 : Int32) (x2 : Int32) (X : XD), k4 x1 x2 X = some (r, X1) → WW p l e (rmX 9 0 0) s m args below meth c 3 (MQ below (XQ E w z Z X1 (some (.int r))) args s 0 0 (A0 E)) E w 0 0 z Z 4 [(0, .ref (w.1 0)), (1, .int x1), (2, .int x2)] [] X), ∀ (x2 : Int32) (s0 : Int32) (s1 : Int32) (X : XD), fX12_who_28 k4 x2 s0 s1 X = some (r, X1) → WW p l e (rmX 9 0 0) s m args below meth c 3 (MQ below (XQ E w z Z X1 (some (.int r))) args s 0 0 (A0 E)) E w 0 0 z Z 28 [(0, .ref (w.1 0)), (2, .int x2)] [.int s0, .int s1] X := by
    intro k4 hk4 x2 s0 s1 X h
    unfold fX12_who_28 at h
    refine ww_ior (pc := 28) hC dX12_who_28 ?_
    obtain ⟨y4, ey4⟩ : ∃ q, q = s1 ||| s0 := ⟨_, rfl⟩
    replace h := nm_i h ey4
    refine ww_nmi ey4 ?_
    refine ww_istore_n (pc := 29) hC [(1, .int y4), (0, .ref (w.1 0)), (2, .int x2)] dX12_who_29 rfl (by decide) rfl ?_
    obtain ⟨y5, ey5⟩ : ∃ q, q = x2 + (1 : Int32) := ⟨_, rfl⟩
    replace h := nm_i h ey5
    refine ww_iinc (pc := 30) hC y5 [(2, .int y5), (1, .int y4), (0, .ref (w.1 0))] dX12_who_30 2 rfl (by rw [ey5]; rfl) (by decide) rfl ?_
    refine ww_goto (pc := 33) hC 4 dX12_who_33 (by decide) ?_
    refine ww_sub [2, 1, 0] rfl ?_
    exact hk4 _ _ _ h
  have j4 : ∀ (n : Nat), ∀ (x1 : Int32) (x2 : Int32) (X : XD), fX12_who_4 n x1 x2 X = some (r, X1) → WW p l e (rmX 9 0 0) s m args below meth c 3 (MQ below (XQ E w z Z X1 (some (.int r))) args s 0 0 (A0 E)) E w 0 0 z Z 4 [(0, .ref (w.1 0)), (1, .int x1), (2, .int x2)] [] X := by
    intro n
    induction n with
    | zero =>
      intro x1 x2 X h
      cases (show none = some (r, X1) from h)
    | succ n ih =>
      intro x1 x2 X h
      rw [fX12_who_4_s] at h
      refine ww_iload_n (pc := 4) hC dX12_who_4 2 rfl ?_
      refine ww_aload_n (pc := 5) hC dX12_who_5 0 rfl ?_
      refine ww_getI (pc := 6) hC 12 0 hL.1 RX12 (by decide) (by decide) rfl qf_X12_7 (Or.inl rfl) dX12_who_6 ?_
      refine ww_icmp_ge (pc := 9) hC h 36 dX12_who_9 (by decide) (fun h => ?_) (fun h => ?_)
      · refine ww_iload_n (pc := 36) hC dX12_who_36 1 rfl ?_
        exact ww_iret (pc := 37) hC hr h dX12_who_37
      · refine ww_iload_n (pc := 12) hC dX12_who_12 1 rfl ?_
        refine ww_aload_n (pc := 13) hC dX12_who_13 0 rfl ?_
        refine ww_iload_n (pc := 14) hC dX12_who_14 2 rfl ?_
        obtain ⟨r2, X_3, h1, h⟩ := bnw_i h
        refine ww_callVi (pc := 15) hC [.int x2] hL.1.1 hL.1.2 (by decide) (ceX12_isSeen hL h1) ql_X12_372 qi_X12_isSeen qs_X12_X12_isSeen qn_X12 qc_X12_isSeen rfl ⟨by decide, by decide, rfl⟩ rfl ⟨Nat.le_of_ble_eq_true rfl, Nat.le_of_ble_eq_true rfl⟩ (by decide) (rest := [.int x1]) (Nat.le_of_ble_eq_true rfl) dX12_who_15 ⟨Nat.le_of_ble_eq_true rfl, Nat.le_of_ble_eq_true rfl⟩ rfl ?_
        refine ww_if_eq (pc := 18) hC h 27 dX12_who_18 (by decide) (fun h => ?_) (fun h => ?_)
        · refine ww_iconst (pc := 27) hC (v := (0 : Int32)) dX12_who_27 (by decide) ?_
          refine ww_sub [0, 2] rfl ?_
          exact j28 _ ih _ _ _ _ h
        · refine ww_iconst (pc := 21) hC (v := (1 : Int32)) dX12_who_21 (by decide) ?_
          refine ww_iload_n (pc := 22) hC dX12_who_22 2 rfl ?_
          refine ww_ishl (pc := 23) hC dX12_who_23 ?_
          refine ww_goto (pc := 24) hC 28 dX12_who_24 (by decide) ?_
          refine ww_sub [0, 2] rfl ?_
          exact j28 _ ih _ _ _ _ h
  unfold fX12_who at h
  refine ww_lv (lv' := [(0, .ref (w.1 0))]) rfl ?_
  refine ww_iconst (pc := 0) hC (v := (0 : Int32)) dX12_who_0 (by decide) ?_
  refine ww_istore_n (pc := 1) hC [(1, .int ((0 : Int32))), (0, .ref (w.1 0))] dX12_who_1 rfl (by decide) rfl ?_
  refine ww_iconst (pc := 2) hC (v := (0 : Int32)) dX12_who_2 (by decide) ?_
  refine ww_istore_n (pc := 3) hC [(2, .int ((0 : Int32))), (1, .int ((0 : Int32))), (0, .ref (w.1 0))] dX12_who_3 rfl (by decide) rfl ?_
  refine ww_sub [2, 1, 0] rfl ?_
  exact j4 _ _ _ _ h
noncomputable def fX12_odds (x1 : Int32) (x2 : Int32) (X : XD) : Option (Int64 × XD) := bnd (fX12_isShooter x1 X) (fun r2 => if r2 = 0 then some ((-9223372036854775808 : Int64), X) else bnd (fX12_in x2 ((0 : Int32)) ((1 : Int32)) X) (fun r4 => if r4 = 0 then some ((-9223372036854775808 : Int64), X) else bnw (fX12_note x1 X) (fun r6 X_7 => bnw (fX12_chanceOf x1 ((0 : Int32)) r6 X_7) (fun r9 X_10 => bnw (fX12_chanceOf x1 ((1 : Int32)) r6 X_10) (fun r12 X_13 => bnw (fX12_chanceOf x1 ((2 : Int32)) r6 X_13) (fun r15 X_16 => bnd (fX12_lowest (((r9 + r12) + r15).toInt64) ((300 : Int64)) x2 X_16) (fun r18 => some (r18, X_16))))))))
set_option maxHeartbeats 40000000 in
set_option maxRecDepth 100000 in
theorem ceX12_odds {l : Launch} {E : XE} {w : XW} {z : Nat} {Z : XS} (hL : LayM Z) {x1 : Int32} {x2 : Int32} {X X1 : XD} {r : Int64} (h : fX12_odds x1 x2 X = some (r, X1)) : Ct l E w yX12_odds (wsM yX12_odds cX12_odds 4 (some .long)) (rmX 6 0 0) 0 0 [.ref (w.1 0), .int x1, .int x2] z z Z Z X X1 (some (.long r)) := by
  refine ct_of (by decide) (Nat.le_of_ble_eq_true rfl) ?_
  intro p e s m args below meth c hC hr hin hav
  unfold fX12_odds at h
  refine ww_lv (lv' := [(0, .ref (w.1 0)), (1, .int x1), (2, .int x2)]) rfl ?_
  refine ww_aload_n (pc := 0) hC dX12_odds_0 0 rfl ?_
  refine ww_iload_n (pc := 1) hC dX12_odds_1 1 rfl ?_
  obtain ⟨r2, h1, h⟩ := bnd_i h
  refine ww_callVi (pc := 2) hC [.int x1] hL.1.1 hL.1.2 (by decide) (ceX12_isShooter hL h1) ql_X12_219 qi_X12_isShooter qs_X12_X12_isShooter qn_X12 qc_X12_isShooter rfl ⟨by decide, by decide, rfl⟩ rfl ⟨Nat.le_of_ble_eq_true rfl, Nat.le_of_ble_eq_true rfl⟩ (by decide) (rest := []) (Nat.le_of_ble_eq_true rfl) dX12_odds_2 ⟨Nat.le_of_ble_eq_true rfl, Nat.le_of_ble_eq_true rfl⟩ rfl ?_
  refine ww_if_eq (pc := 5) hC h 18 dX12_odds_5 (by decide) (fun h => ?_) (fun h => ?_)
  · refine ww_ldc2 (pc := 18) hC (v := (-9223372036854775808 : Int64)) dX12_odds_18 qg_X12_351 ?_
    exact ww_lret (pc := 21) hC hr h dX12_odds_21
  · refine ww_aload_n (pc := 8) hC dX12_odds_8 0 rfl ?_
    refine ww_iload_n (pc := 9) hC dX12_odds_9 2 rfl ?_
    refine ww_iconst (pc := 10) hC (v := (0 : Int32)) dX12_odds_10 (by decide) ?_
    refine ww_iconst (pc := 11) hC (v := (1 : Int32)) dX12_odds_11 (by decide) ?_
    obtain ⟨r4, h3, h⟩ := bnd_i h
    refine ww_callVi (pc := 12) hC [.int x2, .int ((0 : Int32)), .int ((1 : Int32))] hL.1.1 hL.1.2 (by decide) (ceX12_in hL h3) ql_X12_215 qi_X12_in qs_X12_X12_in qn_X12 qc_X12_in rfl ⟨by decide, by decide, rfl⟩ rfl ⟨Nat.le_of_ble_eq_true rfl, Nat.le_of_ble_eq_true rfl⟩ (by decide) (rest := []) (Nat.le_of_ble_eq_true rfl) dX12_odds_12 ⟨Nat.le_of_ble_eq_true rfl, Nat.le_of_ble_eq_true rfl⟩ rfl ?_
    refine ww_if_ne (pc := 15) hC h 22 dX12_odds_15 (by decide) (fun h => ?_) (fun h => ?_)
    · refine ww_aload_n (pc := 22) hC dX12_odds_22 0 rfl ?_
      refine ww_iload_n (pc := 23) hC dX12_odds_23 1 rfl ?_
      obtain ⟨r6, X_7, h5, h⟩ := bnw_i h
      refine ww_callVi (pc := 24) hC [.int x1] hL.1.1 hL.1.2 (by decide) (ceX12_note hL h5) ql_X12_296 qi_X12_note qs_X12_X12_note qn_X12 qc_X12_note rfl ⟨by decide, by decide, rfl⟩ rfl ⟨Nat.le_of_ble_eq_true rfl, Nat.le_of_ble_eq_true rfl⟩ (by decide) (rest := []) (Nat.le_of_ble_eq_true rfl) dX12_odds_24 ⟨Nat.le_of_ble_eq_true rfl, Nat.le_of_ble_eq_true rfl⟩ rfl ?_
      refine ww_istore_n (pc := 27) hC [(3, .int r6), (0, .ref (w.1 0)), (1, .int x1), (2, .int x2)] dX12_odds_27 rfl (by decide) rfl ?_
      refine ww_aload_n (pc := 28) hC dX12_odds_28 1 rfl ?_
      refine ww_aload_n (pc := 29) hC dX12_odds_29 1 rfl ?_
      refine ww_iload_n (pc := 30) hC dX12_odds_30 2 rfl ?_
      refine ww_iconst (pc := 31) hC (v := (0 : Int32)) dX12_odds_31 (by decide) ?_
      refine ww_iload_n (pc := 32) hC dX12_odds_32 0 rfl ?_
      obtain ⟨r9, X_10, h8, h⟩ := bnw_i h
      refine ww_callVi (pc := 33) hC [.int x1, .int ((0 : Int32)), .int r6] hL.1.1 hL.1.2 (by decide) (ceX12_chanceOf hL h8) ql_X12_317 qi_X12_chanceOf qs_X12_X12_chanceOf qn_X12 qc_X12_chanceOf rfl ⟨by decide, by decide, rfl⟩ rfl ⟨Nat.le_of_ble_eq_true rfl, Nat.le_of_ble_eq_true rfl⟩ (by decide) (rest := [.ref (w.1 0)]) (Nat.le_of_ble_eq_true rfl) dX12_odds_33 ⟨Nat.le_of_ble_eq_true rfl, Nat.le_of_ble_eq_true rfl⟩ rfl ?_
      refine ww_aload_n (pc := 36) hC dX12_odds_36 1 rfl ?_
      refine ww_iload_n (pc := 37) hC dX12_odds_37 2 rfl ?_
      refine ww_iconst (pc := 38) hC (v := (1 : Int32)) dX12_odds_38 (by decide) ?_
      refine ww_iload_n (pc := 39) hC dX12_odds_39 0 rfl ?_
      obtain ⟨r12, X_13, h11, h⟩ := bnw_i h
      refine ww_callVi (pc := 40) hC [.int x1, .int ((1 : Int32)), .int r6] hL.1.1 hL.1.2 (by decide) (ceX12_chanceOf hL h11) ql_X12_317 qi_X12_chanceOf qs_X12_X12_chanceOf qn_X12 qc_X12_chanceOf rfl ⟨by decide, by decide, rfl⟩ rfl ⟨Nat.le_of_ble_eq_true rfl, Nat.le_of_ble_eq_true rfl⟩ (by decide) (rest := [.int r9, .ref (w.1 0)]) (Nat.le_of_ble_eq_true rfl) dX12_odds_40 ⟨Nat.le_of_ble_eq_true rfl, Nat.le_of_ble_eq_true rfl⟩ rfl ?_
      refine ww_iadd (pc := 43) hC dX12_odds_43 ?_
      refine ww_aload_n (pc := 44) hC dX12_odds_44 1 rfl ?_
      refine ww_iload_n (pc := 45) hC dX12_odds_45 2 rfl ?_
      refine ww_iconst (pc := 46) hC (v := (2 : Int32)) dX12_odds_46 (by decide) ?_
      refine ww_iload_n (pc := 47) hC dX12_odds_47 0 rfl ?_
      obtain ⟨r15, X_16, h14, h⟩ := bnw_i h
      refine ww_callVi (pc := 48) hC [.int x1, .int ((2 : Int32)), .int r6] hL.1.1 hL.1.2 (by decide) (ceX12_chanceOf hL h14) ql_X12_317 qi_X12_chanceOf qs_X12_X12_chanceOf qn_X12 qc_X12_chanceOf rfl ⟨by decide, by decide, rfl⟩ rfl ⟨Nat.le_of_ble_eq_true rfl, Nat.le_of_ble_eq_true rfl⟩ (by decide) (rest := [.int (r9 + r12), .ref (w.1 0)]) (Nat.le_of_ble_eq_true rfl) dX12_odds_48 ⟨Nat.le_of_ble_eq_true rfl, Nat.le_of_ble_eq_true rfl⟩ rfl ?_
      refine ww_iadd (pc := 51) hC dX12_odds_51 ?_
      refine ww_i2l (pc := 52) hC dX12_odds_52 ?_
      refine ww_ldc2 (pc := 53) hC (v := (300 : Int64)) dX12_odds_53 qg_X12_375 ?_
      refine ww_iload_n (pc := 56) hC dX12_odds_56 3 rfl ?_
      obtain ⟨r18, h17, h⟩ := bnd_i h
      refine ww_callVl (pc := 57) hC [.long (((r9 + r12) + r15).toInt64), .long ((300 : Int64)), .int x2] hL.1.1 hL.1.2 (by decide) (ceX12_lowest hL h17) ql_X12_360 qi_X12_lowest qs_X12_X12_lowest qn_X12 qc_X12_lowest rfl ⟨by decide, by decide, rfl⟩ rfl ⟨Nat.le_of_ble_eq_true rfl, Nat.le_of_ble_eq_true rfl⟩ (by decide) (rest := []) (Nat.le_of_ble_eq_true rfl) dX12_odds_57 ⟨Nat.le_of_ble_eq_true rfl, Nat.le_of_ble_eq_true rfl⟩ rfl ?_
      exact ww_lret (pc := 60) hC hr h dX12_odds_60
    · refine ww_ldc2 (pc := 18) hC (v := (-9223372036854775808 : Int64)) dX12_odds_18 qg_X12_351 ?_
      exact ww_lret (pc := 21) hC hr h dX12_odds_21
noncomputable def fX12_mean_26 (n : Nat) : Int32 → Int64 → Int32 → XD → Option (Int64 × XD) := Nat.rec (motive := fun _ => Int32 → Int64 → Int32 → XD → Option (Int64 × XD)) (fun _ _ _ _ => none) (fun _ f => fun x1 x2 x4 X => if (X.1 0 0) ≤ x4 then bnd (fX12_lowest x2 ((X.1 0 0).toInt64) x1 X) (fun r4 => some (r4, X)) else bnw (fX12_chanceNow x4 X) (fun r6 X_7 => nm (x2 + r6.toInt64) (fun y8 => nm (x4 + (1 : Int32)) (fun y9 => f x1 y8 y9 X_7)))) n
theorem fX12_mean_26_s (n : Nat) (x1 : Int32) (x2 : Int64) (x4 : Int32) (X : XD) : fX12_mean_26 (n + 1) x1 x2 x4 X = if (X.1 0 0) ≤ x4 then bnd (fX12_lowest x2 ((X.1 0 0).toInt64) x1 X) (fun r4 => some (r4, X)) else bnw (fX12_chanceNow x4 X) (fun r6 X_7 => nm (x2 + r6.toInt64) (fun y8 => nm (x4 + (1 : Int32)) (fun y9 => (fX12_mean_26 n) x1 y8 y9 X_7))) := rfl
noncomputable def fX12_mean (x1 : Int32) (X : XD) : Option (Int64 × XD) := bnd (fX12_in x1 ((0 : Int32)) ((1 : Int32)) X) (fun r2 => if r2 = 0 then some ((-9223372036854775808 : Int64), X) else if (X.1 0 0) = 0 then some ((-9223372036854775808 : Int64), X) else fX12_mean_26 FU x1 ((0 : Int64)) ((0 : Int32)) X)
set_option maxHeartbeats 40000000 in
set_option maxRecDepth 100000 in
theorem ceX12_mean {l : Launch} {E : XE} {w : XW} {z : Nat} {Z : XS} (hL : LayM Z) {x1 : Int32} {X X1 : XD} {r : Int64} (h : fX12_mean x1 X = some (r, X1)) : Ct l E w yX12_mean (wsM yX12_mean cX12_mean 5 (some .long)) (rmX 8 0 0) 0 0 [.ref (w.1 0), .int x1] z z Z Z X X1 (some (.long r)) := by
  refine ct_of (by decide) (Nat.le_of_ble_eq_true rfl) ?_
  intro p e s m args below meth c hC hr hin hav
  have j26 : ∀ (n : Nat), ∀ (x1 : Int32) (x2 : Int64) (x4 : Int32) (X : XD), fX12_mean_26 n x1 x2 x4 X = some (r, X1) → WW p l e (rmX 8 0 0) s m args below meth c 5 (MQ below (XQ E w z Z X1 (some (.long r))) args s 0 0 (A0 E)) E w 0 0 z Z 26 [(0, .ref (w.1 0)), (1, .int x1), (2, .long x2), (4, .int x4)] [] X := by
    intro n
    induction n with
    | zero =>
      intro x1 x2 x4 X h
      cases (show none = some (r, X1) from h)
    | succ n ih =>
      intro x1 x2 x4 X h
      rw [fX12_mean_26_s] at h
      refine ww_iload (pc := 26) hC dX12_mean_26 3 rfl ?_
      refine ww_aload_n (pc := 28) hC dX12_mean_28 0 rfl ?_
      refine ww_getI (pc := 29) hC 12 0 hL.1 RX12 (by decide) (by decide) rfl qf_X12_7 (Or.inl rfl) dX12_mean_29 ?_
      refine ww_icmp_ge (pc := 32) hC h 51 dX12_mean_32 (by decide) (fun h => ?_) (fun h => ?_)
      · refine ww_aload_n (pc := 51) hC dX12_mean_51 0 rfl ?_
        refine ww_lload_n (pc := 52) hC dX12_mean_52 2 rfl ?_
        refine ww_aload_n (pc := 53) hC dX12_mean_53 0 rfl ?_
        refine ww_getI (pc := 54) hC 12 0 hL.1 RX12 (by decide) (by decide) rfl qf_X12_7 (Or.inl rfl) dX12_mean_54 ?_
        refine ww_i2l (pc := 57) hC dX12_mean_57 ?_
        refine ww_iload_n (pc := 58) hC dX12_mean_58 1 rfl ?_
        obtain ⟨r4, h3, h⟩ := bnd_i h
        refine ww_callVl (pc := 59) hC [.long x2, .long ((X.1 0 0).toInt64), .int x1] hL.1.1 hL.1.2 (by decide) (ceX12_lowest hL h3) ql_X12_360 qi_X12_lowest qs_X12_X12_lowest qn_X12 qc_X12_lowest rfl ⟨by decide, by decide, rfl⟩ rfl ⟨Nat.le_of_ble_eq_true rfl, Nat.le_of_ble_eq_true rfl⟩ (by decide) (rest := []) (Nat.le_of_ble_eq_true rfl) dX12_mean_59 ⟨Nat.le_of_ble_eq_true rfl, Nat.le_of_ble_eq_true rfl⟩ rfl ?_
        exact ww_lret (pc := 62) hC hr h dX12_mean_62
      · refine ww_lload_n (pc := 35) hC dX12_mean_35 2 rfl ?_
        refine ww_aload_n (pc := 36) hC dX12_mean_36 0 rfl ?_
        refine ww_iload (pc := 37) hC dX12_mean_37 3 rfl ?_
        obtain ⟨r6, X_7, h5, h⟩ := bnw_i h
        refine ww_callVi (pc := 39) hC [.int x4] hL.1.1 hL.1.2 (by decide) (ceX12_chanceNow hL h5) ql_X12_323 qi_X12_chanceNow qs_X12_X12_chanceNow qn_X12 qc_X12_chanceNow rfl ⟨by decide, by decide, rfl⟩ rfl ⟨Nat.le_of_ble_eq_true rfl, Nat.le_of_ble_eq_true rfl⟩ (by decide) (rest := [.long x2]) (Nat.le_of_ble_eq_true rfl) dX12_mean_39 ⟨Nat.le_of_ble_eq_true rfl, Nat.le_of_ble_eq_true rfl⟩ rfl ?_
        refine ww_i2l (pc := 42) hC dX12_mean_42 ?_
        refine ww_ladd (pc := 43) hC dX12_mean_43 ?_
        obtain ⟨y8, ey8⟩ : ∃ q, q = x2 + r6.toInt64 := ⟨_, rfl⟩
        replace h := nm_i h ey8
        refine ww_nml ey8 ?_
        refine ww_lstore_n (pc := 44) hC [(2, .long y8), (0, .ref (w.1 0)), (1, .int x1), (4, .int x4)] dX12_mean_44 rfl (by decide) rfl ?_
        obtain ⟨y9, ey9⟩ : ∃ q, q = x4 + (1 : Int32) := ⟨_, rfl⟩
        replace h := nm_i h ey9
        refine ww_iinc (pc := 45) hC y9 [(4, .int y9), (2, .long y8), (0, .ref (w.1 0)), (1, .int x1)] dX12_mean_45 3 rfl (by rw [ey9]; rfl) (by decide) rfl ?_
        refine ww_goto (pc := 48) hC 26 dX12_mean_48 (by decide) ?_
        refine ww_sub [2, 3, 1, 0] rfl ?_
        exact ih _ _ _ _ h
  unfold fX12_mean at h
  refine ww_lv (lv' := [(0, .ref (w.1 0)), (1, .int x1)]) rfl ?_
  refine ww_aload_n (pc := 0) hC dX12_mean_0 0 rfl ?_
  refine ww_iload_n (pc := 1) hC dX12_mean_1 1 rfl ?_
  refine ww_iconst (pc := 2) hC (v := (0 : Int32)) dX12_mean_2 (by decide) ?_
  refine ww_iconst (pc := 3) hC (v := (1 : Int32)) dX12_mean_3 (by decide) ?_
  obtain ⟨r2, h1, h⟩ := bnd_i h
  refine ww_callVi (pc := 4) hC [.int x1, .int ((0 : Int32)), .int ((1 : Int32))] hL.1.1 hL.1.2 (by decide) (ceX12_in hL h1) ql_X12_215 qi_X12_in qs_X12_X12_in qn_X12 qc_X12_in rfl ⟨by decide, by decide, rfl⟩ rfl ⟨Nat.le_of_ble_eq_true rfl, Nat.le_of_ble_eq_true rfl⟩ (by decide) (rest := []) (Nat.le_of_ble_eq_true rfl) dX12_mean_4 ⟨Nat.le_of_ble_eq_true rfl, Nat.le_of_ble_eq_true rfl⟩ rfl ?_
  refine ww_if_eq (pc := 7) hC h 17 dX12_mean_7 (by decide) (fun h => ?_) (fun h => ?_)
  · refine ww_ldc2 (pc := 17) hC (v := (-9223372036854775808 : Int64)) dX12_mean_17 qg_X12_351 ?_
    exact ww_lret (pc := 20) hC hr h dX12_mean_20
  · refine ww_aload_n (pc := 10) hC dX12_mean_10 0 rfl ?_
    refine ww_getI (pc := 11) hC 12 0 hL.1 RX12 (by decide) (by decide) rfl qf_X12_7 (Or.inl rfl) dX12_mean_11 ?_
    refine ww_if_ne (pc := 14) hC h 21 dX12_mean_14 (by decide) (fun h => ?_) (fun h => ?_)
    · refine ww_lconst (pc := 21) hC (v := (0 : Int64)) dX12_mean_21 (by decide) ?_
      refine ww_lstore_n (pc := 22) hC [(2, .long ((0 : Int64))), (0, .ref (w.1 0)), (1, .int x1)] dX12_mean_22 rfl (by decide) rfl ?_
      refine ww_iconst (pc := 23) hC (v := (0 : Int32)) dX12_mean_23 (by decide) ?_
      refine ww_istore (pc := 24) hC [(4, .int ((0 : Int32))), (2, .long ((0 : Int64))), (0, .ref (w.1 0)), (1, .int x1)] dX12_mean_24  (by decide) rfl ?_
      refine ww_sub [2, 3, 1, 0] rfl ?_
      exact j26 _ _ _ _ _ h
    · refine ww_ldc2 (pc := 17) hC (v := (-9223372036854775808 : Int64)) dX12_mean_17 qg_X12_351 ?_
      exact ww_lret (pc := 20) hC hr h dX12_mean_20
noncomputable def fX12_book (x1 : Int32) (x2 : Int32) (X : XD) : Option (Int32 × XD) := if x1 = ((-1 : Int32)) then nm (wI X 0 40 ((0 : Int32))) (fun X_8 => some ((0 : Int32), X_8)) else bnd (fX12_isShooter x1 X) (fun r2 => if r2 = 0 then some ((-1 : Int32), X) else bnd (fX12_in x2 ((0 : Int32)) ((99 : Int32)) X) (fun r4 => if r4 = 0 then some ((-2 : Int32), X) else if (X.1 0 40) = ((10 : Int32)) then some ((-4 : Int32), X) else gin (X.1 0 40) 10 (nm (wI X 26 (X.1 0 40).toNatClampNeg x1) (fun X_5 => gin (X_5.1 0 40) 10 (nm (wI X_5 27 (X_5.1 0 40).toNatClampNeg x2) (fun X_6 => nm (wI X_6 0 40 ((X_6.1 0 40) + ((1 : Int32)))) (fun X_7 => some (X_7.1 0 40, X_7))))))))
set_option maxHeartbeats 40000000 in
set_option maxRecDepth 100000 in
theorem ceX12_book {l : Launch} {E : XE} {w : XW} {z : Nat} {Z : XS} (hL : LayM Z) {x1 : Int32} {x2 : Int32} {X X1 : XD} {r : Int32} (h : fX12_book x1 x2 X = some (r, X1)) : Ct l E w yX12_book (wsM yX12_book cX12_book 3 (some .int)) (rmX 3 0 0) 0 0 [.ref (w.1 0), .int x1, .int x2] z z Z Z X X1 (some (.int r)) := by
  refine ct_of (by decide) (Nat.le_of_ble_eq_true rfl) ?_
  intro p e s m args below meth c hC hr hin hav
  unfold fX12_book at h
  refine ww_lv (lv' := [(0, .ref (w.1 0)), (1, .int x1), (2, .int x2)]) rfl ?_
  refine ww_iload_n (pc := 0) hC dX12_book_0 1 rfl ?_
  refine ww_iconst (pc := 1) hC (v := (-1 : Int32)) dX12_book_1 (by decide) ?_
  refine ww_icmp_ne (pc := 2) hC h 12 dX12_book_2 (by decide) (fun h => ?_) (fun h => ?_)
  · refine ww_aload_n (pc := 12) hC dX12_book_12 0 rfl ?_
    refine ww_iload_n (pc := 13) hC dX12_book_13 1 rfl ?_
    obtain ⟨r2, h1, h⟩ := bnd_i h
    refine ww_callVi (pc := 14) hC [.int x1] hL.1.1 hL.1.2 (by decide) (ceX12_isShooter hL h1) ql_X12_219 qi_X12_isShooter qs_X12_X12_isShooter qn_X12 qc_X12_isShooter rfl ⟨by decide, by decide, rfl⟩ rfl ⟨Nat.le_of_ble_eq_true rfl, Nat.le_of_ble_eq_true rfl⟩ (by decide) (rest := []) (Nat.le_of_ble_eq_true rfl) dX12_book_14 ⟨Nat.le_of_ble_eq_true rfl, Nat.le_of_ble_eq_true rfl⟩ rfl ?_
    refine ww_if_ne (pc := 17) hC h 22 dX12_book_17 (by decide) (fun h => ?_) (fun h => ?_)
    · refine ww_aload_n (pc := 22) hC dX12_book_22 0 rfl ?_
      refine ww_iload_n (pc := 23) hC dX12_book_23 2 rfl ?_
      refine ww_iconst (pc := 24) hC (v := (0 : Int32)) dX12_book_24 (by decide) ?_
      refine ww_bipush (pc := 25) hC (v := (99 : Int32)) dX12_book_25 (by decide) ?_
      obtain ⟨r4, h3, h⟩ := bnd_i h
      refine ww_callVi (pc := 27) hC [.int x2, .int ((0 : Int32)), .int ((99 : Int32))] hL.1.1 hL.1.2 (by decide) (ceX12_in hL h3) ql_X12_215 qi_X12_in qs_X12_X12_in qn_X12 qc_X12_in rfl ⟨by decide, by decide, rfl⟩ rfl ⟨Nat.le_of_ble_eq_true rfl, Nat.le_of_ble_eq_true rfl⟩ (by decide) (rest := []) (Nat.le_of_ble_eq_true rfl) dX12_book_27 ⟨Nat.le_of_ble_eq_true rfl, Nat.le_of_ble_eq_true rfl⟩ rfl ?_
      refine ww_if_ne (pc := 30) hC h 36 dX12_book_30 (by decide) (fun h => ?_) (fun h => ?_)
      · refine ww_aload_n (pc := 36) hC dX12_book_36 0 rfl ?_
        refine ww_getI (pc := 37) hC 12 40 hL.1 RX12 (by decide) (by decide) rfl qf_X12_133 (Or.inl rfl) dX12_book_37 ?_
        refine ww_bipush (pc := 40) hC (v := (10 : Int32)) dX12_book_40 (by decide) ?_
        refine ww_icmp_ne (pc := 42) hC h 48 dX12_book_42 (by decide) (fun h => ?_) (fun h => ?_)
        · refine ww_aload_n (pc := 48) hC dX12_book_48 0 rfl ?_
          refine ww_getR (pc := 49) hC 12 41 26 hL.1 RX12 (by decide) (by decide) rfl (lay_12_41 hL).1 qf_X12_136 rfl dX12_book_49 ?_
          refine ww_aload_n (pc := 52) hC dX12_book_52 0 rfl ?_
          refine ww_getI (pc := 53) hC 12 40 hL.1 RX12 (by decide) (by decide) rfl qf_X12_133 (Or.inl rfl) dX12_book_53 ?_
          refine ww_iload_n (pc := 56) hC dX12_book_56 1 rfl ?_
          refine ww_iast (pc := 57) hC ((lay_12_41 hL).2) h dX12_book_57 (fun h => ?_)
          obtain ⟨X_5, eX_5⟩ : ∃ q, q = wI X 26 (X.1 0 40).toNatClampNeg x1 := ⟨_, rfl⟩
          replace h := nm_i h eX_5
          refine ww_nmX eX_5 ?_
          refine ww_aload_n (pc := 58) hC dX12_book_58 0 rfl ?_
          refine ww_getR (pc := 59) hC 12 42 27 hL.1 RX12 (by decide) (by decide) rfl (lay_12_42 hL).1 qf_X12_139 rfl dX12_book_59 ?_
          refine ww_aload_n (pc := 62) hC dX12_book_62 0 rfl ?_
          refine ww_getI (pc := 63) hC 12 40 hL.1 RX12 (by decide) (by decide) rfl qf_X12_133 (Or.inl rfl) dX12_book_63 ?_
          refine ww_iload_n (pc := 66) hC dX12_book_66 2 rfl ?_
          refine ww_iast (pc := 67) hC ((lay_12_42 hL).2) h dX12_book_67 (fun h => ?_)
          obtain ⟨X_6, eX_6⟩ : ∃ q, q = wI X_5 27 (X_5.1 0 40).toNatClampNeg x2 := ⟨_, rfl⟩
          replace h := nm_i h eX_6
          refine ww_nmX eX_6 ?_
          refine ww_aload_n (pc := 68) hC dX12_book_68 0 rfl ?_
          refine ww_dup (pc := 69) hC dX12_book_69 rfl ?_
          refine ww_getI (pc := 70) hC 12 40 hL.1 RX12 (by decide) (by decide) rfl qf_X12_133 (Or.inl rfl) dX12_book_70 ?_
          refine ww_iconst (pc := 73) hC (v := (1 : Int32)) dX12_book_73 (by decide) ?_
          refine ww_iadd (pc := 74) hC dX12_book_74 ?_
          refine ww_putI (pc := 75) hC 12 40 hL.1 RX12 (by decide) (by decide) rfl qf_X12_133 rfl rfl rfl rfl dX12_book_75 ?_
          obtain ⟨X_7, eX_7⟩ : ∃ q, q = wI X_6 0 40 ((X_6.1 0 40) + ((1 : Int32))) := ⟨_, rfl⟩
          replace h := nm_i h eX_7
          refine ww_nmX eX_7 ?_
          refine ww_aload_n (pc := 78) hC dX12_book_78 0 rfl ?_
          refine ww_getI (pc := 79) hC 12 40 hL.1 RX12 (by decide) (by decide) rfl qf_X12_133 (Or.inl rfl) dX12_book_79 ?_
          exact ww_iret (pc := 82) hC hr h dX12_book_82
        · refine ww_bipush (pc := 45) hC (v := (-4 : Int32)) dX12_book_45 (by decide) ?_
          exact ww_iret (pc := 47) hC hr h dX12_book_47
      · refine ww_bipush (pc := 33) hC (v := (-2 : Int32)) dX12_book_33 (by decide) ?_
        exact ww_iret (pc := 35) hC hr h dX12_book_35
    · refine ww_iconst (pc := 20) hC (v := (-1 : Int32)) dX12_book_20 (by decide) ?_
      exact ww_iret (pc := 21) hC hr h dX12_book_21
  · refine ww_aload_n (pc := 5) hC dX12_book_5 0 rfl ?_
    refine ww_iconst (pc := 6) hC (v := (0 : Int32)) dX12_book_6 (by decide) ?_
    refine ww_putI (pc := 7) hC 12 40 hL.1 RX12 (by decide) (by decide) rfl qf_X12_133 rfl rfl rfl rfl dX12_book_7 ?_
    obtain ⟨X_8, eX_8⟩ : ∃ q, q = wI X 0 40 ((0 : Int32)) := ⟨_, rfl⟩
    replace h := nm_i h eX_8
    refine ww_nmX eX_8 ?_
    refine ww_iconst (pc := 10) hC (v := (0 : Int32)) dX12_book_10 (by decide) ?_
    exact ww_iret (pc := 11) hC hr h dX12_book_11
noncomputable def fX12_looked_69 (k9 : Int32 → Int32 → XD → Option (Int32 × XD)) (x2 : Int32) (s0 : Int32) (X : XD) : Option (Int32 × XD) := nm (x2 + (1 : Int32)) (fun y13 => k9 s0 y13 X)
noncomputable def fX12_looked_45 (k9 : Int32 → Int32 → XD → Option (Int32 × XD)) (x2 : Int32) (s0 : Int32) (X : XD) : Option (Int32 × XD) := gin x2 10 (bnw (fX12_goes (X.1 26 (x2).toNatClampNeg) s0 X) (fun r11 X_12 => if s0 = 0 then fX12_looked_69 k9 x2 x2 X_12 else fX12_looked_69 k9 x2 ((-5 : Int32)) X_12))
noncomputable def fX12_looked_76 (x1 : Int32) (X : XD) : Option (Int32 × XD) := bnw (fX12_putBack X) (fun _ X_9 => some (x1, X_9))
noncomputable def fX12_looked_9 (n : Nat) : Int32 → Int32 → XD → Option (Int32 × XD) := Nat.rec (motive := fun _ => Int32 → Int32 → XD → Option (Int32 × XD)) (fun _ _ _ => none) (fun _ f => fun x1 x2 X => if (X.1 0 40) ≤ x2 then fX12_looked_76 x1 X else if 0 ≤ x1 then fX12_looked_76 x1 X else gin x2 10 (gin x2 10 (bnw (fX12_chanceNow (X.1 26 (x2).toNatClampNeg) X) (fun r5 X_6 => if r5 ≤ (X.1 27 (x2).toNatClampNeg) then fX12_looked_45 (f) x2 ((0 : Int32)) X_6 else fX12_looked_45 (f) x2 ((1 : Int32)) X_6)))) n
theorem fX12_looked_9_s (n : Nat) (x1 : Int32) (x2 : Int32) (X : XD) : fX12_looked_9 (n + 1) x1 x2 X = if (X.1 0 40) ≤ x2 then fX12_looked_76 x1 X else if 0 ≤ x1 then fX12_looked_76 x1 X else gin x2 10 (gin x2 10 (bnw (fX12_chanceNow (X.1 26 (x2).toNatClampNeg) X) (fun r5 X_6 => if r5 ≤ (X.1 27 (x2).toNatClampNeg) then fX12_looked_45 ((fX12_looked_9 n)) x2 ((0 : Int32)) X_6 else fX12_looked_45 ((fX12_looked_9 n)) x2 ((1 : Int32)) X_6))) := rfl
noncomputable def fX12_looked (X : XD) : Option (Int32 × XD) := bnw (fX12_save X) (fun _ X_3 => fX12_looked_9 FU ((-5 : Int32)) ((0 : Int32)) X_3)
set_option maxHeartbeats 40000000 in
set_option maxRecDepth 100000 in
theorem ceX12_looked {l : Launch} {E : XE} {w : XW} {z : Nat} {Z : XS} (hL : LayM Z) {X X1 : XD} {r : Int32} (h : fX12_looked X = some (r, X1)) : Ct l E w yX12_looked (wsM yX12_looked cX12_looked 5 (some .int)) (rmX 8 0 0) 0 0 [.ref (w.1 0)] z z Z Z X X1 (some (.int r)) := by
  refine ct_of (by decide) (Nat.le_of_ble_eq_true rfl) ?_
  intro p e s m args below meth c hC hr hin hav
  have j69 : ∀ (k9 : Int32 → Int32 → XD → Option (Int32 × XD)) (hk9 : ∀ (x1 : Int32) (x2 : Int32) (X : XD), k9 x1 x2 X = some (r, X1) → WW p l e (rmX 8 0 0) s m args below meth c 5 (MQ below (XQ E w z Z X1 (some (.int r))) args s 0 0 (A0 E)) E w 0 0 z Z 9 [(0, .ref (w.1 0)), (1, .int x1), (2, .int x2)] [] X), ∀ (x2 : Int32) (s0 : Int32) (X : XD), fX12_looked_69 k9 x2 s0 X = some (r, X1) → WW p l e (rmX 8 0 0) s m args below meth c 5 (MQ below (XQ E w z Z X1 (some (.int r))) args s 0 0 (A0 E)) E w 0 0 z Z 69 [(0, .ref (w.1 0)), (2, .int x2)] [.int s0] X := by
    intro k9 hk9 x2 s0 X h
    unfold fX12_looked_69 at h
    refine ww_istore_n (pc := 69) hC [(1, .int s0), (0, .ref (w.1 0)), (2, .int x2)] dX12_looked_69 rfl (by decide) rfl ?_
    obtain ⟨y13, ey13⟩ : ∃ q, q = x2 + (1 : Int32) := ⟨_, rfl⟩
    replace h := nm_i h ey13
    refine ww_iinc (pc := 70) hC y13 [(2, .int y13), (1, .int s0), (0, .ref (w.1 0))] dX12_looked_70 2 rfl (by rw [ey13]; rfl) (by decide) rfl ?_
    refine ww_goto (pc := 73) hC 9 dX12_looked_73 (by decide) ?_
    refine ww_sub [2, 1, 0] rfl ?_
    exact hk9 _ _ _ h
  have j45 : ∀ (k9 : Int32 → Int32 → XD → Option (Int32 × XD)) (hk9 : ∀ (x1 : Int32) (x2 : Int32) (X : XD), k9 x1 x2 X = some (r, X1) → WW p l e (rmX 8 0 0) s m args below meth c 5 (MQ below (XQ E w z Z X1 (some (.int r))) args s 0 0 (A0 E)) E w 0 0 z Z 9 [(0, .ref (w.1 0)), (1, .int x1), (2, .int x2)] [] X), ∀ (x2 : Int32) (s0 : Int32) (X : XD), fX12_looked_45 k9 x2 s0 X = some (r, X1) → WW p l e (rmX 8 0 0) s m args below meth c 5 (MQ below (XQ E w z Z X1 (some (.int r))) args s 0 0 (A0 E)) E w 0 0 z Z 45 [(0, .ref (w.1 0)), (2, .int x2)] [.int s0] X := by
    intro k9 hk9 x2 s0 X h
    unfold fX12_looked_45 at h
    refine ww_istore_n (pc := 45) hC [(3, .int s0), (0, .ref (w.1 0)), (2, .int x2)] dX12_looked_45 rfl (by decide) rfl ?_
    refine ww_aload_n (pc := 46) hC dX12_looked_46 1 rfl ?_
    refine ww_aload_n (pc := 47) hC dX12_looked_47 1 rfl ?_
    refine ww_getR (pc := 48) hC 12 41 26 hL.1 RX12 (by decide) (by decide) rfl (lay_12_41 hL).1 qf_X12_136 rfl dX12_looked_48 ?_
    refine ww_iload_n (pc := 51) hC dX12_looked_51 2 rfl ?_
    refine ww_iald (pc := 52) hC ((lay_12_41 hL).2) h dX12_looked_52 (fun h => ?_)
    refine ww_iload_n (pc := 53) hC dX12_looked_53 0 rfl ?_
    obtain ⟨r11, X_12, h10, h⟩ := bnw_i h
    refine ww_callVi (pc := 54) hC [.int (X.1 26 (x2).toNatClampNeg), .int s0] hL.1.1 hL.1.2 (by decide) (ceX12_goes hL h10) ql_X12_326 qi_X12_goes qs_X12_X12_goes qn_X12 qc_X12_goes rfl ⟨by decide, by decide, rfl⟩ rfl ⟨Nat.le_of_ble_eq_true rfl, Nat.le_of_ble_eq_true rfl⟩ (by decide) (rest := []) (Nat.le_of_ble_eq_true rfl) dX12_looked_54 ⟨Nat.le_of_ble_eq_true rfl, Nat.le_of_ble_eq_true rfl⟩ rfl ?_
    refine ww_istore (pc := 57) hC [(4, .int r11), (3, .int s0), (0, .ref (w.1 0)), (2, .int x2)] dX12_looked_57  (by decide) rfl ?_
    refine ww_iload_n (pc := 59) hC dX12_looked_59 1 rfl ?_
    refine ww_if_eq (pc := 60) hC h 68 dX12_looked_60 (by decide) (fun h => ?_) (fun h => ?_)
    · refine ww_iload_n (pc := 68) hC dX12_looked_68 3 rfl ?_
      refine ww_sub [2, 3] rfl ?_
      exact j69 _ hk9 _ _ _ h
    · refine ww_bipush (pc := 63) hC (v := (-5 : Int32)) dX12_looked_63 (by decide) ?_
      refine ww_goto (pc := 65) hC 69 dX12_looked_65 (by decide) ?_
      refine ww_sub [2, 3] rfl ?_
      exact j69 _ hk9 _ _ _ h
  have j76 : ∀ (x1 : Int32) (X : XD), fX12_looked_76 x1 X = some (r, X1) → WW p l e (rmX 8 0 0) s m args below meth c 5 (MQ below (XQ E w z Z X1 (some (.int r))) args s 0 0 (A0 E)) E w 0 0 z Z 76 [(0, .ref (w.1 0)), (1, .int x1)] [] X := by
    intro x1 X h
    unfold fX12_looked_76 at h
    refine ww_aload_n (pc := 76) hC dX12_looked_76 0 rfl ?_
    obtain ⟨_, X_9, h7, h⟩ := bnw_i h
    refine ww_callVv (pc := 77) hC [] hL.1.1 hL.1.2 (by decide) (ceX12_putBack hL h7) ql_X12_339 qi_X12_putBack qs_X12_X12_putBack qn_X12 qc_X12_putBack rfl ⟨by decide, by decide, rfl⟩ rfl ⟨Nat.le_of_ble_eq_true rfl, Nat.le_of_ble_eq_true rfl⟩ (by decide) (rest := []) (Nat.le_of_ble_eq_true rfl) dX12_looked_77 ⟨Nat.le_of_ble_eq_true rfl, Nat.le_of_ble_eq_true rfl⟩ rfl ?_
    refine ww_iload_n (pc := 80) hC dX12_looked_80 1 rfl ?_
    exact ww_iret (pc := 81) hC hr h dX12_looked_81
  have j9 : ∀ (n : Nat), ∀ (x1 : Int32) (x2 : Int32) (X : XD), fX12_looked_9 n x1 x2 X = some (r, X1) → WW p l e (rmX 8 0 0) s m args below meth c 5 (MQ below (XQ E w z Z X1 (some (.int r))) args s 0 0 (A0 E)) E w 0 0 z Z 9 [(0, .ref (w.1 0)), (1, .int x1), (2, .int x2)] [] X := by
    intro n
    induction n with
    | zero =>
      intro x1 x2 X h
      cases (show none = some (r, X1) from h)
    | succ n ih =>
      intro x1 x2 X h
      rw [fX12_looked_9_s] at h
      refine ww_iload_n (pc := 9) hC dX12_looked_9 2 rfl ?_
      refine ww_aload_n (pc := 10) hC dX12_looked_10 0 rfl ?_
      refine ww_getI (pc := 11) hC 12 40 hL.1 RX12 (by decide) (by decide) rfl qf_X12_133 (Or.inl rfl) dX12_looked_11 ?_
      refine ww_icmp_ge (pc := 14) hC h 76 dX12_looked_14 (by decide) (fun h => ?_) (fun h => ?_)
      · refine ww_sub [0, 1] rfl ?_
        exact j76 _ _ h
      · refine ww_iload_n (pc := 17) hC dX12_looked_17 1 rfl ?_
        refine ww_if_ge (pc := 18) hC h 76 dX12_looked_18 (by decide) (fun h => ?_) (fun h => ?_)
        · refine ww_sub [0, 1] rfl ?_
          exact j76 _ _ h
        · refine ww_aload_n (pc := 21) hC dX12_looked_21 0 rfl ?_
          refine ww_getR (pc := 22) hC 12 42 27 hL.1 RX12 (by decide) (by decide) rfl (lay_12_42 hL).1 qf_X12_139 rfl dX12_looked_22 ?_
          refine ww_iload_n (pc := 25) hC dX12_looked_25 2 rfl ?_
          refine ww_iald (pc := 26) hC ((lay_12_42 hL).2) h dX12_looked_26 (fun h => ?_)
          refine ww_aload_n (pc := 27) hC dX12_looked_27 0 rfl ?_
          refine ww_aload_n (pc := 28) hC dX12_looked_28 0 rfl ?_
          refine ww_getR (pc := 29) hC 12 41 26 hL.1 RX12 (by decide) (by decide) rfl (lay_12_41 hL).1 qf_X12_136 rfl dX12_looked_29 ?_
          refine ww_iload_n (pc := 32) hC dX12_looked_32 2 rfl ?_
          refine ww_iald (pc := 33) hC ((lay_12_41 hL).2) h dX12_looked_33 (fun h => ?_)
          obtain ⟨r5, X_6, h4, h⟩ := bnw_i h
          refine ww_callVi (pc := 34) hC [.int (X.1 26 (x2).toNatClampNeg)] hL.1.1 hL.1.2 (by decide) (ceX12_chanceNow hL h4) ql_X12_323 qi_X12_chanceNow qs_X12_X12_chanceNow qn_X12 qc_X12_chanceNow rfl ⟨by decide, by decide, rfl⟩ rfl ⟨Nat.le_of_ble_eq_true rfl, Nat.le_of_ble_eq_true rfl⟩ (by decide) (rest := [.int (X.1 27 (x2).toNatClampNeg)]) (Nat.le_of_ble_eq_true rfl) dX12_looked_34 ⟨Nat.le_of_ble_eq_true rfl, Nat.le_of_ble_eq_true rfl⟩ rfl ?_
          refine ww_icmp_ge (pc := 37) hC h 44 dX12_looked_37 (by decide) (fun h => ?_) (fun h => ?_)
          · refine ww_iconst (pc := 44) hC (v := (0 : Int32)) dX12_looked_44 (by decide) ?_
            refine ww_sub [0, 2] rfl ?_
            exact j45 _ ih _ _ _ h
          · refine ww_iconst (pc := 40) hC (v := (1 : Int32)) dX12_looked_40 (by decide) ?_
            refine ww_goto (pc := 41) hC 45 dX12_looked_41 (by decide) ?_
            refine ww_sub [0, 2] rfl ?_
            exact j45 _ ih _ _ _ h
  unfold fX12_looked at h
  refine ww_lv (lv' := [(0, .ref (w.1 0))]) rfl ?_
  refine ww_aload_n (pc := 0) hC dX12_looked_0 0 rfl ?_
  obtain ⟨_, X_3, h1, h⟩ := bnw_i h
  refine ww_callVv (pc := 1) hC [] hL.1.1 hL.1.2 (by decide) (ceX12_save hL h1) ql_X12_333 qi_X12_save qs_X12_X12_save qn_X12 qc_X12_save rfl ⟨by decide, by decide, rfl⟩ rfl ⟨Nat.le_of_ble_eq_true rfl, Nat.le_of_ble_eq_true rfl⟩ (by decide) (rest := []) (Nat.le_of_ble_eq_true rfl) dX12_looked_1 ⟨Nat.le_of_ble_eq_true rfl, Nat.le_of_ble_eq_true rfl⟩ rfl ?_
  refine ww_bipush (pc := 4) hC (v := (-5 : Int32)) dX12_looked_4 (by decide) ?_
  refine ww_istore_n (pc := 6) hC [(1, .int ((-5 : Int32))), (0, .ref (w.1 0))] dX12_looked_6 rfl (by decide) rfl ?_
  refine ww_iconst (pc := 7) hC (v := (0 : Int32)) dX12_looked_7 (by decide) ?_
  refine ww_istore_n (pc := 8) hC [(2, .int ((0 : Int32))), (1, .int ((-5 : Int32))), (0, .ref (w.1 0))] dX12_looked_8 rfl (by decide) rfl ?_
  refine ww_sub [2, 1, 0] rfl ?_
  exact j9 _ _ _ _ h
noncomputable def fX12_isTape (x1 : Int32) (X : XD) : Option Int32 := bnd (fX12_in x1 ((0 : Int32)) ((5 : Int32)) X) (fun r2 => gb r2 (some r2))
set_option maxHeartbeats 40000000 in
set_option maxRecDepth 100000 in
theorem ceX12_isTape {l : Launch} {E : XE} {w : XW} {z : Nat} {Z : XS} (hL : LayM Z) {x1 : Int32} {X : XD} {r : Int32} (h : fX12_isTape x1 X = some r) : Ct l E w yX12_isTape (wsM yX12_isTape cX12_isTape 2 (some .boolean)) (rmX 2 0 0) 0 0 [.ref (w.1 0), .int x1] z z Z Z X X (some (.int r)) := by
  refine ct_of (by decide) (Nat.le_of_ble_eq_true rfl) ?_
  intro p e s m args below meth c hC hr hin hav
  unfold fX12_isTape at h
  refine ww_lv (lv' := [(0, .ref (w.1 0)), (1, .int x1)]) rfl ?_
  refine ww_aload_n (pc := 0) hC dX12_isTape_0 0 rfl ?_
  refine ww_iload_n (pc := 1) hC dX12_isTape_1 1 rfl ?_
  refine ww_iconst (pc := 2) hC (v := (0 : Int32)) dX12_isTape_2 (by decide) ?_
  refine ww_iconst (pc := 3) hC (v := (5 : Int32)) dX12_isTape_3 (by decide) ?_
  obtain ⟨r2, h1, h⟩ := bnd_i h
  refine ww_callVi (pc := 4) hC [.int x1, .int ((0 : Int32)), .int ((5 : Int32))] hL.1.1 hL.1.2 (by decide) (ceX12_in hL h1) ql_X12_215 qi_X12_in qs_X12_X12_in qn_X12 qc_X12_in rfl ⟨by decide, by decide, rfl⟩ rfl ⟨Nat.le_of_ble_eq_true rfl, Nat.le_of_ble_eq_true rfl⟩ (by decide) (rest := []) (Nat.le_of_ble_eq_true rfl) dX12_isTape_4 ⟨Nat.le_of_ble_eq_true rfl, Nat.le_of_ble_eq_true rfl⟩ rfl ?_
  obtain ⟨hb3, h⟩ := gb_i h
  exact ww_zret (pc := 7) hC hr (gb_n hb3) (ret_r h) dX12_isTape_7
noncomputable def fX12_judge_24 (n : Nat) : Int32 → Int32 → Int32 → XD → Option Int32 := Nat.rec (motive := fun _ => Int32 → Int32 → Int32 → XD → Option Int32) (fun _ _ _ _ => none) (fun _ f => fun x1 x2 x3 X => if (X.1 0 0) ≤ x3 then some ((-5 : Int32)) else gin x1 6 (if (X.1 39 (x1).toNatClampNeg) < 0 then some (((100 : Int32)) + x3) else if x2 < 0 then some (((100 : Int32)) + x3) else gin x1 6 (if x2 ≤ (((X.1 40 (x1).toNatClampNeg) - x3) - ((1 : Int32))) then gin (((((60 : Int32)) * x1) + x2) + x3) 360 (gin x3 6 (if (lg_cmp (X.2 41 (((((60 : Int32)) * x1) + x2) + x3).toNatClampNeg) ((X.1 3 (x3).toNatClampNeg).toInt64)) = 0 then nm (x3 + (1 : Int32)) (fun y3 => f x1 x2 y3 X) else some x3)) else some (((100 : Int32)) + x3)))) n
theorem fX12_judge_24_s (n : Nat) (x1 : Int32) (x2 : Int32) (x3 : Int32) (X : XD) : fX12_judge_24 (n + 1) x1 x2 x3 X = if (X.1 0 0) ≤ x3 then some ((-5 : Int32)) else gin x1 6 (if (X.1 39 (x1).toNatClampNeg) < 0 then some (((100 : Int32)) + x3) else if x2 < 0 then some (((100 : Int32)) + x3) else gin x1 6 (if x2 ≤ (((X.1 40 (x1).toNatClampNeg) - x3) - ((1 : Int32))) then gin (((((60 : Int32)) * x1) + x2) + x3) 360 (gin x3 6 (if (lg_cmp (X.2 41 (((((60 : Int32)) * x1) + x2) + x3).toNatClampNeg) ((X.1 3 (x3).toNatClampNeg).toInt64)) = 0 then nm (x3 + (1 : Int32)) (fun y3 => (fX12_judge_24 n) x1 x2 y3 X) else some x3)) else some (((100 : Int32)) + x3))) := rfl
noncomputable def fX12_judge (x1 : Int32) (x2 : Int32) (X : XD) : Option Int32 := bnd (fX12_isTape x1 X) (fun r2 => if r2 = 0 then some ((-1 : Int32)) else gin x1 6 (if (X.1 39 (x1).toNatClampNeg) ≤ 0 then fX12_judge_24 FU x1 x2 ((0 : Int32)) X else some ((-12 : Int32))))
set_option maxHeartbeats 40000000 in
set_option maxRecDepth 100000 in
theorem ceX12_judge {l : Launch} {E : XE} {w : XW} {z : Nat} {Z : XS} (hL : LayM Z) {x1 : Int32} {x2 : Int32} {X : XD} {r : Int32} (h : fX12_judge x1 x2 X = some r) : Ct l E w yX12_judge (wsM yX12_judge cX12_judge 4 (some .int)) (rmX 3 0 0) 0 0 [.ref (w.1 0), .int x1, .int x2] z z Z Z X X (some (.int r)) := by
  refine ct_of (by decide) (Nat.le_of_ble_eq_true rfl) ?_
  intro p e s m args below meth c hC hr hin hav
  have j24 : ∀ (n : Nat), ∀ (x1 : Int32) (x2 : Int32) (x3 : Int32), fX12_judge_24 n x1 x2 x3 X = some r → WW p l e (rmX 3 0 0) s m args below meth c 4 (MQ below (XQ E w z Z X (some (.int r))) args s 0 0 (A0 E)) E w 0 0 z Z 24 [(0, .ref (w.1 0)), (1, .int x1), (2, .int x2), (3, .int x3)] [] X := by
    intro n
    induction n with
    | zero =>
      intro x1 x2 x3 h
      cases (show none = some r from h)
    | succ n ih =>
      intro x1 x2 x3 h
      rw [fX12_judge_24_s] at h
      refine ww_iload_n (pc := 24) hC dX12_judge_24 3 rfl ?_
      refine ww_aload_n (pc := 25) hC dX12_judge_25 0 rfl ?_
      refine ww_getI (pc := 26) hC 12 0 hL.1 RX12 (by decide) (by decide) rfl qf_X12_7 (Or.inl rfl) dX12_judge_26 ?_
      refine ww_icmp_ge (pc := 29) hC h 96 dX12_judge_29 (by decide) (fun h => ?_) (fun h => ?_)
      · refine ww_bipush (pc := 96) hC (v := (-5 : Int32)) dX12_judge_96 (by decide) ?_
        exact ww_iret (pc := 98) hC hr (ret_r h) dX12_judge_98
      · refine ww_aload_n (pc := 32) hC dX12_judge_32 0 rfl ?_
        refine ww_getR (pc := 33) hC 12 63 39 hL.1 RX12 (by decide) (by decide) rfl (lay_12_63 hL).1 qf_X12_203 rfl dX12_judge_33 ?_
        refine ww_iload_n (pc := 36) hC dX12_judge_36 1 rfl ?_
        refine ww_iald (pc := 37) hC ((lay_12_63 hL).2) h dX12_judge_37 (fun h => ?_)
        refine ww_if_lt (pc := 38) hC h 59 dX12_judge_38 (by decide) (fun h => ?_) (fun h => ?_)
        · refine ww_bipush (pc := 59) hC (v := (100 : Int32)) dX12_judge_59 (by decide) ?_
          refine ww_iload_n (pc := 61) hC dX12_judge_61 3 rfl ?_
          refine ww_iadd (pc := 62) hC dX12_judge_62 ?_
          exact ww_iret (pc := 63) hC hr (ret_r h) dX12_judge_63
        · refine ww_iload_n (pc := 41) hC dX12_judge_41 2 rfl ?_
          refine ww_if_lt (pc := 42) hC h 59 dX12_judge_42 (by decide) (fun h => ?_) (fun h => ?_)
          · refine ww_bipush (pc := 59) hC (v := (100 : Int32)) dX12_judge_59 (by decide) ?_
            refine ww_iload_n (pc := 61) hC dX12_judge_61 3 rfl ?_
            refine ww_iadd (pc := 62) hC dX12_judge_62 ?_
            exact ww_iret (pc := 63) hC hr (ret_r h) dX12_judge_63
          · refine ww_iload_n (pc := 45) hC dX12_judge_45 2 rfl ?_
            refine ww_aload_n (pc := 46) hC dX12_judge_46 0 rfl ?_
            refine ww_getR (pc := 47) hC 12 64 40 hL.1 RX12 (by decide) (by decide) rfl (lay_12_64 hL).1 qf_X12_206 rfl dX12_judge_47 ?_
            refine ww_iload_n (pc := 50) hC dX12_judge_50 1 rfl ?_
            refine ww_iald (pc := 51) hC ((lay_12_64 hL).2) h dX12_judge_51 (fun h => ?_)
            refine ww_iload_n (pc := 52) hC dX12_judge_52 3 rfl ?_
            refine ww_isub (pc := 53) hC dX12_judge_53 ?_
            refine ww_iconst (pc := 54) hC (v := (1 : Int32)) dX12_judge_54 (by decide) ?_
            refine ww_isub (pc := 55) hC dX12_judge_55 ?_
            refine ww_icmp_le (pc := 56) hC h 64 dX12_judge_56 (by decide) (fun h => ?_) (fun h => ?_)
            · refine ww_aload_n (pc := 64) hC dX12_judge_64 0 rfl ?_
              refine ww_getR (pc := 65) hC 12 65 41 hL.1 RX12 (by decide) (by decide) rfl (lay_12_65 hL).1 qf_X12_209 rfl dX12_judge_65 ?_
              refine ww_bipush (pc := 68) hC (v := (60 : Int32)) dX12_judge_68 (by decide) ?_
              refine ww_iload_n (pc := 70) hC dX12_judge_70 1 rfl ?_
              refine ww_imul (pc := 71) hC dX12_judge_71 ?_
              refine ww_iload_n (pc := 72) hC dX12_judge_72 2 rfl ?_
              refine ww_iadd (pc := 73) hC dX12_judge_73 ?_
              refine ww_iload_n (pc := 74) hC dX12_judge_74 3 rfl ?_
              refine ww_iadd (pc := 75) hC dX12_judge_75 ?_
              refine ww_lald (pc := 76) hC ((lay_12_65 hL).2) h dX12_judge_76 (fun h => ?_)
              refine ww_aload_n (pc := 77) hC dX12_judge_77 0 rfl ?_
              refine ww_getR (pc := 78) hC 12 5 3 hL.1 RX12 (by decide) (by decide) rfl (lay_12_5 hL).1 qf_X12_26 rfl dX12_judge_78 ?_
              refine ww_iload_n (pc := 81) hC dX12_judge_81 3 rfl ?_
              refine ww_iald (pc := 82) hC ((lay_12_5 hL).2) h dX12_judge_82 (fun h => ?_)
              refine ww_i2l (pc := 83) hC dX12_judge_83 ?_
              refine ww_lcmp (pc := 84) hC dX12_judge_84 ?_
              refine ww_if_eq (pc := 85) hC h 90 dX12_judge_85 (by decide) (fun h => ?_) (fun h => ?_)
              · obtain ⟨y3, ey3⟩ : ∃ q, q = x3 + (1 : Int32) := ⟨_, rfl⟩
                replace h := nm_i h ey3
                refine ww_iinc (pc := 90) hC y3 [(3, .int y3), (0, .ref (w.1 0)), (1, .int x1), (2, .int x2)] dX12_judge_90 3 rfl (by rw [ey3]; rfl) (by decide) rfl ?_
                refine ww_goto (pc := 93) hC 24 dX12_judge_93 (by decide) ?_
                refine ww_sub [1, 2, 3, 0] rfl ?_
                exact ih _ _ _ h
              · refine ww_iload_n (pc := 88) hC dX12_judge_88 3 rfl ?_
                exact ww_iret (pc := 89) hC hr (ret_r h) dX12_judge_89
            · refine ww_bipush (pc := 59) hC (v := (100 : Int32)) dX12_judge_59 (by decide) ?_
              refine ww_iload_n (pc := 61) hC dX12_judge_61 3 rfl ?_
              refine ww_iadd (pc := 62) hC dX12_judge_62 ?_
              exact ww_iret (pc := 63) hC hr (ret_r h) dX12_judge_63
  unfold fX12_judge at h
  refine ww_lv (lv' := [(0, .ref (w.1 0)), (1, .int x1), (2, .int x2)]) rfl ?_
  refine ww_aload_n (pc := 0) hC dX12_judge_0 0 rfl ?_
  refine ww_iload_n (pc := 1) hC dX12_judge_1 1 rfl ?_
  obtain ⟨r2, h1, h⟩ := bnd_i h
  refine ww_callVi (pc := 2) hC [.int x1] hL.1.1 hL.1.2 (by decide) (ceX12_isTape hL h1) ql_X12_377 qi_X12_isTape qs_X12_X12_isTape qn_X12 qc_X12_isTape rfl ⟨by decide, by decide, rfl⟩ rfl ⟨Nat.le_of_ble_eq_true rfl, Nat.le_of_ble_eq_true rfl⟩ (by decide) (rest := []) (Nat.le_of_ble_eq_true rfl) dX12_judge_2 ⟨Nat.le_of_ble_eq_true rfl, Nat.le_of_ble_eq_true rfl⟩ rfl ?_
  refine ww_if_ne (pc := 5) hC h 10 dX12_judge_5 (by decide) (fun h => ?_) (fun h => ?_)
  · refine ww_aload_n (pc := 10) hC dX12_judge_10 0 rfl ?_
    refine ww_getR (pc := 11) hC 12 63 39 hL.1 RX12 (by decide) (by decide) rfl (lay_12_63 hL).1 qf_X12_203 rfl dX12_judge_11 ?_
    refine ww_iload_n (pc := 14) hC dX12_judge_14 1 rfl ?_
    refine ww_iald (pc := 15) hC ((lay_12_63 hL).2) h dX12_judge_15 (fun h => ?_)
    refine ww_if_le (pc := 16) hC h 22 dX12_judge_16 (by decide) (fun h => ?_) (fun h => ?_)
    · refine ww_iconst (pc := 22) hC (v := (0 : Int32)) dX12_judge_22 (by decide) ?_
      refine ww_istore_n (pc := 23) hC [(3, .int ((0 : Int32))), (0, .ref (w.1 0)), (1, .int x1), (2, .int x2)] dX12_judge_23 rfl (by decide) rfl ?_
      refine ww_sub [1, 2, 3, 0] rfl ?_
      exact j24 _ _ _ _ h
    · refine ww_bipush (pc := 19) hC (v := (-12 : Int32)) dX12_judge_19 (by decide) ?_
      exact ww_iret (pc := 21) hC hr (ret_r h) dX12_judge_21
  · refine ww_iconst (pc := 8) hC (v := (-1 : Int32)) dX12_judge_8 (by decide) ?_
    exact ww_iret (pc := 9) hC hr (ret_r h) dX12_judge_9
noncomputable def fX12_image_200 (n : Nat) : Int32 → XD → Option (Int32 × XD) := Nat.rec (motive := fun _ => Int32 → XD → Option (Int32 × XD)) (fun _ _ => none) (fun _ f => fun x1 X => if ((10 : Int32)) ≤ x1 then some (X.1 0 0, X) else gin x1 10 (gin x1 10 (nm (wI X 36 (x1).toNatClampNeg (X.1 26 (x1).toNatClampNeg)) (fun X_20 => gin x1 10 (gin x1 10 (nm (wI X_20 37 (x1).toNatClampNeg (X_20.1 27 (x1).toNatClampNeg)) (fun X_21 => nm (x1 + (1 : Int32)) (fun y22 => f y22 X_21)))))))) n
theorem fX12_image_200_s (n : Nat) (x1 : Int32) (X : XD) : fX12_image_200 (n + 1) x1 X = if ((10 : Int32)) ≤ x1 then some (X.1 0 0, X) else gin x1 10 (gin x1 10 (nm (wI X 36 (x1).toNatClampNeg (X.1 26 (x1).toNatClampNeg)) (fun X_20 => gin x1 10 (gin x1 10 (nm (wI X_20 37 (x1).toNatClampNeg (X_20.1 27 (x1).toNatClampNeg)) (fun X_21 => nm (x1 + (1 : Int32)) (fun y22 => (fX12_image_200 n) y22 X_21))))))) := rfl
noncomputable def fX12_image_175 (n : Nat) : Int32 → XD → Option (Int32 × XD) := Nat.rec (motive := fun _ => Int32 → XD → Option (Int32 × XD)) (fun _ _ => none) (fun _ f => fun x1 X => if ((4 : Int32)) ≤ x1 then fX12_image_200 FU ((0 : Int32)) X else gin x1 4 (gin x1 4 (nm (wI X 34 (x1).toNatClampNeg (X.1 20 (x1).toNatClampNeg)) (fun X_18 => nm (x1 + (1 : Int32)) (fun y19 => f y19 X_18))))) n
theorem fX12_image_175_s (n : Nat) (x1 : Int32) (X : XD) : fX12_image_175 (n + 1) x1 X = if ((4 : Int32)) ≤ x1 then fX12_image_200 FU ((0 : Int32)) X else gin x1 4 (gin x1 4 (nm (wI X 34 (x1).toNatClampNeg (X.1 20 (x1).toNatClampNeg)) (fun X_18 => nm (x1 + (1 : Int32)) (fun y19 => (fX12_image_175 n) y19 X_18)))) := rfl
noncomputable def fX12_image_149 (n : Nat) : Int32 → XD → Option (Int32 × XD) := Nat.rec (motive := fun _ => Int32 → XD → Option (Int32 × XD)) (fun _ _ => none) (fun _ f => fun x1 X => if ((24 : Int32)) ≤ x1 then fX12_image_175 FU ((0 : Int32)) X else gin x1 24 (gin x1 24 (nm (wI X 33 (x1).toNatClampNeg (X.1 6 (x1).toNatClampNeg)) (fun X_16 => nm (x1 + (1 : Int32)) (fun y17 => f y17 X_16))))) n
theorem fX12_image_149_s (n : Nat) (x1 : Int32) (X : XD) : fX12_image_149 (n + 1) x1 X = if ((24 : Int32)) ≤ x1 then fX12_image_175 FU ((0 : Int32)) X else gin x1 24 (gin x1 24 (nm (wI X 33 (x1).toNatClampNeg (X.1 6 (x1).toNatClampNeg)) (fun X_16 => nm (x1 + (1 : Int32)) (fun y17 => (fX12_image_149 n) y17 X_16)))) := rfl
noncomputable def fX12_image_63 (n : Nat) : Int32 → XD → Option (Int32 × XD) := Nat.rec (motive := fun _ => Int32 → XD → Option (Int32 × XD)) (fun _ _ => none) (fun _ f => fun x1 X => if ((6 : Int32)) ≤ x1 then fX12_image_149 FU ((0 : Int32)) X else gin x1 6 (gin x1 6 (nm (wI X 28 (x1).toNatClampNeg (X.1 1 (x1).toNatClampNeg)) (fun X_9 => gin x1 6 (gin x1 6 (nm (wI X_9 29 (x1).toNatClampNeg (X_9.1 2 (x1).toNatClampNeg)) (fun X_10 => gin x1 6 (gin x1 6 (nm (wI X_10 30 (x1).toNatClampNeg (X_10.1 3 (x1).toNatClampNeg)) (fun X_11 => gin x1 6 (gin x1 6 (nm (wI X_11 31 (x1).toNatClampNeg (X_11.1 4 (x1).toNatClampNeg)) (fun X_12 => gin x1 6 (gin x1 6 (nm (wI X_12 32 (x1).toNatClampNeg (X_12.1 5 (x1).toNatClampNeg)) (fun X_13 => gin x1 6 (gin x1 6 (nm (wI X_13 35 (x1).toNatClampNeg (X_13.1 25 (x1).toNatClampNeg)) (fun X_14 => nm (x1 + (1 : Int32)) (fun y15 => f y15 X_14)))))))))))))))))))) n
theorem fX12_image_63_s (n : Nat) (x1 : Int32) (X : XD) : fX12_image_63 (n + 1) x1 X = if ((6 : Int32)) ≤ x1 then fX12_image_149 FU ((0 : Int32)) X else gin x1 6 (gin x1 6 (nm (wI X 28 (x1).toNatClampNeg (X.1 1 (x1).toNatClampNeg)) (fun X_9 => gin x1 6 (gin x1 6 (nm (wI X_9 29 (x1).toNatClampNeg (X_9.1 2 (x1).toNatClampNeg)) (fun X_10 => gin x1 6 (gin x1 6 (nm (wI X_10 30 (x1).toNatClampNeg (X_10.1 3 (x1).toNatClampNeg)) (fun X_11 => gin x1 6 (gin x1 6 (nm (wI X_11 31 (x1).toNatClampNeg (X_11.1 4 (x1).toNatClampNeg)) (fun X_12 => gin x1 6 (gin x1 6 (nm (wI X_12 32 (x1).toNatClampNeg (X_12.1 5 (x1).toNatClampNeg)) (fun X_13 => gin x1 6 (gin x1 6 (nm (wI X_13 35 (x1).toNatClampNeg (X_13.1 25 (x1).toNatClampNeg)) (fun X_14 => nm (x1 + (1 : Int32)) (fun y15 => (fX12_image_63 n) y15 X_14))))))))))))))))))) := rfl
noncomputable def fX12_image (X : XD) : Option (Int32 × XD) := nm (wI X 0 43 ((1 : Int32))) (fun X_1 => nm (wI X_1 0 44 (X_1.1 0 10)) (fun X_2 => nm (wI X_2 0 45 (X_2.1 0 0)) (fun X_3 => nm (wI X_3 0 46 (X_3.1 0 1)) (fun X_4 => nm (wI X_4 0 47 (X_4.1 0 2)) (fun X_5 => nm (wI X_5 0 48 (X_5.1 0 32)) (fun X_6 => nm (wI X_6 0 49 (X_6.1 0 38)) (fun X_7 => nm (wI X_7 0 50 (X_7.1 0 40)) (fun X_8 => fX12_image_63 FU ((0 : Int32)) X_8))))))))
set_option maxHeartbeats 40000000 in
set_option maxRecDepth 100000 in
theorem ceX12_image {l : Launch} {E : XE} {w : XW} {z : Nat} {Z : XS} (hL : LayM Z) {X X1 : XD} {r : Int32} (h : fX12_image X = some (r, X1)) : Ct l E w yX12_image (wsM yX12_image cX12_image 2 (some .int)) (rmX 1 0 0) 0 0 [.ref (w.1 0)] z z Z Z X X1 (some (.int r)) := by
  refine ct_of (by decide) (Nat.le_of_ble_eq_true rfl) ?_
  intro p e s m args below meth c hC hr hin hav
  have j200 : ∀ (n : Nat), ∀ (x1 : Int32) (X : XD), fX12_image_200 n x1 X = some (r, X1) → WW p l e (rmX 1 0 0) s m args below meth c 2 (MQ below (XQ E w z Z X1 (some (.int r))) args s 0 0 (A0 E)) E w 0 0 z Z 200 [(0, .ref (w.1 0)), (1, .int x1)] [] X := by
    intro n
    induction n with
    | zero =>
      intro x1 X h
      cases (show none = some (r, X1) from h)
    | succ n ih =>
      intro x1 X h
      rw [fX12_image_200_s] at h
      refine ww_iload_n (pc := 200) hC dX12_image_200 1 rfl ?_
      refine ww_bipush (pc := 201) hC (v := (10 : Int32)) dX12_image_201 (by decide) ?_
      refine ww_icmp_ge (pc := 203) hC h 236 dX12_image_203 (by decide) (fun h => ?_) (fun h => ?_)
      · refine ww_aload_n (pc := 236) hC dX12_image_236 0 rfl ?_
        refine ww_getI (pc := 237) hC 12 0 hL.1 RX12 (by decide) (by decide) rfl qf_X12_7 (Or.inl rfl) dX12_image_237 ?_
        exact ww_iret (pc := 240) hC hr h dX12_image_240
      · refine ww_aload_n (pc := 206) hC dX12_image_206 0 rfl ?_
        refine ww_getR (pc := 207) hC 12 59 36 hL.1 RX12 (by decide) (by decide) rfl (lay_12_59 hL).1 qf_X12_191 rfl dX12_image_207 ?_
        refine ww_iload_n (pc := 210) hC dX12_image_210 1 rfl ?_
        refine ww_aload_n (pc := 211) hC dX12_image_211 0 rfl ?_
        refine ww_getR (pc := 212) hC 12 41 26 hL.1 RX12 (by decide) (by decide) rfl (lay_12_41 hL).1 qf_X12_136 rfl dX12_image_212 ?_
        refine ww_iload_n (pc := 215) hC dX12_image_215 1 rfl ?_
        refine ww_iald (pc := 216) hC ((lay_12_41 hL).2) h dX12_image_216 (fun h => ?_)
        refine ww_iast (pc := 217) hC ((lay_12_59 hL).2) h dX12_image_217 (fun h => ?_)
        obtain ⟨X_20, eX_20⟩ : ∃ q, q = wI X 36 (x1).toNatClampNeg (X.1 26 (x1).toNatClampNeg) := ⟨_, rfl⟩
        replace h := nm_i h eX_20
        refine ww_nmX eX_20 ?_
        refine ww_aload_n (pc := 218) hC dX12_image_218 0 rfl ?_
        refine ww_getR (pc := 219) hC 12 60 37 hL.1 RX12 (by decide) (by decide) rfl (lay_12_60 hL).1 qf_X12_194 rfl dX12_image_219 ?_
        refine ww_iload_n (pc := 222) hC dX12_image_222 1 rfl ?_
        refine ww_aload_n (pc := 223) hC dX12_image_223 0 rfl ?_
        refine ww_getR (pc := 224) hC 12 42 27 hL.1 RX12 (by decide) (by decide) rfl (lay_12_42 hL).1 qf_X12_139 rfl dX12_image_224 ?_
        refine ww_iload_n (pc := 227) hC dX12_image_227 1 rfl ?_
        refine ww_iald (pc := 228) hC ((lay_12_42 hL).2) h dX12_image_228 (fun h => ?_)
        refine ww_iast (pc := 229) hC ((lay_12_60 hL).2) h dX12_image_229 (fun h => ?_)
        obtain ⟨X_21, eX_21⟩ : ∃ q, q = wI X_20 37 (x1).toNatClampNeg (X_20.1 27 (x1).toNatClampNeg) := ⟨_, rfl⟩
        replace h := nm_i h eX_21
        refine ww_nmX eX_21 ?_
        obtain ⟨y22, ey22⟩ : ∃ q, q = x1 + (1 : Int32) := ⟨_, rfl⟩
        replace h := nm_i h ey22
        refine ww_iinc (pc := 230) hC y22 [(1, .int y22), (0, .ref (w.1 0))] dX12_image_230 1 rfl (by rw [ey22]; rfl) (by decide) rfl ?_
        refine ww_goto (pc := 233) hC 200 dX12_image_233 (by decide) ?_
        refine ww_sub [1, 0] rfl ?_
        exact ih _ _ h
  have j175 : ∀ (n : Nat), ∀ (x1 : Int32) (X : XD), fX12_image_175 n x1 X = some (r, X1) → WW p l e (rmX 1 0 0) s m args below meth c 2 (MQ below (XQ E w z Z X1 (some (.int r))) args s 0 0 (A0 E)) E w 0 0 z Z 175 [(0, .ref (w.1 0)), (1, .int x1)] [] X := by
    intro n
    induction n with
    | zero =>
      intro x1 X h
      cases (show none = some (r, X1) from h)
    | succ n ih =>
      intro x1 X h
      rw [fX12_image_175_s] at h
      refine ww_iload_n (pc := 175) hC dX12_image_175 1 rfl ?_
      refine ww_iconst (pc := 176) hC (v := (4 : Int32)) dX12_image_176 (by decide) ?_
      refine ww_icmp_ge (pc := 177) hC h 198 dX12_image_177 (by decide) (fun h => ?_) (fun h => ?_)
      · refine ww_iconst (pc := 198) hC (v := (0 : Int32)) dX12_image_198 (by decide) ?_
        refine ww_istore_n (pc := 199) hC [(1, .int ((0 : Int32))), (0, .ref (w.1 0))] dX12_image_199 rfl (by decide) rfl ?_
        refine ww_sub [1, 0] rfl ?_
        exact j200 _ _ _ h
      · refine ww_aload_n (pc := 180) hC dX12_image_180 0 rfl ?_
        refine ww_getR (pc := 181) hC 12 57 34 hL.1 RX12 (by decide) (by decide) rfl (lay_12_57 hL).1 qf_X12_185 rfl dX12_image_181 ?_
        refine ww_iload_n (pc := 184) hC dX12_image_184 1 rfl ?_
        refine ww_aload_n (pc := 185) hC dX12_image_185 0 rfl ?_
        refine ww_getR (pc := 186) hC 12 33 20 hL.1 RX12 (by decide) (by decide) rfl (lay_12_33 hL).1 qf_X12_111 rfl dX12_image_186 ?_
        refine ww_iload_n (pc := 189) hC dX12_image_189 1 rfl ?_
        refine ww_iald (pc := 190) hC ((lay_12_33 hL).2) h dX12_image_190 (fun h => ?_)
        refine ww_iast (pc := 191) hC ((lay_12_57 hL).2) h dX12_image_191 (fun h => ?_)
        obtain ⟨X_18, eX_18⟩ : ∃ q, q = wI X 34 (x1).toNatClampNeg (X.1 20 (x1).toNatClampNeg) := ⟨_, rfl⟩
        replace h := nm_i h eX_18
        refine ww_nmX eX_18 ?_
        obtain ⟨y19, ey19⟩ : ∃ q, q = x1 + (1 : Int32) := ⟨_, rfl⟩
        replace h := nm_i h ey19
        refine ww_iinc (pc := 192) hC y19 [(1, .int y19), (0, .ref (w.1 0))] dX12_image_192 1 rfl (by rw [ey19]; rfl) (by decide) rfl ?_
        refine ww_goto (pc := 195) hC 175 dX12_image_195 (by decide) ?_
        refine ww_sub [1, 0] rfl ?_
        exact ih _ _ h
  have j149 : ∀ (n : Nat), ∀ (x1 : Int32) (X : XD), fX12_image_149 n x1 X = some (r, X1) → WW p l e (rmX 1 0 0) s m args below meth c 2 (MQ below (XQ E w z Z X1 (some (.int r))) args s 0 0 (A0 E)) E w 0 0 z Z 149 [(0, .ref (w.1 0)), (1, .int x1)] [] X := by
    intro n
    induction n with
    | zero =>
      intro x1 X h
      cases (show none = some (r, X1) from h)
    | succ n ih =>
      intro x1 X h
      rw [fX12_image_149_s] at h
      refine ww_iload_n (pc := 149) hC dX12_image_149 1 rfl ?_
      refine ww_bipush (pc := 150) hC (v := (24 : Int32)) dX12_image_150 (by decide) ?_
      refine ww_icmp_ge (pc := 152) hC h 173 dX12_image_152 (by decide) (fun h => ?_) (fun h => ?_)
      · refine ww_iconst (pc := 173) hC (v := (0 : Int32)) dX12_image_173 (by decide) ?_
        refine ww_istore_n (pc := 174) hC [(1, .int ((0 : Int32))), (0, .ref (w.1 0))] dX12_image_174 rfl (by decide) rfl ?_
        refine ww_sub [1, 0] rfl ?_
        exact j175 _ _ _ h
      · refine ww_aload_n (pc := 155) hC dX12_image_155 0 rfl ?_
        refine ww_getR (pc := 156) hC 12 56 33 hL.1 RX12 (by decide) (by decide) rfl (lay_12_56 hL).1 qf_X12_182 rfl dX12_image_156 ?_
        refine ww_iload_n (pc := 159) hC dX12_image_159 1 rfl ?_
        refine ww_aload_n (pc := 160) hC dX12_image_160 0 rfl ?_
        refine ww_getR (pc := 161) hC 12 8 6 hL.1 RX12 (by decide) (by decide) rfl (lay_12_8 hL).1 qf_X12_35 rfl dX12_image_161 ?_
        refine ww_iload_n (pc := 164) hC dX12_image_164 1 rfl ?_
        refine ww_iald (pc := 165) hC ((lay_12_8 hL).2) h dX12_image_165 (fun h => ?_)
        refine ww_iast (pc := 166) hC ((lay_12_56 hL).2) h dX12_image_166 (fun h => ?_)
        obtain ⟨X_16, eX_16⟩ : ∃ q, q = wI X 33 (x1).toNatClampNeg (X.1 6 (x1).toNatClampNeg) := ⟨_, rfl⟩
        replace h := nm_i h eX_16
        refine ww_nmX eX_16 ?_
        obtain ⟨y17, ey17⟩ : ∃ q, q = x1 + (1 : Int32) := ⟨_, rfl⟩
        replace h := nm_i h ey17
        refine ww_iinc (pc := 167) hC y17 [(1, .int y17), (0, .ref (w.1 0))] dX12_image_167 1 rfl (by rw [ey17]; rfl) (by decide) rfl ?_
        refine ww_goto (pc := 170) hC 149 dX12_image_170 (by decide) ?_
        refine ww_sub [1, 0] rfl ?_
        exact ih _ _ h
  have j63 : ∀ (n : Nat), ∀ (x1 : Int32) (X : XD), fX12_image_63 n x1 X = some (r, X1) → WW p l e (rmX 1 0 0) s m args below meth c 2 (MQ below (XQ E w z Z X1 (some (.int r))) args s 0 0 (A0 E)) E w 0 0 z Z 63 [(0, .ref (w.1 0)), (1, .int x1)] [] X := by
    intro n
    induction n with
    | zero =>
      intro x1 X h
      cases (show none = some (r, X1) from h)
    | succ n ih =>
      intro x1 X h
      rw [fX12_image_63_s] at h
      refine ww_iload_n (pc := 63) hC dX12_image_63 1 rfl ?_
      refine ww_bipush (pc := 64) hC (v := (6 : Int32)) dX12_image_64 (by decide) ?_
      refine ww_icmp_ge (pc := 66) hC h 147 dX12_image_66 (by decide) (fun h => ?_) (fun h => ?_)
      · refine ww_iconst (pc := 147) hC (v := (0 : Int32)) dX12_image_147 (by decide) ?_
        refine ww_istore_n (pc := 148) hC [(1, .int ((0 : Int32))), (0, .ref (w.1 0))] dX12_image_148 rfl (by decide) rfl ?_
        refine ww_sub [1, 0] rfl ?_
        exact j149 _ _ _ h
      · refine ww_aload_n (pc := 69) hC dX12_image_69 0 rfl ?_
        refine ww_getR (pc := 70) hC 12 51 28 hL.1 RX12 (by decide) (by decide) rfl (lay_12_51 hL).1 qf_X12_167 rfl dX12_image_70 ?_
        refine ww_iload_n (pc := 73) hC dX12_image_73 1 rfl ?_
        refine ww_aload_n (pc := 74) hC dX12_image_74 0 rfl ?_
        refine ww_getR (pc := 75) hC 12 3 1 hL.1 RX12 (by decide) (by decide) rfl (lay_12_3 hL).1 qf_X12_19 rfl dX12_image_75 ?_
        refine ww_iload_n (pc := 78) hC dX12_image_78 1 rfl ?_
        refine ww_iald (pc := 79) hC ((lay_12_3 hL).2) h dX12_image_79 (fun h => ?_)
        refine ww_iast (pc := 80) hC ((lay_12_51 hL).2) h dX12_image_80 (fun h => ?_)
        obtain ⟨X_9, eX_9⟩ : ∃ q, q = wI X 28 (x1).toNatClampNeg (X.1 1 (x1).toNatClampNeg) := ⟨_, rfl⟩
        replace h := nm_i h eX_9
        refine ww_nmX eX_9 ?_
        refine ww_aload_n (pc := 81) hC dX12_image_81 0 rfl ?_
        refine ww_getR (pc := 82) hC 12 52 29 hL.1 RX12 (by decide) (by decide) rfl (lay_12_52 hL).1 qf_X12_170 rfl dX12_image_82 ?_
        refine ww_iload_n (pc := 85) hC dX12_image_85 1 rfl ?_
        refine ww_aload_n (pc := 86) hC dX12_image_86 0 rfl ?_
        refine ww_getR (pc := 87) hC 12 4 2 hL.1 RX12 (by decide) (by decide) rfl (lay_12_4 hL).1 qf_X12_23 rfl dX12_image_87 ?_
        refine ww_iload_n (pc := 90) hC dX12_image_90 1 rfl ?_
        refine ww_iald (pc := 91) hC ((lay_12_4 hL).2) h dX12_image_91 (fun h => ?_)
        refine ww_iast (pc := 92) hC ((lay_12_52 hL).2) h dX12_image_92 (fun h => ?_)
        obtain ⟨X_10, eX_10⟩ : ∃ q, q = wI X_9 29 (x1).toNatClampNeg (X_9.1 2 (x1).toNatClampNeg) := ⟨_, rfl⟩
        replace h := nm_i h eX_10
        refine ww_nmX eX_10 ?_
        refine ww_aload_n (pc := 93) hC dX12_image_93 0 rfl ?_
        refine ww_getR (pc := 94) hC 12 53 30 hL.1 RX12 (by decide) (by decide) rfl (lay_12_53 hL).1 qf_X12_173 rfl dX12_image_94 ?_
        refine ww_iload_n (pc := 97) hC dX12_image_97 1 rfl ?_
        refine ww_aload_n (pc := 98) hC dX12_image_98 0 rfl ?_
        refine ww_getR (pc := 99) hC 12 5 3 hL.1 RX12 (by decide) (by decide) rfl (lay_12_5 hL).1 qf_X12_26 rfl dX12_image_99 ?_
        refine ww_iload_n (pc := 102) hC dX12_image_102 1 rfl ?_
        refine ww_iald (pc := 103) hC ((lay_12_5 hL).2) h dX12_image_103 (fun h => ?_)
        refine ww_iast (pc := 104) hC ((lay_12_53 hL).2) h dX12_image_104 (fun h => ?_)
        obtain ⟨X_11, eX_11⟩ : ∃ q, q = wI X_10 30 (x1).toNatClampNeg (X_10.1 3 (x1).toNatClampNeg) := ⟨_, rfl⟩
        replace h := nm_i h eX_11
        refine ww_nmX eX_11 ?_
        refine ww_aload_n (pc := 105) hC dX12_image_105 0 rfl ?_
        refine ww_getR (pc := 106) hC 12 54 31 hL.1 RX12 (by decide) (by decide) rfl (lay_12_54 hL).1 qf_X12_176 rfl dX12_image_106 ?_
        refine ww_iload_n (pc := 109) hC dX12_image_109 1 rfl ?_
        refine ww_aload_n (pc := 110) hC dX12_image_110 0 rfl ?_
        refine ww_getR (pc := 111) hC 12 6 4 hL.1 RX12 (by decide) (by decide) rfl (lay_12_6 hL).1 qf_X12_29 rfl dX12_image_111 ?_
        refine ww_iload_n (pc := 114) hC dX12_image_114 1 rfl ?_
        refine ww_iald (pc := 115) hC ((lay_12_6 hL).2) h dX12_image_115 (fun h => ?_)
        refine ww_iast (pc := 116) hC ((lay_12_54 hL).2) h dX12_image_116 (fun h => ?_)
        obtain ⟨X_12, eX_12⟩ : ∃ q, q = wI X_11 31 (x1).toNatClampNeg (X_11.1 4 (x1).toNatClampNeg) := ⟨_, rfl⟩
        replace h := nm_i h eX_12
        refine ww_nmX eX_12 ?_
        refine ww_aload_n (pc := 117) hC dX12_image_117 0 rfl ?_
        refine ww_getR (pc := 118) hC 12 55 32 hL.1 RX12 (by decide) (by decide) rfl (lay_12_55 hL).1 qf_X12_179 rfl dX12_image_118 ?_
        refine ww_iload_n (pc := 121) hC dX12_image_121 1 rfl ?_
        refine ww_aload_n (pc := 122) hC dX12_image_122 0 rfl ?_
        refine ww_getR (pc := 123) hC 12 7 5 hL.1 RX12 (by decide) (by decide) rfl (lay_12_7 hL).1 qf_X12_32 rfl dX12_image_123 ?_
        refine ww_iload_n (pc := 126) hC dX12_image_126 1 rfl ?_
        refine ww_iald (pc := 127) hC ((lay_12_7 hL).2) h dX12_image_127 (fun h => ?_)
        refine ww_iast (pc := 128) hC ((lay_12_55 hL).2) h dX12_image_128 (fun h => ?_)
        obtain ⟨X_13, eX_13⟩ : ∃ q, q = wI X_12 32 (x1).toNatClampNeg (X_12.1 5 (x1).toNatClampNeg) := ⟨_, rfl⟩
        replace h := nm_i h eX_13
        refine ww_nmX eX_13 ?_
        refine ww_aload_n (pc := 129) hC dX12_image_129 0 rfl ?_
        refine ww_getR (pc := 130) hC 12 58 35 hL.1 RX12 (by decide) (by decide) rfl (lay_12_58 hL).1 qf_X12_188 rfl dX12_image_130 ?_
        refine ww_iload_n (pc := 133) hC dX12_image_133 1 rfl ?_
        refine ww_aload_n (pc := 134) hC dX12_image_134 0 rfl ?_
        refine ww_getR (pc := 135) hC 12 39 25 hL.1 RX12 (by decide) (by decide) rfl (lay_12_39 hL).1 qf_X12_130 rfl dX12_image_135 ?_
        refine ww_iload_n (pc := 138) hC dX12_image_138 1 rfl ?_
        refine ww_iald (pc := 139) hC ((lay_12_39 hL).2) h dX12_image_139 (fun h => ?_)
        refine ww_iast (pc := 140) hC ((lay_12_58 hL).2) h dX12_image_140 (fun h => ?_)
        obtain ⟨X_14, eX_14⟩ : ∃ q, q = wI X_13 35 (x1).toNatClampNeg (X_13.1 25 (x1).toNatClampNeg) := ⟨_, rfl⟩
        replace h := nm_i h eX_14
        refine ww_nmX eX_14 ?_
        obtain ⟨y15, ey15⟩ : ∃ q, q = x1 + (1 : Int32) := ⟨_, rfl⟩
        replace h := nm_i h ey15
        refine ww_iinc (pc := 141) hC y15 [(1, .int y15), (0, .ref (w.1 0))] dX12_image_141 1 rfl (by rw [ey15]; rfl) (by decide) rfl ?_
        refine ww_goto (pc := 144) hC 63 dX12_image_144 (by decide) ?_
        refine ww_sub [1, 0] rfl ?_
        exact ih _ _ h
  unfold fX12_image at h
  refine ww_lv (lv' := [(0, .ref (w.1 0))]) rfl ?_
  refine ww_aload_n (pc := 0) hC dX12_image_0 0 rfl ?_
  refine ww_iconst (pc := 1) hC (v := (1 : Int32)) dX12_image_1 (by decide) ?_
  refine ww_putI (pc := 2) hC 12 43 hL.1 RX12 (by decide) (by decide) rfl qf_X12_142 rfl rfl rfl rfl dX12_image_2 ?_
  obtain ⟨X_1, eX_1⟩ : ∃ q, q = wI X 0 43 ((1 : Int32)) := ⟨_, rfl⟩
  replace h := nm_i h eX_1
  refine ww_nmX eX_1 ?_
  refine ww_aload_n (pc := 5) hC dX12_image_5 0 rfl ?_
  refine ww_aload_n (pc := 6) hC dX12_image_6 0 rfl ?_
  refine ww_getI (pc := 7) hC 12 10 hL.1 RX12 (by decide) (by decide) rfl qf_X12_41 (Or.inl rfl) dX12_image_7 ?_
  refine ww_putI (pc := 10) hC 12 44 hL.1 RX12 (by decide) (by decide) rfl qf_X12_146 rfl rfl rfl rfl dX12_image_10 ?_
  obtain ⟨X_2, eX_2⟩ : ∃ q, q = wI X_1 0 44 (X_1.1 0 10) := ⟨_, rfl⟩
  replace h := nm_i h eX_2
  refine ww_nmX eX_2 ?_
  refine ww_aload_n (pc := 13) hC dX12_image_13 0 rfl ?_
  refine ww_aload_n (pc := 14) hC dX12_image_14 0 rfl ?_
  refine ww_getI (pc := 15) hC 12 0 hL.1 RX12 (by decide) (by decide) rfl qf_X12_7 (Or.inl rfl) dX12_image_15 ?_
  refine ww_putI (pc := 18) hC 12 45 hL.1 RX12 (by decide) (by decide) rfl qf_X12_149 rfl rfl rfl rfl dX12_image_18 ?_
  obtain ⟨X_3, eX_3⟩ : ∃ q, q = wI X_2 0 45 (X_2.1 0 0) := ⟨_, rfl⟩
  replace h := nm_i h eX_3
  refine ww_nmX eX_3 ?_
  refine ww_aload_n (pc := 21) hC dX12_image_21 0 rfl ?_
  refine ww_aload_n (pc := 22) hC dX12_image_22 0 rfl ?_
  refine ww_getI (pc := 23) hC 12 1 hL.1 RX12 (by decide) (by decide) rfl qf_X12_13 (Or.inl rfl) dX12_image_23 ?_
  refine ww_putI (pc := 26) hC 12 46 hL.1 RX12 (by decide) (by decide) rfl qf_X12_152 rfl rfl rfl rfl dX12_image_26 ?_
  obtain ⟨X_4, eX_4⟩ : ∃ q, q = wI X_3 0 46 (X_3.1 0 1) := ⟨_, rfl⟩
  replace h := nm_i h eX_4
  refine ww_nmX eX_4 ?_
  refine ww_aload_n (pc := 29) hC dX12_image_29 0 rfl ?_
  refine ww_aload_n (pc := 30) hC dX12_image_30 0 rfl ?_
  refine ww_getI (pc := 31) hC 12 2 hL.1 RX12 (by decide) (by decide) rfl qf_X12_16 (Or.inl rfl) dX12_image_31 ?_
  refine ww_putI (pc := 34) hC 12 47 hL.1 RX12 (by decide) (by decide) rfl qf_X12_155 rfl rfl rfl rfl dX12_image_34 ?_
  obtain ⟨X_5, eX_5⟩ : ∃ q, q = wI X_4 0 47 (X_4.1 0 2) := ⟨_, rfl⟩
  replace h := nm_i h eX_5
  refine ww_nmX eX_5 ?_
  refine ww_aload_n (pc := 37) hC dX12_image_37 0 rfl ?_
  refine ww_aload_n (pc := 38) hC dX12_image_38 0 rfl ?_
  refine ww_getI (pc := 39) hC 12 32 hL.1 RX12 (by decide) (by decide) rfl qf_X12_108 (Or.inl rfl) dX12_image_39 ?_
  refine ww_putI (pc := 42) hC 12 48 hL.1 RX12 (by decide) (by decide) rfl qf_X12_158 rfl rfl rfl rfl dX12_image_42 ?_
  obtain ⟨X_6, eX_6⟩ : ∃ q, q = wI X_5 0 48 (X_5.1 0 32) := ⟨_, rfl⟩
  replace h := nm_i h eX_6
  refine ww_nmX eX_6 ?_
  refine ww_aload_n (pc := 45) hC dX12_image_45 0 rfl ?_
  refine ww_aload_n (pc := 46) hC dX12_image_46 0 rfl ?_
  refine ww_getI (pc := 47) hC 12 38 hL.1 RX12 (by decide) (by decide) rfl qf_X12_127 (Or.inl rfl) dX12_image_47 ?_
  refine ww_putI (pc := 50) hC 12 49 hL.1 RX12 (by decide) (by decide) rfl qf_X12_161 rfl rfl rfl rfl dX12_image_50 ?_
  obtain ⟨X_7, eX_7⟩ : ∃ q, q = wI X_6 0 49 (X_6.1 0 38) := ⟨_, rfl⟩
  replace h := nm_i h eX_7
  refine ww_nmX eX_7 ?_
  refine ww_aload_n (pc := 53) hC dX12_image_53 0 rfl ?_
  refine ww_aload_n (pc := 54) hC dX12_image_54 0 rfl ?_
  refine ww_getI (pc := 55) hC 12 40 hL.1 RX12 (by decide) (by decide) rfl qf_X12_133 (Or.inl rfl) dX12_image_55 ?_
  refine ww_putI (pc := 58) hC 12 50 hL.1 RX12 (by decide) (by decide) rfl qf_X12_164 rfl rfl rfl rfl dX12_image_58 ?_
  obtain ⟨X_8, eX_8⟩ : ∃ q, q = wI X_7 0 50 (X_7.1 0 40) := ⟨_, rfl⟩
  replace h := nm_i h eX_8
  refine ww_nmX eX_8 ?_
  refine ww_iconst (pc := 61) hC (v := (0 : Int32)) dX12_image_61 (by decide) ?_
  refine ww_istore_n (pc := 62) hC [(1, .int ((0 : Int32))), (0, .ref (w.1 0))] dX12_image_62 rfl (by decide) rfl ?_
  refine ww_sub [1, 0] rfl ?_
  exact j63 _ _ _ h
