noncomputable def fX12_in (x1 : Int32) (x2 : Int32) (x3 : Int32) (X : XD) : Option Int32 := if x1 < x2 then some ((0 : Int32)) else if x3 < x1 then some ((0 : Int32)) else some ((1 : Int32))
set_option maxHeartbeats 40000000 in
set_option maxRecDepth 100000 in
theorem ceX12_in {l : Launch} {E : XE} {w : XW} {z : Nat} {Z : XS} (hL : LayM Z) {x1 : Int32} {x2 : Int32} {x3 : Int32} {X : XD} {r : Int32} (h : fX12_in x1 x2 x3 X = some r) : Ct l E w yX12_in (wsM yX12_in cX12_in 4 (some .boolean)) (rmX 1 0 0) 0 0 [.ref (w.1 0), .int x1, .int x2, .int x3] z z Z Z X X (some (.int r)) := by
  refine ct_of (by decide) (Nat.le_of_ble_eq_true rfl) ?_
  intro p e s m args below meth c hC hr hin hav
  unfold fX12_in at h
  refine ww_lv (lv' := [(0, .ref (w.1 0)), (1, .int x1), (2, .int x2), (3, .int x3)]) rfl ?_
  refine ww_iload_n (pc := 0) hC dX12_in_0 1 rfl ?_
  refine ww_iload_n (pc := 1) hC dX12_in_1 2 rfl ?_
  refine ww_icmp_lt (pc := 2) hC h 14 dX12_in_2 (by decide) (fun h => ?_) (fun h => ?_)
  · refine ww_iconst (pc := 14) hC (v := (0 : Int32)) dX12_in_14 (by decide) ?_
    exact ww_zret (pc := 15) hC hr rfl (ret_r h) dX12_in_15
  · refine ww_iload_n (pc := 5) hC dX12_in_5 1 rfl ?_
    refine ww_iload_n (pc := 6) hC dX12_in_6 3 rfl ?_
    refine ww_icmp_gt (pc := 7) hC h 14 dX12_in_7 (by decide) (fun h => ?_) (fun h => ?_)
    · refine ww_iconst (pc := 14) hC (v := (0 : Int32)) dX12_in_14 (by decide) ?_
      exact ww_zret (pc := 15) hC hr rfl (ret_r h) dX12_in_15
    · refine ww_iconst (pc := 10) hC (v := (1 : Int32)) dX12_in_10 (by decide) ?_
      refine ww_goto (pc := 11) hC 15 dX12_in_11 (by decide) ?_
      exact ww_zret (pc := 15) hC hr rfl (ret_r h) dX12_in_15
noncomputable def fX12_has (x1 : Int32) (x2 : Int32) (X : XD) : Option Int32 := if ((x1 >>> (x2 &&& 31)) &&& ((1 : Int32))) = ((1 : Int32)) then some ((1 : Int32)) else some ((0 : Int32))
set_option maxHeartbeats 40000000 in
set_option maxRecDepth 100000 in
theorem ceX12_has {l : Launch} {E : XE} {w : XW} {z : Nat} {Z : XS} (hL : LayM Z) {x1 : Int32} {x2 : Int32} {X : XD} {r : Int32} (h : fX12_has x1 x2 X = some r) : Ct l E w yX12_has (wsM yX12_has cX12_has 3 (some .boolean)) (rmX 1 0 0) 0 0 [.ref (w.1 0), .int x1, .int x2] z z Z Z X X (some (.int r)) := by
  refine ct_of (by decide) (Nat.le_of_ble_eq_true rfl) ?_
  intro p e s m args below meth c hC hr hin hav
  unfold fX12_has at h
  refine ww_lv (lv' := [(0, .ref (w.1 0)), (1, .int x1), (2, .int x2)]) rfl ?_
  refine ww_iload_n (pc := 0) hC dX12_has_0 1 rfl ?_
  refine ww_iload_n (pc := 1) hC dX12_has_1 2 rfl ?_
  refine ww_ishr (pc := 2) hC dX12_has_2 ?_
  refine ww_iconst (pc := 3) hC (v := (1 : Int32)) dX12_has_3 (by decide) ?_
  refine ww_iand (pc := 4) hC dX12_has_4 ?_
  refine ww_iconst (pc := 5) hC (v := (1 : Int32)) dX12_has_5 (by decide) ?_
  refine ww_icmp_ne (pc := 6) hC h 13 dX12_has_6 (by decide) (fun h => ?_) (fun h => ?_)
  · refine ww_iconst (pc := 13) hC (v := (0 : Int32)) dX12_has_13 (by decide) ?_
    exact ww_zret (pc := 14) hC hr rfl (ret_r h) dX12_has_14
  · refine ww_iconst (pc := 9) hC (v := (1 : Int32)) dX12_has_9 (by decide) ?_
    refine ww_goto (pc := 10) hC 14 dX12_has_10 (by decide) ?_
    exact ww_zret (pc := 14) hC hr rfl (ret_r h) dX12_has_14
noncomputable def fX12_isShooter (x1 : Int32) (X : XD) : Option Int32 := bnd (fX12_in x1 ((0 : Int32)) ((X.1 0 0) - ((1 : Int32))) X) (fun r2 => gb r2 (some r2))
set_option maxHeartbeats 40000000 in
set_option maxRecDepth 100000 in
theorem ceX12_isShooter {l : Launch} {E : XE} {w : XW} {z : Nat} {Z : XS} (hL : LayM Z) {x1 : Int32} {X : XD} {r : Int32} (h : fX12_isShooter x1 X = some r) : Ct l E w yX12_isShooter (wsM yX12_isShooter cX12_isShooter 2 (some .boolean)) (rmX 2 0 0) 0 0 [.ref (w.1 0), .int x1] z z Z Z X X (some (.int r)) := by
  refine ct_of (by decide) (Nat.le_of_ble_eq_true rfl) ?_
  intro p e s m args below meth c hC hr hin hav
  unfold fX12_isShooter at h
  refine ww_lv (lv' := [(0, .ref (w.1 0)), (1, .int x1)]) rfl ?_
  refine ww_aload_n (pc := 0) hC dX12_isShooter_0 0 rfl ?_
  refine ww_iload_n (pc := 1) hC dX12_isShooter_1 1 rfl ?_
  refine ww_iconst (pc := 2) hC (v := (0 : Int32)) dX12_isShooter_2 (by decide) ?_
  refine ww_aload_n (pc := 3) hC dX12_isShooter_3 0 rfl ?_
  refine ww_getI (pc := 4) hC 12 0 hL.1 RX12 (by decide) (by decide) rfl qf_X12_7 (Or.inl rfl) dX12_isShooter_4 ?_
  refine ww_iconst (pc := 7) hC (v := (1 : Int32)) dX12_isShooter_7 (by decide) ?_
  refine ww_isub (pc := 8) hC dX12_isShooter_8 ?_
  obtain ⟨r2, h1, h⟩ := bnd_i h
  refine ww_callVi (pc := 9) hC [.int x1, .int ((0 : Int32)), .int ((X.1 0 0) - ((1 : Int32)))] hL.1.1 hL.1.2 (by decide) (ceX12_in hL h1) ql_X12_215 qi_X12_in qs_X12_X12_in qn_X12 qc_X12_in rfl ⟨by decide, by decide, rfl⟩ rfl ⟨Nat.le_of_ble_eq_true rfl, Nat.le_of_ble_eq_true rfl⟩ (by decide) (rest := []) (Nat.le_of_ble_eq_true rfl) dX12_isShooter_9 ⟨Nat.le_of_ble_eq_true rfl, Nat.le_of_ble_eq_true rfl⟩ rfl ?_
  obtain ⟨hb3, h⟩ := gb_i h
  exact ww_zret (pc := 12) hC hr (gb_n hb3) (ret_r h) dX12_isShooter_12
noncomputable def fX12_isSide (x1 : Int32) (X : XD) : Option Int32 := bnd (fX12_in x1 ((0 : Int32)) ((2 : Int32)) X) (fun r2 => gb r2 (some r2))
set_option maxHeartbeats 40000000 in
set_option maxRecDepth 100000 in
theorem ceX12_isSide {l : Launch} {E : XE} {w : XW} {z : Nat} {Z : XS} (hL : LayM Z) {x1 : Int32} {X : XD} {r : Int32} (h : fX12_isSide x1 X = some r) : Ct l E w yX12_isSide (wsM yX12_isSide cX12_isSide 2 (some .boolean)) (rmX 2 0 0) 0 0 [.ref (w.1 0), .int x1] z z Z Z X X (some (.int r)) := by
  refine ct_of (by decide) (Nat.le_of_ble_eq_true rfl) ?_
  intro p e s m args below meth c hC hr hin hav
  unfold fX12_isSide at h
  refine ww_lv (lv' := [(0, .ref (w.1 0)), (1, .int x1)]) rfl ?_
  refine ww_aload_n (pc := 0) hC dX12_isSide_0 0 rfl ?_
  refine ww_iload_n (pc := 1) hC dX12_isSide_1 1 rfl ?_
  refine ww_iconst (pc := 2) hC (v := (0 : Int32)) dX12_isSide_2 (by decide) ?_
  refine ww_iconst (pc := 3) hC (v := (2 : Int32)) dX12_isSide_3 (by decide) ?_
  obtain ⟨r2, h1, h⟩ := bnd_i h
  refine ww_callVi (pc := 4) hC [.int x1, .int ((0 : Int32)), .int ((2 : Int32))] hL.1.1 hL.1.2 (by decide) (ceX12_in hL h1) ql_X12_215 qi_X12_in qs_X12_X12_in qn_X12 qc_X12_in rfl ⟨by decide, by decide, rfl⟩ rfl ⟨Nat.le_of_ble_eq_true rfl, Nat.le_of_ble_eq_true rfl⟩ (by decide) (rest := []) (Nat.le_of_ble_eq_true rfl) dX12_isSide_4 ⟨Nat.le_of_ble_eq_true rfl, Nat.le_of_ble_eq_true rfl⟩ rfl ?_
  obtain ⟨hb3, h⟩ := gb_i h
  exact ww_zret (pc := 7) hC hr (gb_n hb3) (ret_r h) dX12_isSide_7
noncomputable def fX12_shooter_91 (n : Nat) : Int32 → XD → Option (Int32 × XD) := Nat.rec (motive := fun _ => Int32 → XD → Option (Int32 × XD)) (fun _ _ => none) (fun _ f => fun x3 X => if ((4 : Int32)) ≤ x3 then nm (wI X 0 0 ((X.1 0 0) + ((1 : Int32)))) (fun X_10 => some ((X_10.1 0 0) - ((1 : Int32)), X_10)) else gin ((((4 : Int32)) * (X.1 0 0)) + x3) 24 (nm (wI X 6 ((((4 : Int32)) * (X.1 0 0)) + x3).toNatClampNeg ((0 : Int32))) (fun X_11 => nm (x3 + (1 : Int32)) (fun y12 => f y12 X_11)))) n
theorem fX12_shooter_91_s (n : Nat) (x3 : Int32) (X : XD) : fX12_shooter_91 (n + 1) x3 X = if ((4 : Int32)) ≤ x3 then nm (wI X 0 0 ((X.1 0 0) + ((1 : Int32)))) (fun X_10 => some ((X_10.1 0 0) - ((1 : Int32)), X_10)) else gin ((((4 : Int32)) * (X.1 0 0)) + x3) 24 (nm (wI X 6 ((((4 : Int32)) * (X.1 0 0)) + x3).toNatClampNeg ((0 : Int32))) (fun X_11 => nm (x3 + (1 : Int32)) (fun y12 => (fX12_shooter_91 n) y12 X_11))) := rfl
noncomputable def fX12_shooter (x1 : Int32) (x2 : Int32) (X : XD) : Option (Int32 × XD) := bnd (fX12_in x1 ((0 : Int32)) ((6 : Int32)) X) (fun r2 => if r2 = 0 then some ((-1 : Int32), X) else bnd (fX12_in x2 ((0 : Int32)) ((9 : Int32)) X) (fun r4 => if r4 = 0 then some ((-2 : Int32), X) else if (X.1 0 0) = ((6 : Int32)) then some ((-4 : Int32), X) else gin (X.1 0 0) 6 (nm (wI X 1 (X.1 0 0).toNatClampNeg x1) (fun X_5 => gin (X_5.1 0 0) 6 (nm (wI X_5 2 (X_5.1 0 0).toNatClampNeg x2) (fun X_6 => gin (X_6.1 0 0) 6 (nm (wI X_6 3 (X_6.1 0 0).toNatClampNeg ((3 : Int32))) (fun X_7 => gin (X_7.1 0 0) 6 (nm (wI X_7 4 (X_7.1 0 0).toNatClampNeg ((0 : Int32))) (fun X_8 => gin (X_8.1 0 0) 6 (nm (wI X_8 5 (X_8.1 0 0).toNatClampNeg ((0 : Int32))) (fun X_9 => fX12_shooter_91 FU ((0 : Int32)) X_9))))))))))))
set_option maxHeartbeats 40000000 in
set_option maxRecDepth 100000 in
theorem ceX12_shooter {l : Launch} {E : XE} {w : XW} {z : Nat} {Z : XS} (hL : LayM Z) {x1 : Int32} {x2 : Int32} {X X1 : XD} {r : Int32} (h : fX12_shooter x1 x2 X = some (r, X1)) : Ct l E w yX12_shooter (wsM yX12_shooter cX12_shooter 4 (some .int)) (rmX 2 0 0) 0 0 [.ref (w.1 0), .int x1, .int x2] z z Z Z X X1 (some (.int r)) := by
  refine ct_of (by decide) (Nat.le_of_ble_eq_true rfl) ?_
  intro p e s m args below meth c hC hr hin hav
  have j91 : ∀ (n : Nat), ∀ (x3 : Int32) (X : XD), fX12_shooter_91 n x3 X = some (r, X1) → WW p l e (rmX 2 0 0) s m args below meth c 4 (MQ below (XQ E w z Z X1 (some (.int r))) args s 0 0 (A0 E)) E w 0 0 z Z 91 [(0, .ref (w.1 0)), (3, .int x3)] [] X := by
    intro n
    induction n with
    | zero =>
      intro x3 X h
      cases (show none = some (r, X1) from h)
    | succ n ih =>
      intro x3 X h
      rw [fX12_shooter_91_s] at h
      refine ww_iload_n (pc := 91) hC dX12_shooter_91 1 rfl ?_
      refine ww_iconst (pc := 92) hC (v := (4 : Int32)) dX12_shooter_92 (by decide) ?_
      refine ww_icmp_ge (pc := 93) hC h 116 dX12_shooter_93 (by decide) (fun h => ?_) (fun h => ?_)
      · refine ww_aload_n (pc := 116) hC dX12_shooter_116 0 rfl ?_
        refine ww_dup (pc := 117) hC dX12_shooter_117 rfl ?_
        refine ww_getI (pc := 118) hC 12 0 hL.1 RX12 (by decide) (by decide) rfl qf_X12_7 (Or.inl rfl) dX12_shooter_118 ?_
        refine ww_iconst (pc := 121) hC (v := (1 : Int32)) dX12_shooter_121 (by decide) ?_
        refine ww_iadd (pc := 122) hC dX12_shooter_122 ?_
        refine ww_putI (pc := 123) hC 12 0 hL.1 RX12 (by decide) (by decide) rfl qf_X12_7 rfl rfl rfl rfl dX12_shooter_123 ?_
        obtain ⟨X_10, eX_10⟩ : ∃ q, q = wI X 0 0 ((X.1 0 0) + ((1 : Int32))) := ⟨_, rfl⟩
        replace h := nm_i h eX_10
        refine ww_nmX eX_10 ?_
        refine ww_aload_n (pc := 126) hC dX12_shooter_126 0 rfl ?_
        refine ww_getI (pc := 127) hC 12 0 hL.1 RX12 (by decide) (by decide) rfl qf_X12_7 (Or.inl rfl) dX12_shooter_127 ?_
        refine ww_iconst (pc := 130) hC (v := (1 : Int32)) dX12_shooter_130 (by decide) ?_
        refine ww_isub (pc := 131) hC dX12_shooter_131 ?_
        exact ww_iret (pc := 132) hC hr h dX12_shooter_132
      · refine ww_aload_n (pc := 96) hC dX12_shooter_96 0 rfl ?_
        refine ww_getR (pc := 97) hC 12 8 6 hL.1 RX12 (by decide) (by decide) rfl (lay_12_8 hL).1 qf_X12_35 rfl dX12_shooter_97 ?_
        refine ww_iconst (pc := 100) hC (v := (4 : Int32)) dX12_shooter_100 (by decide) ?_
        refine ww_aload_n (pc := 101) hC dX12_shooter_101 0 rfl ?_
        refine ww_getI (pc := 102) hC 12 0 hL.1 RX12 (by decide) (by decide) rfl qf_X12_7 (Or.inl rfl) dX12_shooter_102 ?_
        refine ww_imul (pc := 105) hC dX12_shooter_105 ?_
        refine ww_iload_n (pc := 106) hC dX12_shooter_106 1 rfl ?_
        refine ww_iadd (pc := 107) hC dX12_shooter_107 ?_
        refine ww_iconst (pc := 108) hC (v := (0 : Int32)) dX12_shooter_108 (by decide) ?_
        refine ww_iast (pc := 109) hC ((lay_12_8 hL).2) h dX12_shooter_109 (fun h => ?_)
        obtain ⟨X_11, eX_11⟩ : ∃ q, q = wI X 6 ((((4 : Int32)) * (X.1 0 0)) + x3).toNatClampNeg ((0 : Int32)) := ⟨_, rfl⟩
        replace h := nm_i h eX_11
        refine ww_nmX eX_11 ?_
        obtain ⟨y12, ey12⟩ : ∃ q, q = x3 + (1 : Int32) := ⟨_, rfl⟩
        replace h := nm_i h ey12
        refine ww_iinc (pc := 110) hC y12 [(3, .int y12), (0, .ref (w.1 0))] dX12_shooter_110 1 rfl (by rw [ey12]; rfl) (by decide) rfl ?_
        refine ww_goto (pc := 113) hC 91 dX12_shooter_113 (by decide) ?_
        refine ww_sub [1, 0] rfl ?_
        exact ih _ _ h
  unfold fX12_shooter at h
  refine ww_lv (lv' := [(0, .ref (w.1 0)), (1, .int x1), (2, .int x2)]) rfl ?_
  refine ww_aload_n (pc := 0) hC dX12_shooter_0 0 rfl ?_
  refine ww_iload_n (pc := 1) hC dX12_shooter_1 1 rfl ?_
  refine ww_iconst (pc := 2) hC (v := (0 : Int32)) dX12_shooter_2 (by decide) ?_
  refine ww_bipush (pc := 3) hC (v := (6 : Int32)) dX12_shooter_3 (by decide) ?_
  obtain ⟨r2, h1, h⟩ := bnd_i h
  refine ww_callVi (pc := 5) hC [.int x1, .int ((0 : Int32)), .int ((6 : Int32))] hL.1.1 hL.1.2 (by decide) (ceX12_in hL h1) ql_X12_215 qi_X12_in qs_X12_X12_in qn_X12 qc_X12_in rfl ⟨by decide, by decide, rfl⟩ rfl ⟨Nat.le_of_ble_eq_true rfl, Nat.le_of_ble_eq_true rfl⟩ (by decide) (rest := []) (Nat.le_of_ble_eq_true rfl) dX12_shooter_5 ⟨Nat.le_of_ble_eq_true rfl, Nat.le_of_ble_eq_true rfl⟩ rfl ?_
  refine ww_if_ne (pc := 8) hC h 13 dX12_shooter_8 (by decide) (fun h => ?_) (fun h => ?_)
  · refine ww_aload_n (pc := 13) hC dX12_shooter_13 0 rfl ?_
    refine ww_iload_n (pc := 14) hC dX12_shooter_14 2 rfl ?_
    refine ww_iconst (pc := 15) hC (v := (0 : Int32)) dX12_shooter_15 (by decide) ?_
    refine ww_bipush (pc := 16) hC (v := (9 : Int32)) dX12_shooter_16 (by decide) ?_
    obtain ⟨r4, h3, h⟩ := bnd_i h
    refine ww_callVi (pc := 18) hC [.int x2, .int ((0 : Int32)), .int ((9 : Int32))] hL.1.1 hL.1.2 (by decide) (ceX12_in hL h3) ql_X12_215 qi_X12_in qs_X12_X12_in qn_X12 qc_X12_in rfl ⟨by decide, by decide, rfl⟩ rfl ⟨Nat.le_of_ble_eq_true rfl, Nat.le_of_ble_eq_true rfl⟩ (by decide) (rest := []) (Nat.le_of_ble_eq_true rfl) dX12_shooter_18 ⟨Nat.le_of_ble_eq_true rfl, Nat.le_of_ble_eq_true rfl⟩ rfl ?_
    refine ww_if_ne (pc := 21) hC h 27 dX12_shooter_21 (by decide) (fun h => ?_) (fun h => ?_)
    · refine ww_aload_n (pc := 27) hC dX12_shooter_27 0 rfl ?_
      refine ww_getI (pc := 28) hC 12 0 hL.1 RX12 (by decide) (by decide) rfl qf_X12_7 (Or.inl rfl) dX12_shooter_28 ?_
      refine ww_bipush (pc := 31) hC (v := (6 : Int32)) dX12_shooter_31 (by decide) ?_
      refine ww_icmp_ne (pc := 33) hC h 39 dX12_shooter_33 (by decide) (fun h => ?_) (fun h => ?_)
      · refine ww_aload_n (pc := 39) hC dX12_shooter_39 0 rfl ?_
        refine ww_getR (pc := 40) hC 12 3 1 hL.1 RX12 (by decide) (by decide) rfl (lay_12_3 hL).1 qf_X12_19 rfl dX12_shooter_40 ?_
        refine ww_aload_n (pc := 43) hC dX12_shooter_43 0 rfl ?_
        refine ww_getI (pc := 44) hC 12 0 hL.1 RX12 (by decide) (by decide) rfl qf_X12_7 (Or.inl rfl) dX12_shooter_44 ?_
        refine ww_iload_n (pc := 47) hC dX12_shooter_47 1 rfl ?_
        refine ww_iast (pc := 48) hC ((lay_12_3 hL).2) h dX12_shooter_48 (fun h => ?_)
        obtain ⟨X_5, eX_5⟩ : ∃ q, q = wI X 1 (X.1 0 0).toNatClampNeg x1 := ⟨_, rfl⟩
        replace h := nm_i h eX_5
        refine ww_nmX eX_5 ?_
        refine ww_aload_n (pc := 49) hC dX12_shooter_49 0 rfl ?_
        refine ww_getR (pc := 50) hC 12 4 2 hL.1 RX12 (by decide) (by decide) rfl (lay_12_4 hL).1 qf_X12_23 rfl dX12_shooter_50 ?_
        refine ww_aload_n (pc := 53) hC dX12_shooter_53 0 rfl ?_
        refine ww_getI (pc := 54) hC 12 0 hL.1 RX12 (by decide) (by decide) rfl qf_X12_7 (Or.inl rfl) dX12_shooter_54 ?_
        refine ww_iload_n (pc := 57) hC dX12_shooter_57 2 rfl ?_
        refine ww_iast (pc := 58) hC ((lay_12_4 hL).2) h dX12_shooter_58 (fun h => ?_)
        obtain ⟨X_6, eX_6⟩ : ∃ q, q = wI X_5 2 (X_5.1 0 0).toNatClampNeg x2 := ⟨_, rfl⟩
        replace h := nm_i h eX_6
        refine ww_nmX eX_6 ?_
        refine ww_aload_n (pc := 59) hC dX12_shooter_59 0 rfl ?_
        refine ww_getR (pc := 60) hC 12 5 3 hL.1 RX12 (by decide) (by decide) rfl (lay_12_5 hL).1 qf_X12_26 rfl dX12_shooter_60 ?_
        refine ww_aload_n (pc := 63) hC dX12_shooter_63 0 rfl ?_
        refine ww_getI (pc := 64) hC 12 0 hL.1 RX12 (by decide) (by decide) rfl qf_X12_7 (Or.inl rfl) dX12_shooter_64 ?_
        refine ww_iconst (pc := 67) hC (v := (3 : Int32)) dX12_shooter_67 (by decide) ?_
        refine ww_iast (pc := 68) hC ((lay_12_5 hL).2) h dX12_shooter_68 (fun h => ?_)
        obtain ⟨X_7, eX_7⟩ : ∃ q, q = wI X_6 3 (X_6.1 0 0).toNatClampNeg ((3 : Int32)) := ⟨_, rfl⟩
        replace h := nm_i h eX_7
        refine ww_nmX eX_7 ?_
        refine ww_aload_n (pc := 69) hC dX12_shooter_69 0 rfl ?_
        refine ww_getR (pc := 70) hC 12 6 4 hL.1 RX12 (by decide) (by decide) rfl (lay_12_6 hL).1 qf_X12_29 rfl dX12_shooter_70 ?_
        refine ww_aload_n (pc := 73) hC dX12_shooter_73 0 rfl ?_
        refine ww_getI (pc := 74) hC 12 0 hL.1 RX12 (by decide) (by decide) rfl qf_X12_7 (Or.inl rfl) dX12_shooter_74 ?_
        refine ww_iconst (pc := 77) hC (v := (0 : Int32)) dX12_shooter_77 (by decide) ?_
        refine ww_iast (pc := 78) hC ((lay_12_6 hL).2) h dX12_shooter_78 (fun h => ?_)
        obtain ⟨X_8, eX_8⟩ : ∃ q, q = wI X_7 4 (X_7.1 0 0).toNatClampNeg ((0 : Int32)) := ⟨_, rfl⟩
        replace h := nm_i h eX_8
        refine ww_nmX eX_8 ?_
        refine ww_aload_n (pc := 79) hC dX12_shooter_79 0 rfl ?_
        refine ww_getR (pc := 80) hC 12 7 5 hL.1 RX12 (by decide) (by decide) rfl (lay_12_7 hL).1 qf_X12_32 rfl dX12_shooter_80 ?_
        refine ww_aload_n (pc := 83) hC dX12_shooter_83 0 rfl ?_
        refine ww_getI (pc := 84) hC 12 0 hL.1 RX12 (by decide) (by decide) rfl qf_X12_7 (Or.inl rfl) dX12_shooter_84 ?_
        refine ww_iconst (pc := 87) hC (v := (0 : Int32)) dX12_shooter_87 (by decide) ?_
        refine ww_iast (pc := 88) hC ((lay_12_7 hL).2) h dX12_shooter_88 (fun h => ?_)
        obtain ⟨X_9, eX_9⟩ : ∃ q, q = wI X_8 5 (X_8.1 0 0).toNatClampNeg ((0 : Int32)) := ⟨_, rfl⟩
        replace h := nm_i h eX_9
        refine ww_nmX eX_9 ?_
        refine ww_iconst (pc := 89) hC (v := (0 : Int32)) dX12_shooter_89 (by decide) ?_
        refine ww_istore_n (pc := 90) hC [(3, .int ((0 : Int32))), (0, .ref (w.1 0)), (1, .int x1), (2, .int x2)] dX12_shooter_90 rfl (by decide) rfl ?_
        refine ww_sub [1, 0] rfl ?_
        exact j91 _ _ _ h
      · refine ww_bipush (pc := 36) hC (v := (-4 : Int32)) dX12_shooter_36 (by decide) ?_
        exact ww_iret (pc := 38) hC hr h dX12_shooter_38
    · refine ww_bipush (pc := 24) hC (v := (-2 : Int32)) dX12_shooter_24 (by decide) ?_
      exact ww_iret (pc := 26) hC hr h dX12_shooter_26
  · refine ww_iconst (pc := 11) hC (v := (-1 : Int32)) dX12_shooter_11 (by decide) ?_
    exact ww_iret (pc := 12) hC hr h dX12_shooter_12
noncomputable def fX12_last (x1 : Int32) (x2 : Int32) (X : XD) : Option (Int32 × XD) := bnd (fX12_isShooter x1 X) (fun r2 => if r2 = 0 then some ((-1 : Int32), X) else bnd (fX12_in x2 ((0 : Int32)) ((3 : Int32)) X) (fun r4 => if r4 = 0 then some ((-1 : Int32), X) else gin x1 6 (nm (X.1 3 (x1).toNatClampNeg) (fun y5 => gin x1 6 (nm (wI X 3 (x1).toNatClampNeg x2) (fun X_6 => some (y5, X_6)))))))
set_option maxHeartbeats 40000000 in
set_option maxRecDepth 100000 in
theorem ceX12_last {l : Launch} {E : XE} {w : XW} {z : Nat} {Z : XS} (hL : LayM Z) {x1 : Int32} {x2 : Int32} {X X1 : XD} {r : Int32} (h : fX12_last x1 x2 X = some (r, X1)) : Ct l E w yX12_last (wsM yX12_last cX12_last 4 (some .int)) (rmX 3 0 0) 0 0 [.ref (w.1 0), .int x1, .int x2] z z Z Z X X1 (some (.int r)) := by
  refine ct_of (by decide) (Nat.le_of_ble_eq_true rfl) ?_
  intro p e s m args below meth c hC hr hin hav
  unfold fX12_last at h
  refine ww_lv (lv' := [(0, .ref (w.1 0)), (1, .int x1), (2, .int x2)]) rfl ?_
  refine ww_aload_n (pc := 0) hC dX12_last_0 0 rfl ?_
  refine ww_iload_n (pc := 1) hC dX12_last_1 1 rfl ?_
  obtain ⟨r2, h1, h⟩ := bnd_i h
  refine ww_callVi (pc := 2) hC [.int x1] hL.1.1 hL.1.2 (by decide) (ceX12_isShooter hL h1) ql_X12_219 qi_X12_isShooter qs_X12_X12_isShooter qn_X12 qc_X12_isShooter rfl ⟨by decide, by decide, rfl⟩ rfl ⟨Nat.le_of_ble_eq_true rfl, Nat.le_of_ble_eq_true rfl⟩ (by decide) (rest := []) (Nat.le_of_ble_eq_true rfl) dX12_last_2 ⟨Nat.le_of_ble_eq_true rfl, Nat.le_of_ble_eq_true rfl⟩ rfl ?_
  refine ww_if_eq (pc := 5) hC h 18 dX12_last_5 (by decide) (fun h => ?_) (fun h => ?_)
  · refine ww_iconst (pc := 18) hC (v := (-1 : Int32)) dX12_last_18 (by decide) ?_
    exact ww_iret (pc := 19) hC hr h dX12_last_19
  · refine ww_aload_n (pc := 8) hC dX12_last_8 0 rfl ?_
    refine ww_iload_n (pc := 9) hC dX12_last_9 2 rfl ?_
    refine ww_iconst (pc := 10) hC (v := (0 : Int32)) dX12_last_10 (by decide) ?_
    refine ww_iconst (pc := 11) hC (v := (3 : Int32)) dX12_last_11 (by decide) ?_
    obtain ⟨r4, h3, h⟩ := bnd_i h
    refine ww_callVi (pc := 12) hC [.int x2, .int ((0 : Int32)), .int ((3 : Int32))] hL.1.1 hL.1.2 (by decide) (ceX12_in hL h3) ql_X12_215 qi_X12_in qs_X12_X12_in qn_X12 qc_X12_in rfl ⟨by decide, by decide, rfl⟩ rfl ⟨Nat.le_of_ble_eq_true rfl, Nat.le_of_ble_eq_true rfl⟩ (by decide) (rest := []) (Nat.le_of_ble_eq_true rfl) dX12_last_12 ⟨Nat.le_of_ble_eq_true rfl, Nat.le_of_ble_eq_true rfl⟩ rfl ?_
    refine ww_if_ne (pc := 15) hC h 20 dX12_last_15 (by decide) (fun h => ?_) (fun h => ?_)
    · refine ww_aload_n (pc := 20) hC dX12_last_20 0 rfl ?_
      refine ww_getR (pc := 21) hC 12 5 3 hL.1 RX12 (by decide) (by decide) rfl (lay_12_5 hL).1 qf_X12_26 rfl dX12_last_21 ?_
      refine ww_iload_n (pc := 24) hC dX12_last_24 1 rfl ?_
      refine ww_iald (pc := 25) hC ((lay_12_5 hL).2) h dX12_last_25 (fun h => ?_)
      obtain ⟨y5, ey5⟩ : ∃ q, q = X.1 3 (x1).toNatClampNeg := ⟨_, rfl⟩
      replace h := nm_i h ey5
      refine ww_nmi ey5 ?_
      refine ww_istore_n (pc := 26) hC [(3, .int y5), (0, .ref (w.1 0)), (1, .int x1), (2, .int x2)] dX12_last_26 rfl (by decide) rfl ?_
      refine ww_aload_n (pc := 27) hC dX12_last_27 1 rfl ?_
      refine ww_getR (pc := 28) hC 12 5 3 hL.1 RX12 (by decide) (by decide) rfl (lay_12_5 hL).1 qf_X12_26 rfl dX12_last_28 ?_
      refine ww_iload_n (pc := 31) hC dX12_last_31 2 rfl ?_
      refine ww_iload_n (pc := 32) hC dX12_last_32 3 rfl ?_
      refine ww_iast (pc := 33) hC ((lay_12_5 hL).2) h dX12_last_33 (fun h => ?_)
      obtain ⟨X_6, eX_6⟩ : ∃ q, q = wI X 3 (x1).toNatClampNeg x2 := ⟨_, rfl⟩
      replace h := nm_i h eX_6
      refine ww_nmX eX_6 ?_
      refine ww_iload_n (pc := 34) hC dX12_last_34 0 rfl ?_
      exact ww_iret (pc := 35) hC hr h dX12_last_35
    · refine ww_iconst (pc := 18) hC (v := (-1 : Int32)) dX12_last_18 (by decide) ?_
      exact ww_iret (pc := 19) hC hr h dX12_last_19
noncomputable def fX12_row (x1 : Int32) (x2 : Int32) (x3 : Int32) (X : XD) : Option (Int32 × XD) := bnd (fX12_isShooter x1 X) (fun r2 => if r2 = 0 then some ((-1 : Int32), X) else bnd (fX12_in x2 ((0 : Int32)) ((3 : Int32)) X) (fun r4 => if r4 = 0 then some ((-1 : Int32), X) else bnd (fX12_isSide x3 X) (fun r6 => if r6 = 0 then some ((-2 : Int32), X) else gin x1 6 (if (X.1 1 (x1).toNatClampNeg) = ((6 : Int32)) then gin ((((4 : Int32)) * x1) + x2) 24 (nm (X.1 6 ((((4 : Int32)) * x1) + x2).toNatClampNeg) (fun y7 => gin ((((4 : Int32)) * x1) + x2) 24 (nm (wI X 6 ((((4 : Int32)) * x1) + x2).toNatClampNeg x3) (fun X_8 => some (y7, X_8))))) else some ((-3 : Int32), X)))))
set_option maxHeartbeats 40000000 in
set_option maxRecDepth 100000 in
theorem ceX12_row {l : Launch} {E : XE} {w : XW} {z : Nat} {Z : XS} (hL : LayM Z) {x1 : Int32} {x2 : Int32} {x3 : Int32} {X X1 : XD} {r : Int32} (h : fX12_row x1 x2 x3 X = some (r, X1)) : Ct l E w yX12_row (wsM yX12_row cX12_row 5 (some .int)) (rmX 3 0 0) 0 0 [.ref (w.1 0), .int x1, .int x2, .int x3] z z Z Z X X1 (some (.int r)) := by
  refine ct_of (by decide) (Nat.le_of_ble_eq_true rfl) ?_
  intro p e s m args below meth c hC hr hin hav
  unfold fX12_row at h
  refine ww_lv (lv' := [(0, .ref (w.1 0)), (1, .int x1), (2, .int x2), (3, .int x3)]) rfl ?_
  refine ww_aload_n (pc := 0) hC dX12_row_0 0 rfl ?_
  refine ww_iload_n (pc := 1) hC dX12_row_1 1 rfl ?_
  obtain ⟨r2, h1, h⟩ := bnd_i h
  refine ww_callVi (pc := 2) hC [.int x1] hL.1.1 hL.1.2 (by decide) (ceX12_isShooter hL h1) ql_X12_219 qi_X12_isShooter qs_X12_X12_isShooter qn_X12 qc_X12_isShooter rfl ⟨by decide, by decide, rfl⟩ rfl ⟨Nat.le_of_ble_eq_true rfl, Nat.le_of_ble_eq_true rfl⟩ (by decide) (rest := []) (Nat.le_of_ble_eq_true rfl) dX12_row_2 ⟨Nat.le_of_ble_eq_true rfl, Nat.le_of_ble_eq_true rfl⟩ rfl ?_
  refine ww_if_eq (pc := 5) hC h 18 dX12_row_5 (by decide) (fun h => ?_) (fun h => ?_)
  · refine ww_iconst (pc := 18) hC (v := (-1 : Int32)) dX12_row_18 (by decide) ?_
    exact ww_iret (pc := 19) hC hr h dX12_row_19
  · refine ww_aload_n (pc := 8) hC dX12_row_8 0 rfl ?_
    refine ww_iload_n (pc := 9) hC dX12_row_9 2 rfl ?_
    refine ww_iconst (pc := 10) hC (v := (0 : Int32)) dX12_row_10 (by decide) ?_
    refine ww_iconst (pc := 11) hC (v := (3 : Int32)) dX12_row_11 (by decide) ?_
    obtain ⟨r4, h3, h⟩ := bnd_i h
    refine ww_callVi (pc := 12) hC [.int x2, .int ((0 : Int32)), .int ((3 : Int32))] hL.1.1 hL.1.2 (by decide) (ceX12_in hL h3) ql_X12_215 qi_X12_in qs_X12_X12_in qn_X12 qc_X12_in rfl ⟨by decide, by decide, rfl⟩ rfl ⟨Nat.le_of_ble_eq_true rfl, Nat.le_of_ble_eq_true rfl⟩ (by decide) (rest := []) (Nat.le_of_ble_eq_true rfl) dX12_row_12 ⟨Nat.le_of_ble_eq_true rfl, Nat.le_of_ble_eq_true rfl⟩ rfl ?_
    refine ww_if_ne (pc := 15) hC h 20 dX12_row_15 (by decide) (fun h => ?_) (fun h => ?_)
    · refine ww_aload_n (pc := 20) hC dX12_row_20 0 rfl ?_
      refine ww_iload_n (pc := 21) hC dX12_row_21 3 rfl ?_
      obtain ⟨r6, h5, h⟩ := bnd_i h
      refine ww_callVi (pc := 22) hC [.int x3] hL.1.1 hL.1.2 (by decide) (ceX12_isSide hL h5) ql_X12_223 qi_X12_isSide qs_X12_X12_isSide qn_X12 qc_X12_isSide rfl ⟨by decide, by decide, rfl⟩ rfl ⟨Nat.le_of_ble_eq_true rfl, Nat.le_of_ble_eq_true rfl⟩ (by decide) (rest := []) (Nat.le_of_ble_eq_true rfl) dX12_row_22 ⟨Nat.le_of_ble_eq_true rfl, Nat.le_of_ble_eq_true rfl⟩ rfl ?_
      refine ww_if_ne (pc := 25) hC h 31 dX12_row_25 (by decide) (fun h => ?_) (fun h => ?_)
      · refine ww_aload_n (pc := 31) hC dX12_row_31 0 rfl ?_
        refine ww_getR (pc := 32) hC 12 3 1 hL.1 RX12 (by decide) (by decide) rfl (lay_12_3 hL).1 qf_X12_19 rfl dX12_row_32 ?_
        refine ww_iload_n (pc := 35) hC dX12_row_35 1 rfl ?_
        refine ww_iald (pc := 36) hC ((lay_12_3 hL).2) h dX12_row_36 (fun h => ?_)
        refine ww_bipush (pc := 37) hC (v := (6 : Int32)) dX12_row_37 (by decide) ?_
        refine ww_icmp_eq (pc := 39) hC h 45 dX12_row_39 (by decide) (fun h => ?_) (fun h => ?_)
        · refine ww_aload_n (pc := 45) hC dX12_row_45 0 rfl ?_
          refine ww_getR (pc := 46) hC 12 8 6 hL.1 RX12 (by decide) (by decide) rfl (lay_12_8 hL).1 qf_X12_35 rfl dX12_row_46 ?_
          refine ww_iconst (pc := 49) hC (v := (4 : Int32)) dX12_row_49 (by decide) ?_
          refine ww_iload_n (pc := 50) hC dX12_row_50 1 rfl ?_
          refine ww_imul (pc := 51) hC dX12_row_51 ?_
          refine ww_iload_n (pc := 52) hC dX12_row_52 2 rfl ?_
          refine ww_iadd (pc := 53) hC dX12_row_53 ?_
          refine ww_iald (pc := 54) hC ((lay_12_8 hL).2) h dX12_row_54 (fun h => ?_)
          obtain ⟨y7, ey7⟩ : ∃ q, q = X.1 6 ((((4 : Int32)) * x1) + x2).toNatClampNeg := ⟨_, rfl⟩
          replace h := nm_i h ey7
          refine ww_nmi ey7 ?_
          refine ww_istore (pc := 55) hC [(4, .int y7), (0, .ref (w.1 0)), (1, .int x1), (2, .int x2), (3, .int x3)] dX12_row_55  (by decide) rfl ?_
          refine ww_aload_n (pc := 57) hC dX12_row_57 1 rfl ?_
          refine ww_getR (pc := 58) hC 12 8 6 hL.1 RX12 (by decide) (by decide) rfl (lay_12_8 hL).1 qf_X12_35 rfl dX12_row_58 ?_
          refine ww_iconst (pc := 61) hC (v := (4 : Int32)) dX12_row_61 (by decide) ?_
          refine ww_iload_n (pc := 62) hC dX12_row_62 2 rfl ?_
          refine ww_imul (pc := 63) hC dX12_row_63 ?_
          refine ww_iload_n (pc := 64) hC dX12_row_64 3 rfl ?_
          refine ww_iadd (pc := 65) hC dX12_row_65 ?_
          refine ww_iload_n (pc := 66) hC dX12_row_66 4 rfl ?_
          refine ww_iast (pc := 67) hC ((lay_12_8 hL).2) h dX12_row_67 (fun h => ?_)
          obtain ⟨X_8, eX_8⟩ : ∃ q, q = wI X 6 ((((4 : Int32)) * x1) + x2).toNatClampNeg x3 := ⟨_, rfl⟩
          replace h := nm_i h eX_8
          refine ww_nmX eX_8 ?_
          refine ww_iload (pc := 68) hC dX12_row_68 0 rfl ?_
          exact ww_iret (pc := 70) hC hr h dX12_row_70
        · refine ww_bipush (pc := 42) hC (v := (-3 : Int32)) dX12_row_42 (by decide) ?_
          exact ww_iret (pc := 44) hC hr h dX12_row_44
      · refine ww_bipush (pc := 28) hC (v := (-2 : Int32)) dX12_row_28 (by decide) ?_
        exact ww_iret (pc := 30) hC hr h dX12_row_30
    · refine ww_iconst (pc := 18) hC (v := (-1 : Int32)) dX12_row_18 (by decide) ?_
      exact ww_iret (pc := 19) hC hr h dX12_row_19
noncomputable def fX12_feed (x1 : Int32) (X : XD) : Option (Int32 × XD) := bnd (fX12_in x1 ((0 : Int32)) ((127 : Int32)) X) (fun r2 => if r2 = 0 then some ((-2 : Int32), X) else if (X.1 0 11) = ((100 : Int32)) then some ((-4 : Int32), X) else gin (X.1 0 11) 100 (nm (wI X 7 (X.1 0 11).toNatClampNeg x1) (fun X_3 => nm (wI X_3 0 11 ((X_3.1 0 11) + ((1 : Int32)))) (fun X_4 => some (X_4.1 0 11, X_4)))))
set_option maxHeartbeats 40000000 in
set_option maxRecDepth 100000 in
theorem ceX12_feed {l : Launch} {E : XE} {w : XW} {z : Nat} {Z : XS} (hL : LayM Z) {x1 : Int32} {X X1 : XD} {r : Int32} (h : fX12_feed x1 X = some (r, X1)) : Ct l E w yX12_feed (wsM yX12_feed cX12_feed 2 (some .int)) (rmX 2 0 0) 0 0 [.ref (w.1 0), .int x1] z z Z Z X X1 (some (.int r)) := by
  refine ct_of (by decide) (Nat.le_of_ble_eq_true rfl) ?_
  intro p e s m args below meth c hC hr hin hav
  unfold fX12_feed at h
  refine ww_lv (lv' := [(0, .ref (w.1 0)), (1, .int x1)]) rfl ?_
  refine ww_aload_n (pc := 0) hC dX12_feed_0 0 rfl ?_
  refine ww_iload_n (pc := 1) hC dX12_feed_1 1 rfl ?_
  refine ww_iconst (pc := 2) hC (v := (0 : Int32)) dX12_feed_2 (by decide) ?_
  refine ww_bipush (pc := 3) hC (v := (127 : Int32)) dX12_feed_3 (by decide) ?_
  obtain ⟨r2, h1, h⟩ := bnd_i h
  refine ww_callVi (pc := 5) hC [.int x1, .int ((0 : Int32)), .int ((127 : Int32))] hL.1.1 hL.1.2 (by decide) (ceX12_in hL h1) ql_X12_215 qi_X12_in qs_X12_X12_in qn_X12 qc_X12_in rfl ⟨by decide, by decide, rfl⟩ rfl ⟨Nat.le_of_ble_eq_true rfl, Nat.le_of_ble_eq_true rfl⟩ (by decide) (rest := []) (Nat.le_of_ble_eq_true rfl) dX12_feed_5 ⟨Nat.le_of_ble_eq_true rfl, Nat.le_of_ble_eq_true rfl⟩ rfl ?_
  refine ww_if_ne (pc := 8) hC h 14 dX12_feed_8 (by decide) (fun h => ?_) (fun h => ?_)
  · refine ww_aload_n (pc := 14) hC dX12_feed_14 0 rfl ?_
    refine ww_getI (pc := 15) hC 12 11 hL.1 RX12 (by decide) (by decide) rfl qf_X12_44 (Or.inl rfl) dX12_feed_15 ?_
    refine ww_bipush (pc := 18) hC (v := (100 : Int32)) dX12_feed_18 (by decide) ?_
    refine ww_icmp_ne (pc := 20) hC h 26 dX12_feed_20 (by decide) (fun h => ?_) (fun h => ?_)
    · refine ww_aload_n (pc := 26) hC dX12_feed_26 0 rfl ?_
      refine ww_getR (pc := 27) hC 12 14 7 hL.1 RX12 (by decide) (by decide) rfl (lay_12_14 hL).1 qf_X12_53 rfl dX12_feed_27 ?_
      refine ww_aload_n (pc := 30) hC dX12_feed_30 0 rfl ?_
      refine ww_getI (pc := 31) hC 12 11 hL.1 RX12 (by decide) (by decide) rfl qf_X12_44 (Or.inl rfl) dX12_feed_31 ?_
      refine ww_iload_n (pc := 34) hC dX12_feed_34 1 rfl ?_
      refine ww_iast (pc := 35) hC ((lay_12_14 hL).2) h dX12_feed_35 (fun h => ?_)
      obtain ⟨X_3, eX_3⟩ : ∃ q, q = wI X 7 (X.1 0 11).toNatClampNeg x1 := ⟨_, rfl⟩
      replace h := nm_i h eX_3
      refine ww_nmX eX_3 ?_
      refine ww_aload_n (pc := 36) hC dX12_feed_36 0 rfl ?_
      refine ww_dup (pc := 37) hC dX12_feed_37 rfl ?_
      refine ww_getI (pc := 38) hC 12 11 hL.1 RX12 (by decide) (by decide) rfl qf_X12_44 (Or.inl rfl) dX12_feed_38 ?_
      refine ww_iconst (pc := 41) hC (v := (1 : Int32)) dX12_feed_41 (by decide) ?_
      refine ww_iadd (pc := 42) hC dX12_feed_42 ?_
      refine ww_putI (pc := 43) hC 12 11 hL.1 RX12 (by decide) (by decide) rfl qf_X12_44 rfl rfl rfl rfl dX12_feed_43 ?_
      obtain ⟨X_4, eX_4⟩ : ∃ q, q = wI X_3 0 11 ((X_3.1 0 11) + ((1 : Int32))) := ⟨_, rfl⟩
      replace h := nm_i h eX_4
      refine ww_nmX eX_4 ?_
      refine ww_aload_n (pc := 46) hC dX12_feed_46 0 rfl ?_
      refine ww_getI (pc := 47) hC 12 11 hL.1 RX12 (by decide) (by decide) rfl qf_X12_44 (Or.inl rfl) dX12_feed_47 ?_
      exact ww_iret (pc := 50) hC hr h dX12_feed_50
    · refine ww_bipush (pc := 23) hC (v := (-4 : Int32)) dX12_feed_23 (by decide) ?_
      exact ww_iret (pc := 25) hC hr h dX12_feed_25
  · refine ww_bipush (pc := 11) hC (v := (-2 : Int32)) dX12_feed_11 (by decide) ?_
    exact ww_iret (pc := 13) hC hr h dX12_feed_13
noncomputable def fX12_next (X : XD) : Option Int32 := if (X.1 0 11) ≤ (X.1 0 12) then some ((-1 : Int32)) else gin (X.1 0 12) 100 (some (X.1 7 (X.1 0 12).toNatClampNeg))
set_option maxHeartbeats 40000000 in
set_option maxRecDepth 100000 in
theorem ceX12_next {l : Launch} {E : XE} {w : XW} {z : Nat} {Z : XS} (hL : LayM Z) {X : XD} {r : Int32} (h : fX12_next X = some r) : Ct l E w yX12_next (wsM yX12_next cX12_next 1 (some .int)) (rmX 1 0 0) 0 0 [.ref (w.1 0)] z z Z Z X X (some (.int r)) := by
  refine ct_of (by decide) (Nat.le_of_ble_eq_true rfl) ?_
  intro p e s m args below meth c hC hr hin hav
  unfold fX12_next at h
  refine ww_lv (lv' := [(0, .ref (w.1 0))]) rfl ?_
  refine ww_aload_n (pc := 0) hC dX12_next_0 0 rfl ?_
  refine ww_getI (pc := 1) hC 12 12 hL.1 RX12 (by decide) (by decide) rfl qf_X12_47 (Or.inl rfl) dX12_next_1 ?_
  refine ww_aload_n (pc := 4) hC dX12_next_4 0 rfl ?_
  refine ww_getI (pc := 5) hC 12 11 hL.1 RX12 (by decide) (by decide) rfl qf_X12_44 (Or.inl rfl) dX12_next_5 ?_
  refine ww_icmp_ge (pc := 8) hC h 23 dX12_next_8 (by decide) (fun h => ?_) (fun h => ?_)
  · refine ww_iconst (pc := 23) hC (v := (-1 : Int32)) dX12_next_23 (by decide) ?_
    exact ww_iret (pc := 24) hC hr (ret_r h) dX12_next_24
  · refine ww_aload_n (pc := 11) hC dX12_next_11 0 rfl ?_
    refine ww_getR (pc := 12) hC 12 14 7 hL.1 RX12 (by decide) (by decide) rfl (lay_12_14 hL).1 qf_X12_53 rfl dX12_next_12 ?_
    refine ww_aload_n (pc := 15) hC dX12_next_15 0 rfl ?_
    refine ww_getI (pc := 16) hC 12 12 hL.1 RX12 (by decide) (by decide) rfl qf_X12_47 (Or.inl rfl) dX12_next_16 ?_
    refine ww_iald (pc := 19) hC ((lay_12_14 hL).2) h dX12_next_19 (fun h => ?_)
    refine ww_goto (pc := 20) hC 24 dX12_next_20 (by decide) ?_
    exact ww_iret (pc := 24) hC hr (ret_r h) dX12_next_24
noncomputable def fX12_second (X : XD) : Option Int32 := if (X.1 0 11) ≤ ((X.1 0 12) + ((1 : Int32))) then some ((-1 : Int32)) else gin ((X.1 0 12) + ((1 : Int32))) 100 (some (X.1 7 ((X.1 0 12) + ((1 : Int32))).toNatClampNeg))
set_option maxHeartbeats 40000000 in
set_option maxRecDepth 100000 in
theorem ceX12_second {l : Launch} {E : XE} {w : XW} {z : Nat} {Z : XS} (hL : LayM Z) {X : XD} {r : Int32} (h : fX12_second X = some r) : Ct l E w yX12_second (wsM yX12_second cX12_second 1 (some .int)) (rmX 1 0 0) 0 0 [.ref (w.1 0)] z z Z Z X X (some (.int r)) := by
  refine ct_of (by decide) (Nat.le_of_ble_eq_true rfl) ?_
  intro p e s m args below meth c hC hr hin hav
  unfold fX12_second at h
  refine ww_lv (lv' := [(0, .ref (w.1 0))]) rfl ?_
  refine ww_aload_n (pc := 0) hC dX12_second_0 0 rfl ?_
  refine ww_getI (pc := 1) hC 12 12 hL.1 RX12 (by decide) (by decide) rfl qf_X12_47 (Or.inl rfl) dX12_second_1 ?_
  refine ww_iconst (pc := 4) hC (v := (1 : Int32)) dX12_second_4 (by decide) ?_
  refine ww_iadd (pc := 5) hC dX12_second_5 ?_
  refine ww_aload_n (pc := 6) hC dX12_second_6 0 rfl ?_
  refine ww_getI (pc := 7) hC 12 11 hL.1 RX12 (by decide) (by decide) rfl qf_X12_44 (Or.inl rfl) dX12_second_7 ?_
  refine ww_icmp_ge (pc := 10) hC h 27 dX12_second_10 (by decide) (fun h => ?_) (fun h => ?_)
  · refine ww_iconst (pc := 27) hC (v := (-1 : Int32)) dX12_second_27 (by decide) ?_
    exact ww_iret (pc := 28) hC hr (ret_r h) dX12_second_28
  · refine ww_aload_n (pc := 13) hC dX12_second_13 0 rfl ?_
    refine ww_getR (pc := 14) hC 12 14 7 hL.1 RX12 (by decide) (by decide) rfl (lay_12_14 hL).1 qf_X12_53 rfl dX12_second_14 ?_
    refine ww_aload_n (pc := 17) hC dX12_second_17 0 rfl ?_
    refine ww_getI (pc := 18) hC 12 12 hL.1 RX12 (by decide) (by decide) rfl qf_X12_47 (Or.inl rfl) dX12_second_18 ?_
    refine ww_iconst (pc := 21) hC (v := (1 : Int32)) dX12_second_21 (by decide) ?_
    refine ww_iadd (pc := 22) hC dX12_second_22 ?_
    refine ww_iald (pc := 23) hC ((lay_12_14 hL).2) h dX12_second_23 (fun h => ?_)
    refine ww_goto (pc := 24) hC 28 dX12_second_24 (by decide) ?_
    exact ww_iret (pc := 28) hC hr (ret_r h) dX12_second_28
noncomputable def fX12_takes (x1 : Int32) (X : XD) : Option (Int32 × XD) := bnd (fX12_next X) (fun r2 => if r2 = x1 then nm (wI X 0 12 ((X.1 0 12) + ((1 : Int32)))) (fun X_3 => some ((1 : Int32), X_3)) else some ((0 : Int32), X))
set_option maxHeartbeats 40000000 in
set_option maxRecDepth 100000 in
theorem ceX12_takes {l : Launch} {E : XE} {w : XW} {z : Nat} {Z : XS} (hL : LayM Z) {x1 : Int32} {X X1 : XD} {r : Int32} (h : fX12_takes x1 X = some (r, X1)) : Ct l E w yX12_takes (wsM yX12_takes cX12_takes 2 (some .boolean)) (rmX 2 0 0) 0 0 [.ref (w.1 0), .int x1] z z Z Z X X1 (some (.int r)) := by
  refine ct_of (by decide) (Nat.le_of_ble_eq_true rfl) ?_
  intro p e s m args below meth c hC hr hin hav
  unfold fX12_takes at h
  refine ww_lv (lv' := [(0, .ref (w.1 0)), (1, .int x1)]) rfl ?_
  refine ww_aload_n (pc := 0) hC dX12_takes_0 0 rfl ?_
  obtain ⟨r2, h1, h⟩ := bnd_i h
  refine ww_callVi (pc := 1) hC [] hL.1.1 hL.1.2 (by decide) (ceX12_next hL h1) ql_X12_226 qi_X12_next qs_X12_X12_next qn_X12 qc_X12_next rfl ⟨by decide, by decide, rfl⟩ rfl ⟨Nat.le_of_ble_eq_true rfl, Nat.le_of_ble_eq_true rfl⟩ (by decide) (rest := []) (Nat.le_of_ble_eq_true rfl) dX12_takes_1 ⟨Nat.le_of_ble_eq_true rfl, Nat.le_of_ble_eq_true rfl⟩ rfl ?_
  refine ww_iload_n (pc := 4) hC dX12_takes_4 1 rfl ?_
  refine ww_icmp_eq (pc := 5) hC h 10 dX12_takes_5 (by decide) (fun h => ?_) (fun h => ?_)
  · refine ww_aload_n (pc := 10) hC dX12_takes_10 0 rfl ?_
    refine ww_dup (pc := 11) hC dX12_takes_11 rfl ?_
    refine ww_getI (pc := 12) hC 12 12 hL.1 RX12 (by decide) (by decide) rfl qf_X12_47 (Or.inl rfl) dX12_takes_12 ?_
    refine ww_iconst (pc := 15) hC (v := (1 : Int32)) dX12_takes_15 (by decide) ?_
    refine ww_iadd (pc := 16) hC dX12_takes_16 ?_
    refine ww_putI (pc := 17) hC 12 12 hL.1 RX12 (by decide) (by decide) rfl qf_X12_47 rfl rfl rfl rfl dX12_takes_17 ?_
    obtain ⟨X_3, eX_3⟩ : ∃ q, q = wI X 0 12 ((X.1 0 12) + ((1 : Int32))) := ⟨_, rfl⟩
    replace h := nm_i h eX_3
    refine ww_nmX eX_3 ?_
    refine ww_iconst (pc := 20) hC (v := (1 : Int32)) dX12_takes_20 (by decide) ?_
    exact ww_zret (pc := 21) hC hr rfl h dX12_takes_21
  · refine ww_iconst (pc := 8) hC (v := (0 : Int32)) dX12_takes_8 (by decide) ?_
    exact ww_zret (pc := 9) hC hr rfl h dX12_takes_9
noncomputable def fX12_takesWord_2 (n : Nat) : Int32 → Int32 → Int32 → XD → Option (Int32 × XD) := Nat.rec (motive := fun _ => Int32 → Int32 → Int32 → XD → Option (Int32 × XD)) (fun _ _ _ _ => none) (fun _ f => fun x1 x2 x3 X => if x2 ≤ x3 then bnw (fX12_takes ((32 : Int32)) X) (fun r2 X_3 => gb r2 (some (r2, X_3))) else gin (x1 + x3) 19 (bnw (fX12_takes (X.1 15 (x1 + x3).toNatClampNeg) X) (fun r6 X_7 => if r6 = 0 then some ((0 : Int32), X_7) else nm (x3 + (1 : Int32)) (fun y8 => f x1 x2 y8 X_7)))) n
theorem fX12_takesWord_2_s (n : Nat) (x1 : Int32) (x2 : Int32) (x3 : Int32) (X : XD) : fX12_takesWord_2 (n + 1) x1 x2 x3 X = if x2 ≤ x3 then bnw (fX12_takes ((32 : Int32)) X) (fun r2 X_3 => gb r2 (some (r2, X_3))) else gin (x1 + x3) 19 (bnw (fX12_takes (X.1 15 (x1 + x3).toNatClampNeg) X) (fun r6 X_7 => if r6 = 0 then some ((0 : Int32), X_7) else nm (x3 + (1 : Int32)) (fun y8 => (fX12_takesWord_2 n) x1 x2 y8 X_7))) := rfl
noncomputable def fX12_takesWord (x1 : Int32) (x2 : Int32) (X : XD) : Option (Int32 × XD) := fX12_takesWord_2 FU x1 x2 ((0 : Int32)) X
set_option maxHeartbeats 40000000 in
set_option maxRecDepth 100000 in
theorem ceX12_takesWord {l : Launch} {E : XE} {w : XW} {z : Nat} {Z : XS} (hL : LayM Z) {x1 : Int32} {x2 : Int32} {X X1 : XD} {r : Int32} (h : fX12_takesWord x1 x2 X = some (r, X1)) : Ct l E w yX12_takesWord (wsM yX12_takesWord cX12_takesWord 4 (some .boolean)) (rmX 3 0 0) 0 0 [.ref (w.1 0), .int x1, .int x2] z z Z Z X X1 (some (.int r)) := by
  refine ct_of (by decide) (Nat.le_of_ble_eq_true rfl) ?_
  intro p e s m args below meth c hC hr hin hav
  have j2 : ∀ (n : Nat), ∀ (x1 : Int32) (x2 : Int32) (x3 : Int32) (X : XD), fX12_takesWord_2 n x1 x2 x3 X = some (r, X1) → WW p l e (rmX 3 0 0) s m args below meth c 4 (MQ below (XQ E w z Z X1 (some (.int r))) args s 0 0 (A0 E)) E w 0 0 z Z 2 [(0, .ref (w.1 0)), (1, .int x1), (2, .int x2), (3, .int x3)] [] X := by
    intro n
    induction n with
    | zero =>
      intro x1 x2 x3 X h
      cases (show none = some (r, X1) from h)
    | succ n ih =>
      intro x1 x2 x3 X h
      rw [fX12_takesWord_2_s] at h
      refine ww_iload_n (pc := 2) hC dX12_takesWord_2 3 rfl ?_
      refine ww_iload_n (pc := 3) hC dX12_takesWord_3 2 rfl ?_
      refine ww_icmp_ge (pc := 4) hC h 30 dX12_takesWord_4 (by decide) (fun h => ?_) (fun h => ?_)
      · refine ww_aload_n (pc := 30) hC dX12_takesWord_30 0 rfl ?_
        refine ww_bipush (pc := 31) hC (v := (32 : Int32)) dX12_takesWord_31 (by decide) ?_
        obtain ⟨r2, X_3, h1, h⟩ := bnw_i h
        refine ww_callVi (pc := 33) hC [.int ((32 : Int32))] hL.1.1 hL.1.2 (by decide) (ceX12_takes hL h1) ql_X12_230 qi_X12_takes qs_X12_X12_takes qn_X12 qc_X12_takes rfl ⟨by decide, by decide, rfl⟩ rfl ⟨Nat.le_of_ble_eq_true rfl, Nat.le_of_ble_eq_true rfl⟩ (by decide) (rest := []) (Nat.le_of_ble_eq_true rfl) dX12_takesWord_33 ⟨Nat.le_of_ble_eq_true rfl, Nat.le_of_ble_eq_true rfl⟩ rfl ?_
        obtain ⟨hb4, h⟩ := gb_i h
        exact ww_zret (pc := 36) hC hr (gb_n hb4) h dX12_takesWord_36
      · refine ww_aload_n (pc := 7) hC dX12_takesWord_7 0 rfl ?_
        refine ww_aload_n (pc := 8) hC dX12_takesWord_8 0 rfl ?_
        refine ww_getR (pc := 9) hC 12 25 15 hL.1 RX12 (by decide) (by decide) rfl (lay_12_25 hL).1 qf_X12_86 rfl dX12_takesWord_9 ?_
        refine ww_iload_n (pc := 12) hC dX12_takesWord_12 1 rfl ?_
        refine ww_iload_n (pc := 13) hC dX12_takesWord_13 3 rfl ?_
        refine ww_iadd (pc := 14) hC dX12_takesWord_14 ?_
        refine ww_iald (pc := 15) hC ((lay_12_25 hL).2) h dX12_takesWord_15 (fun h => ?_)
        obtain ⟨r6, X_7, h5, h⟩ := bnw_i h
        refine ww_callVi (pc := 16) hC [.int (X.1 15 (x1 + x3).toNatClampNeg)] hL.1.1 hL.1.2 (by decide) (ceX12_takes hL h5) ql_X12_230 qi_X12_takes qs_X12_X12_takes qn_X12 qc_X12_takes rfl ⟨by decide, by decide, rfl⟩ rfl ⟨Nat.le_of_ble_eq_true rfl, Nat.le_of_ble_eq_true rfl⟩ (by decide) (rest := []) (Nat.le_of_ble_eq_true rfl) dX12_takesWord_16 ⟨Nat.le_of_ble_eq_true rfl, Nat.le_of_ble_eq_true rfl⟩ rfl ?_
        refine ww_if_ne (pc := 19) hC h 24 dX12_takesWord_19 (by decide) (fun h => ?_) (fun h => ?_)
        · obtain ⟨y8, ey8⟩ : ∃ q, q = x3 + (1 : Int32) := ⟨_, rfl⟩
          replace h := nm_i h ey8
          refine ww_iinc (pc := 24) hC y8 [(3, .int y8), (0, .ref (w.1 0)), (1, .int x1), (2, .int x2)] dX12_takesWord_24 3 rfl (by rw [ey8]; rfl) (by decide) rfl ?_
          refine ww_goto (pc := 27) hC 2 dX12_takesWord_27 (by decide) ?_
          refine ww_sub [1, 2, 3, 0] rfl ?_
          exact ih _ _ _ _ h
        · refine ww_iconst (pc := 22) hC (v := (0 : Int32)) dX12_takesWord_22 (by decide) ?_
          exact ww_zret (pc := 23) hC hr rfl h dX12_takesWord_23
  unfold fX12_takesWord at h
  refine ww_lv (lv' := [(0, .ref (w.1 0)), (1, .int x1), (2, .int x2)]) rfl ?_
  refine ww_iconst (pc := 0) hC (v := (0 : Int32)) dX12_takesWord_0 (by decide) ?_
  refine ww_istore_n (pc := 1) hC [(3, .int ((0 : Int32))), (0, .ref (w.1 0)), (1, .int x1), (2, .int x2)] dX12_takesWord_1 rfl (by decide) rfl ?_
  refine ww_sub [1, 2, 3, 0] rfl ?_
  exact j2 _ _ _ _ _ h
noncomputable def fX12_isDigit (X : XD) : Option Int32 := bnd (fX12_next X) (fun r2 => bnd (fX12_in r2 ((48 : Int32)) ((57 : Int32)) X) (fun r4 => gb r4 (some r4)))
set_option maxHeartbeats 40000000 in
set_option maxRecDepth 100000 in
theorem ceX12_isDigit {l : Launch} {E : XE} {w : XW} {z : Nat} {Z : XS} (hL : LayM Z) {X : XD} {r : Int32} (h : fX12_isDigit X = some r) : Ct l E w yX12_isDigit (wsM yX12_isDigit cX12_isDigit 1 (some .boolean)) (rmX 2 0 0) 0 0 [.ref (w.1 0)] z z Z Z X X (some (.int r)) := by
  refine ct_of (by decide) (Nat.le_of_ble_eq_true rfl) ?_
  intro p e s m args below meth c hC hr hin hav
  unfold fX12_isDigit at h
  refine ww_lv (lv' := [(0, .ref (w.1 0))]) rfl ?_
  refine ww_aload_n (pc := 0) hC dX12_isDigit_0 0 rfl ?_
  refine ww_aload_n (pc := 1) hC dX12_isDigit_1 0 rfl ?_
  obtain ⟨r2, h1, h⟩ := bnd_i h
  refine ww_callVi (pc := 2) hC [] hL.1.1 hL.1.2 (by decide) (ceX12_next hL h1) ql_X12_226 qi_X12_next qs_X12_X12_next qn_X12 qc_X12_next rfl ⟨by decide, by decide, rfl⟩ rfl ⟨Nat.le_of_ble_eq_true rfl, Nat.le_of_ble_eq_true rfl⟩ (by decide) (rest := [.ref (w.1 0)]) (Nat.le_of_ble_eq_true rfl) dX12_isDigit_2 ⟨Nat.le_of_ble_eq_true rfl, Nat.le_of_ble_eq_true rfl⟩ rfl ?_
  refine ww_bipush (pc := 5) hC (v := (48 : Int32)) dX12_isDigit_5 (by decide) ?_
  refine ww_bipush (pc := 7) hC (v := (57 : Int32)) dX12_isDigit_7 (by decide) ?_
  obtain ⟨r4, h3, h⟩ := bnd_i h
  refine ww_callVi (pc := 9) hC [.int r2, .int ((48 : Int32)), .int ((57 : Int32))] hL.1.1 hL.1.2 (by decide) (ceX12_in hL h3) ql_X12_215 qi_X12_in qs_X12_X12_in qn_X12 qc_X12_in rfl ⟨by decide, by decide, rfl⟩ rfl ⟨Nat.le_of_ble_eq_true rfl, Nat.le_of_ble_eq_true rfl⟩ (by decide) (rest := []) (Nat.le_of_ble_eq_true rfl) dX12_isDigit_9 ⟨Nat.le_of_ble_eq_true rfl, Nat.le_of_ble_eq_true rfl⟩ rfl ?_
  obtain ⟨hb5, h⟩ := gb_i h
  exact ww_zret (pc := 12) hC hr (gb_n hb5) (ret_r h) dX12_isDigit_12
noncomputable def fX12_takesNumber_16 (n : Nat) : Int32 → XD → Option (Int32 × XD) := Nat.rec (motive := fun _ => Int32 → XD → Option (Int32 × XD)) (fun _ _ => none) (fun _ f => fun x1 X => if ((2 : Int32)) ≤ x1 then some ((1 : Int32), X) else bnd (fX12_isDigit X) (fun r5 => if r5 = 0 then some ((1 : Int32), X) else bnd (fX12_next X) (fun r7 => nm (wI X 0 13 (((((10 : Int32)) * (X.1 0 13)) + r7) - ((48 : Int32)))) (fun X_8 => nm (wI X_8 0 12 ((X_8.1 0 12) + ((1 : Int32)))) (fun X_9 => nm (x1 + (1 : Int32)) (fun y10 => f y10 X_9)))))) n
theorem fX12_takesNumber_16_s (n : Nat) (x1 : Int32) (X : XD) : fX12_takesNumber_16 (n + 1) x1 X = if ((2 : Int32)) ≤ x1 then some ((1 : Int32), X) else bnd (fX12_isDigit X) (fun r5 => if r5 = 0 then some ((1 : Int32), X) else bnd (fX12_next X) (fun r7 => nm (wI X 0 13 (((((10 : Int32)) * (X.1 0 13)) + r7) - ((48 : Int32)))) (fun X_8 => nm (wI X_8 0 12 ((X_8.1 0 12) + ((1 : Int32)))) (fun X_9 => nm (x1 + (1 : Int32)) (fun y10 => (fX12_takesNumber_16 n) y10 X_9))))) := rfl
noncomputable def fX12_takesNumber (X : XD) : Option (Int32 × XD) := bnd (fX12_isDigit X) (fun r2 => if r2 = 0 then some ((0 : Int32), X) else nm (wI X 0 13 ((0 : Int32))) (fun X_3 => fX12_takesNumber_16 FU ((0 : Int32)) X_3))
set_option maxHeartbeats 40000000 in
set_option maxRecDepth 100000 in
theorem ceX12_takesNumber {l : Launch} {E : XE} {w : XW} {z : Nat} {Z : XS} (hL : LayM Z) {X X1 : XD} {r : Int32} (h : fX12_takesNumber X = some (r, X1)) : Ct l E w yX12_takesNumber (wsM yX12_takesNumber cX12_takesNumber 2 (some .boolean)) (rmX 3 0 0) 0 0 [.ref (w.1 0)] z z Z Z X X1 (some (.int r)) := by
  refine ct_of (by decide) (Nat.le_of_ble_eq_true rfl) ?_
  intro p e s m args below meth c hC hr hin hav
  have j16 : ∀ (n : Nat), ∀ (x1 : Int32) (X : XD), fX12_takesNumber_16 n x1 X = some (r, X1) → WW p l e (rmX 3 0 0) s m args below meth c 2 (MQ below (XQ E w z Z X1 (some (.int r))) args s 0 0 (A0 E)) E w 0 0 z Z 16 [(0, .ref (w.1 0)), (1, .int x1)] [] X := by
    intro n
    induction n with
    | zero =>
      intro x1 X h
      cases (show none = some (r, X1) from h)
    | succ n ih =>
      intro x1 X h
      rw [fX12_takesNumber_16_s] at h
      refine ww_iload_n (pc := 16) hC dX12_takesNumber_16 1 rfl ?_
      refine ww_iconst (pc := 17) hC (v := (2 : Int32)) dX12_takesNumber_17 (by decide) ?_
      refine ww_icmp_ge (pc := 18) hC h 63 dX12_takesNumber_18 (by decide) (fun h => ?_) (fun h => ?_)
      · refine ww_iconst (pc := 63) hC (v := (1 : Int32)) dX12_takesNumber_63 (by decide) ?_
        exact ww_zret (pc := 64) hC hr rfl h dX12_takesNumber_64
      · refine ww_aload_n (pc := 21) hC dX12_takesNumber_21 0 rfl ?_
        obtain ⟨r5, h4, h⟩ := bnd_i h
        refine ww_callVi (pc := 22) hC [] hL.1.1 hL.1.2 (by decide) (ceX12_isDigit hL h4) ql_X12_233 qi_X12_isDigit qs_X12_X12_isDigit qn_X12 qc_X12_isDigit rfl ⟨by decide, by decide, rfl⟩ rfl ⟨Nat.le_of_ble_eq_true rfl, Nat.le_of_ble_eq_true rfl⟩ (by decide) (rest := []) (Nat.le_of_ble_eq_true rfl) dX12_takesNumber_22 ⟨Nat.le_of_ble_eq_true rfl, Nat.le_of_ble_eq_true rfl⟩ rfl ?_
        refine ww_if_eq (pc := 25) hC h 63 dX12_takesNumber_25 (by decide) (fun h => ?_) (fun h => ?_)
        · refine ww_iconst (pc := 63) hC (v := (1 : Int32)) dX12_takesNumber_63 (by decide) ?_
          exact ww_zret (pc := 64) hC hr rfl h dX12_takesNumber_64
        · refine ww_aload_n (pc := 28) hC dX12_takesNumber_28 0 rfl ?_
          refine ww_bipush (pc := 29) hC (v := (10 : Int32)) dX12_takesNumber_29 (by decide) ?_
          refine ww_aload_n (pc := 31) hC dX12_takesNumber_31 0 rfl ?_
          refine ww_getI (pc := 32) hC 12 13 hL.1 RX12 (by decide) (by decide) rfl qf_X12_50 (Or.inl rfl) dX12_takesNumber_32 ?_
          refine ww_imul (pc := 35) hC dX12_takesNumber_35 ?_
          refine ww_aload_n (pc := 36) hC dX12_takesNumber_36 0 rfl ?_
          obtain ⟨r7, h6, h⟩ := bnd_i h
          refine ww_callVi (pc := 37) hC [] hL.1.1 hL.1.2 (by decide) (ceX12_next hL h6) ql_X12_226 qi_X12_next qs_X12_X12_next qn_X12 qc_X12_next rfl ⟨by decide, by decide, rfl⟩ rfl ⟨Nat.le_of_ble_eq_true rfl, Nat.le_of_ble_eq_true rfl⟩ (by decide) (rest := [.int (((10 : Int32)) * (X.1 0 13)), .ref (w.1 0)]) (Nat.le_of_ble_eq_true rfl) dX12_takesNumber_37 ⟨Nat.le_of_ble_eq_true rfl, Nat.le_of_ble_eq_true rfl⟩ rfl ?_
          refine ww_iadd (pc := 40) hC dX12_takesNumber_40 ?_
          refine ww_bipush (pc := 41) hC (v := (48 : Int32)) dX12_takesNumber_41 (by decide) ?_
          refine ww_isub (pc := 43) hC dX12_takesNumber_43 ?_
          refine ww_putI (pc := 44) hC 12 13 hL.1 RX12 (by decide) (by decide) rfl qf_X12_50 rfl rfl rfl rfl dX12_takesNumber_44 ?_
          obtain ⟨X_8, eX_8⟩ : ∃ q, q = wI X 0 13 (((((10 : Int32)) * (X.1 0 13)) + r7) - ((48 : Int32))) := ⟨_, rfl⟩
          replace h := nm_i h eX_8
          refine ww_nmX eX_8 ?_
          refine ww_aload_n (pc := 47) hC dX12_takesNumber_47 0 rfl ?_
          refine ww_dup (pc := 48) hC dX12_takesNumber_48 rfl ?_
          refine ww_getI (pc := 49) hC 12 12 hL.1 RX12 (by decide) (by decide) rfl qf_X12_47 (Or.inl rfl) dX12_takesNumber_49 ?_
          refine ww_iconst (pc := 52) hC (v := (1 : Int32)) dX12_takesNumber_52 (by decide) ?_
          refine ww_iadd (pc := 53) hC dX12_takesNumber_53 ?_
          refine ww_putI (pc := 54) hC 12 12 hL.1 RX12 (by decide) (by decide) rfl qf_X12_47 rfl rfl rfl rfl dX12_takesNumber_54 ?_
          obtain ⟨X_9, eX_9⟩ : ∃ q, q = wI X_8 0 12 ((X_8.1 0 12) + ((1 : Int32))) := ⟨_, rfl⟩
          replace h := nm_i h eX_9
          refine ww_nmX eX_9 ?_
          obtain ⟨y10, ey10⟩ : ∃ q, q = x1 + (1 : Int32) := ⟨_, rfl⟩
          replace h := nm_i h ey10
          refine ww_iinc (pc := 57) hC y10 [(1, .int y10), (0, .ref (w.1 0))] dX12_takesNumber_57 1 rfl (by rw [ey10]; rfl) (by decide) rfl ?_
          refine ww_goto (pc := 60) hC 16 dX12_takesNumber_60 (by decide) ?_
          refine ww_sub [1, 0] rfl ?_
          exact ih _ _ h
  unfold fX12_takesNumber at h
  refine ww_lv (lv' := [(0, .ref (w.1 0))]) rfl ?_
  refine ww_aload_n (pc := 0) hC dX12_takesNumber_0 0 rfl ?_
  obtain ⟨r2, h1, h⟩ := bnd_i h
  refine ww_callVi (pc := 1) hC [] hL.1.1 hL.1.2 (by decide) (ceX12_isDigit hL h1) ql_X12_233 qi_X12_isDigit qs_X12_X12_isDigit qn_X12 qc_X12_isDigit rfl ⟨by decide, by decide, rfl⟩ rfl ⟨Nat.le_of_ble_eq_true rfl, Nat.le_of_ble_eq_true rfl⟩ (by decide) (rest := []) (Nat.le_of_ble_eq_true rfl) dX12_takesNumber_1 ⟨Nat.le_of_ble_eq_true rfl, Nat.le_of_ble_eq_true rfl⟩ rfl ?_
  refine ww_if_ne (pc := 4) hC h 9 dX12_takesNumber_4 (by decide) (fun h => ?_) (fun h => ?_)
  · refine ww_aload_n (pc := 9) hC dX12_takesNumber_9 0 rfl ?_
    refine ww_iconst (pc := 10) hC (v := (0 : Int32)) dX12_takesNumber_10 (by decide) ?_
    refine ww_putI (pc := 11) hC 12 13 hL.1 RX12 (by decide) (by decide) rfl qf_X12_50 rfl rfl rfl rfl dX12_takesNumber_11 ?_
    obtain ⟨X_3, eX_3⟩ : ∃ q, q = wI X 0 13 ((0 : Int32)) := ⟨_, rfl⟩
    replace h := nm_i h eX_3
    refine ww_nmX eX_3 ?_
    refine ww_iconst (pc := 14) hC (v := (0 : Int32)) dX12_takesNumber_14 (by decide) ?_
    refine ww_istore_n (pc := 15) hC [(1, .int ((0 : Int32))), (0, .ref (w.1 0))] dX12_takesNumber_15 rfl (by decide) rfl ?_
    refine ww_sub [1, 0] rfl ?_
    exact j16 _ _ _ h
  · refine ww_iconst (pc := 7) hC (v := (0 : Int32)) dX12_takesNumber_7 (by decide) ?_
    exact ww_zret (pc := 8) hC hr rfl h dX12_takesNumber_8
noncomputable def fX12_emits (x1 : Int32) (X : XD) : Option (Unit × XD) := gin (X.1 0 22) 600 (nm (wI X 13 (X.1 0 22).toNatClampNeg x1) (fun X_1 => nm (wI X_1 0 22 ((X_1.1 0 22) + ((1 : Int32)))) (fun X_2 => some ((), X_2))))
set_option maxHeartbeats 40000000 in
set_option maxRecDepth 100000 in
theorem ceX12_emits {l : Launch} {E : XE} {w : XW} {z : Nat} {Z : XS} (hL : LayM Z) {x1 : Int32} {X X1 : XD} {r : Unit} (h : fX12_emits x1 X = some (r, X1)) : Ct l E w yX12_emits (wsM yX12_emits cX12_emits 2 none) (rmX 1 0 0) 0 0 [.ref (w.1 0), .int x1] z z Z Z X X1 none := by
  refine ct_of (by decide) (Nat.le_of_ble_eq_true rfl) ?_
  intro p e s m args below meth c hC hr hin hav
  unfold fX12_emits at h
  refine ww_lv (lv' := [(0, .ref (w.1 0)), (1, .int x1)]) rfl ?_
  refine ww_aload_n (pc := 0) hC dX12_emits_0 0 rfl ?_
  refine ww_getR (pc := 1) hC 12 20 13 hL.1 RX12 (by decide) (by decide) rfl (lay_12_20 hL).1 qf_X12_71 rfl dX12_emits_1 ?_
  refine ww_aload_n (pc := 4) hC dX12_emits_4 0 rfl ?_
  refine ww_getI (pc := 5) hC 12 22 hL.1 RX12 (by decide) (by decide) rfl qf_X12_77 (Or.inl rfl) dX12_emits_5 ?_
  refine ww_iload_n (pc := 8) hC dX12_emits_8 1 rfl ?_
  refine ww_iast (pc := 9) hC ((lay_12_20 hL).2) h dX12_emits_9 (fun h => ?_)
  obtain ⟨X_1, eX_1⟩ : ∃ q, q = wI X 13 (X.1 0 22).toNatClampNeg x1 := ⟨_, rfl⟩
  replace h := nm_i h eX_1
  refine ww_nmX eX_1 ?_
  refine ww_aload_n (pc := 10) hC dX12_emits_10 0 rfl ?_
  refine ww_dup (pc := 11) hC dX12_emits_11 rfl ?_
  refine ww_getI (pc := 12) hC 12 22 hL.1 RX12 (by decide) (by decide) rfl qf_X12_77 (Or.inl rfl) dX12_emits_12 ?_
  refine ww_iconst (pc := 15) hC (v := (1 : Int32)) dX12_emits_15 (by decide) ?_
  refine ww_iadd (pc := 16) hC dX12_emits_16 ?_
  refine ww_putI (pc := 17) hC 12 22 hL.1 RX12 (by decide) (by decide) rfl qf_X12_77 rfl rfl rfl rfl dX12_emits_17 ?_
  obtain ⟨X_2, eX_2⟩ : ∃ q, q = wI X_1 0 22 ((X_1.1 0 22) + ((1 : Int32))) := ⟨_, rfl⟩
  replace h := nm_i h eX_2
  refine ww_nmX eX_2 ?_
  exact ww_vret (pc := 20) hC hr h dX12_emits_20
noncomputable def fX12_whole_0 (n : Nat) : XD → Option (Unit × XD) := Nat.rec (motive := fun _ => XD → Option (Unit × XD)) (fun _ => none) (fun _ f => fun X => if (X.1 0 23) ≤ 0 then some ((), X) else gin ((X.1 0 23) - ((1 : Int32))) 101 (if (X.1 14 ((X.1 0 23) - ((1 : Int32))).toNatClampNeg) = ((33 : Int32)) then bnw (fX12_emits ((-33 : Int32)) X) (fun _ X_3 => nm (wI X_3 0 23 ((X_3.1 0 23) - ((1 : Int32)))) (fun X_4 => nm (wI X_4 0 24 ((X_4.1 0 24) - ((1 : Int32)))) (fun X_5 => f X_5))) else some ((), X))) n
theorem fX12_whole_0_s (n : Nat) (X : XD) : fX12_whole_0 (n + 1) X = if (X.1 0 23) ≤ 0 then some ((), X) else gin ((X.1 0 23) - ((1 : Int32))) 101 (if (X.1 14 ((X.1 0 23) - ((1 : Int32))).toNatClampNeg) = ((33 : Int32)) then bnw (fX12_emits ((-33 : Int32)) X) (fun _ X_3 => nm (wI X_3 0 23 ((X_3.1 0 23) - ((1 : Int32)))) (fun X_4 => nm (wI X_4 0 24 ((X_4.1 0 24) - ((1 : Int32)))) (fun X_5 => (fX12_whole_0 n) X_5))) else some ((), X)) := rfl
noncomputable def fX12_whole (X : XD) : Option (Unit × XD) := fX12_whole_0 FU X
set_option maxHeartbeats 40000000 in
set_option maxRecDepth 100000 in
theorem ceX12_whole {l : Launch} {E : XE} {w : XW} {z : Nat} {Z : XS} (hL : LayM Z) {X X1 : XD} {r : Unit} (h : fX12_whole X = some (r, X1)) : Ct l E w yX12_whole (wsM yX12_whole cX12_whole 1 none) (rmX 2 0 0) 0 0 [.ref (w.1 0)] z z Z Z X X1 none := by
  refine ct_of (by decide) (Nat.le_of_ble_eq_true rfl) ?_
  intro p e s m args below meth c hC hr hin hav
  have j0 : ∀ (n : Nat), ∀ (X : XD), fX12_whole_0 n X = some (r, X1) → WW p l e (rmX 2 0 0) s m args below meth c 1 (MQ below (XQ E w z Z X1 none) args s 0 0 (A0 E)) E w 0 0 z Z 0 [(0, .ref (w.1 0))] [] X := by
    intro n
    induction n with
    | zero =>
      intro X h
      cases (show none = some (r, X1) from h)
    | succ n ih =>
      intro X h
      rw [fX12_whole_0_s] at h
      refine ww_aload_n (pc := 0) hC dX12_whole_0 0 rfl ?_
      refine ww_getI (pc := 1) hC 12 23 hL.1 RX12 (by decide) (by decide) rfl qf_X12_80 (Or.inl rfl) dX12_whole_1 ?_
      refine ww_if_le (pc := 4) hC h 52 dX12_whole_4 (by decide) (fun h => ?_) (fun h => ?_)
      · exact ww_vret (pc := 52) hC hr h dX12_whole_52
      · refine ww_aload_n (pc := 7) hC dX12_whole_7 0 rfl ?_
        refine ww_getR (pc := 8) hC 12 21 14 hL.1 RX12 (by decide) (by decide) rfl (lay_12_21 hL).1 qf_X12_74 rfl dX12_whole_8 ?_
        refine ww_aload_n (pc := 11) hC dX12_whole_11 0 rfl ?_
        refine ww_getI (pc := 12) hC 12 23 hL.1 RX12 (by decide) (by decide) rfl qf_X12_80 (Or.inl rfl) dX12_whole_12 ?_
        refine ww_iconst (pc := 15) hC (v := (1 : Int32)) dX12_whole_15 (by decide) ?_
        refine ww_isub (pc := 16) hC dX12_whole_16 ?_
        refine ww_iald (pc := 17) hC ((lay_12_21 hL).2) h dX12_whole_17 (fun h => ?_)
        refine ww_bipush (pc := 18) hC (v := (33 : Int32)) dX12_whole_18 (by decide) ?_
        refine ww_icmp_ne (pc := 20) hC h 52 dX12_whole_20 (by decide) (fun h => ?_) (fun h => ?_)
        · exact ww_vret (pc := 52) hC hr h dX12_whole_52
        · refine ww_aload_n (pc := 23) hC dX12_whole_23 0 rfl ?_
          refine ww_bipush (pc := 24) hC (v := (-33 : Int32)) dX12_whole_24 (by decide) ?_
          obtain ⟨_, X_3, h1, h⟩ := bnw_i h
          refine ww_callVv (pc := 26) hC [.int ((-33 : Int32))] hL.1.1 hL.1.2 (by decide) (ceX12_emits hL h1) ql_X12_237 qi_X12_emits qs_X12_X12_emits qn_X12 qc_X12_emits rfl ⟨by decide, by decide, rfl⟩ rfl ⟨Nat.le_of_ble_eq_true rfl, Nat.le_of_ble_eq_true rfl⟩ (by decide) (rest := []) (Nat.le_of_ble_eq_true rfl) dX12_whole_26 ⟨Nat.le_of_ble_eq_true rfl, Nat.le_of_ble_eq_true rfl⟩ rfl ?_
          refine ww_aload_n (pc := 29) hC dX12_whole_29 0 rfl ?_
          refine ww_dup (pc := 30) hC dX12_whole_30 rfl ?_
          refine ww_getI (pc := 31) hC 12 23 hL.1 RX12 (by decide) (by decide) rfl qf_X12_80 (Or.inl rfl) dX12_whole_31 ?_
          refine ww_iconst (pc := 34) hC (v := (1 : Int32)) dX12_whole_34 (by decide) ?_
          refine ww_isub (pc := 35) hC dX12_whole_35 ?_
          refine ww_putI (pc := 36) hC 12 23 hL.1 RX12 (by decide) (by decide) rfl qf_X12_80 rfl rfl rfl rfl dX12_whole_36 ?_
          obtain ⟨X_4, eX_4⟩ : ∃ q, q = wI X_3 0 23 ((X_3.1 0 23) - ((1 : Int32))) := ⟨_, rfl⟩
          replace h := nm_i h eX_4
          refine ww_nmX eX_4 ?_
          refine ww_aload_n (pc := 39) hC dX12_whole_39 0 rfl ?_
          refine ww_dup (pc := 40) hC dX12_whole_40 rfl ?_
          refine ww_getI (pc := 41) hC 12 24 hL.1 RX12 (by decide) (by decide) rfl qf_X12_83 (Or.inl rfl) dX12_whole_41 ?_
          refine ww_iconst (pc := 44) hC (v := (1 : Int32)) dX12_whole_44 (by decide) ?_
          refine ww_isub (pc := 45) hC dX12_whole_45 ?_
          refine ww_putI (pc := 46) hC 12 24 hL.1 RX12 (by decide) (by decide) rfl qf_X12_83 rfl rfl rfl rfl dX12_whole_46 ?_
          obtain ⟨X_5, eX_5⟩ : ∃ q, q = wI X_4 0 24 ((X_4.1 0 24) - ((1 : Int32))) := ⟨_, rfl⟩
          replace h := nm_i h eX_5
          refine ww_nmX eX_5 ?_
          refine ww_goto (pc := 49) hC 0 dX12_whole_49 (by decide) ?_
          refine ww_sub [0] rfl ?_
          exact ih _ h
  unfold fX12_whole at h
  refine ww_lv (lv' := [(0, .ref (w.1 0))]) rfl ?_
  refine ww_sub [0] rfl ?_
  exact j0 _ _ h
noncomputable def fX12_settle_45 (k0 : Int32 → XD → Option (Unit × XD)) (x1 : Int32) (X : XD) : Option (Unit × XD) := nm (wI X 0 23 ((X.1 0 23) - ((1 : Int32)))) (fun X_1 => gin (X_1.1 0 23) 101 (bnw (fX12_emits (-(X_1.1 14 (X_1.1 0 23).toNatClampNeg)) X_1) (fun _ X_4 => k0 x1 X_4)))
noncomputable def fX12_settle_0 (n : Nat) : Int32 → XD → Option (Unit × XD) := Nat.rec (motive := fun _ => Int32 → XD → Option (Unit × XD)) (fun _ _ => none) (fun _ f => fun x1 X => if (X.1 0 23) ≤ 0 then some ((), X) else gin ((X.1 0 23) - ((1 : Int32))) 101 (if (X.1 14 ((X.1 0 23) - ((1 : Int32))).toNatClampNeg) = ((38 : Int32)) then fX12_settle_45 (f) x1 X else gin ((X.1 0 23) - ((1 : Int32))) 101 (if (X.1 14 ((X.1 0 23) - ((1 : Int32))).toNatClampNeg) = ((124 : Int32)) then if x1 = ((38 : Int32)) then some ((), X) else fX12_settle_45 (f) x1 X else some ((), X)))) n
theorem fX12_settle_0_s (n : Nat) (x1 : Int32) (X : XD) : fX12_settle_0 (n + 1) x1 X = if (X.1 0 23) ≤ 0 then some ((), X) else gin ((X.1 0 23) - ((1 : Int32))) 101 (if (X.1 14 ((X.1 0 23) - ((1 : Int32))).toNatClampNeg) = ((38 : Int32)) then fX12_settle_45 ((fX12_settle_0 n)) x1 X else gin ((X.1 0 23) - ((1 : Int32))) 101 (if (X.1 14 ((X.1 0 23) - ((1 : Int32))).toNatClampNeg) = ((124 : Int32)) then if x1 = ((38 : Int32)) then some ((), X) else fX12_settle_45 ((fX12_settle_0 n)) x1 X else some ((), X))) := rfl
noncomputable def fX12_settle (x1 : Int32) (X : XD) : Option (Unit × XD) := fX12_settle_0 FU x1 X
set_option maxHeartbeats 40000000 in
set_option maxRecDepth 100000 in
theorem ceX12_settle {l : Launch} {E : XE} {w : XW} {z : Nat} {Z : XS} (hL : LayM Z) {x1 : Int32} {X X1 : XD} {r : Unit} (h : fX12_settle x1 X = some (r, X1)) : Ct l E w yX12_settle (wsM yX12_settle cX12_settle 2 none) (rmX 2 0 0) 0 0 [.ref (w.1 0), .int x1] z z Z Z X X1 none := by
  refine ct_of (by decide) (Nat.le_of_ble_eq_true rfl) ?_
  intro p e s m args below meth c hC hr hin hav
  have j45 : ∀ (k0 : Int32 → XD → Option (Unit × XD)) (hk0 : ∀ (x1 : Int32) (X : XD), k0 x1 X = some (r, X1) → WW p l e (rmX 2 0 0) s m args below meth c 2 (MQ below (XQ E w z Z X1 none) args s 0 0 (A0 E)) E w 0 0 z Z 0 [(0, .ref (w.1 0)), (1, .int x1)] [] X), ∀ (x1 : Int32) (X : XD), fX12_settle_45 k0 x1 X = some (r, X1) → WW p l e (rmX 2 0 0) s m args below meth c 2 (MQ below (XQ E w z Z X1 none) args s 0 0 (A0 E)) E w 0 0 z Z 45 [(0, .ref (w.1 0)), (1, .int x1)] [] X := by
    intro k0 hk0 x1 X h
    unfold fX12_settle_45 at h
    refine ww_aload_n (pc := 45) hC dX12_settle_45 0 rfl ?_
    refine ww_dup (pc := 46) hC dX12_settle_46 rfl ?_
    refine ww_getI (pc := 47) hC 12 23 hL.1 RX12 (by decide) (by decide) rfl qf_X12_80 (Or.inl rfl) dX12_settle_47 ?_
    refine ww_iconst (pc := 50) hC (v := (1 : Int32)) dX12_settle_50 (by decide) ?_
    refine ww_isub (pc := 51) hC dX12_settle_51 ?_
    refine ww_putI (pc := 52) hC 12 23 hL.1 RX12 (by decide) (by decide) rfl qf_X12_80 rfl rfl rfl rfl dX12_settle_52 ?_
    obtain ⟨X_1, eX_1⟩ : ∃ q, q = wI X 0 23 ((X.1 0 23) - ((1 : Int32))) := ⟨_, rfl⟩
    replace h := nm_i h eX_1
    refine ww_nmX eX_1 ?_
    refine ww_aload_n (pc := 55) hC dX12_settle_55 0 rfl ?_
    refine ww_aload_n (pc := 56) hC dX12_settle_56 0 rfl ?_
    refine ww_getR (pc := 57) hC 12 21 14 hL.1 RX12 (by decide) (by decide) rfl (lay_12_21 hL).1 qf_X12_74 rfl dX12_settle_57 ?_
    refine ww_aload_n (pc := 60) hC dX12_settle_60 0 rfl ?_
    refine ww_getI (pc := 61) hC 12 23 hL.1 RX12 (by decide) (by decide) rfl qf_X12_80 (Or.inl rfl) dX12_settle_61 ?_
    refine ww_iald (pc := 64) hC ((lay_12_21 hL).2) h dX12_settle_64 (fun h => ?_)
    refine ww_ineg (pc := 65) hC dX12_settle_65 ?_
    obtain ⟨_, X_4, h2, h⟩ := bnw_i h
    refine ww_callVv (pc := 66) hC [.int (-(X_1.1 14 (X_1.1 0 23).toNatClampNeg))] hL.1.1 hL.1.2 (by decide) (ceX12_emits hL h2) ql_X12_237 qi_X12_emits qs_X12_X12_emits qn_X12 qc_X12_emits rfl ⟨by decide, by decide, rfl⟩ rfl ⟨Nat.le_of_ble_eq_true rfl, Nat.le_of_ble_eq_true rfl⟩ (by decide) (rest := []) (Nat.le_of_ble_eq_true rfl) dX12_settle_66 ⟨Nat.le_of_ble_eq_true rfl, Nat.le_of_ble_eq_true rfl⟩ rfl ?_
    refine ww_goto (pc := 69) hC 0 dX12_settle_69 (by decide) ?_
    refine ww_sub [0, 1] rfl ?_
    exact hk0 _ _ h
  have j0 : ∀ (n : Nat), ∀ (x1 : Int32) (X : XD), fX12_settle_0 n x1 X = some (r, X1) → WW p l e (rmX 2 0 0) s m args below meth c 2 (MQ below (XQ E w z Z X1 none) args s 0 0 (A0 E)) E w 0 0 z Z 0 [(0, .ref (w.1 0)), (1, .int x1)] [] X := by
    intro n
    induction n with
    | zero =>
      intro x1 X h
      cases (show none = some (r, X1) from h)
    | succ n ih =>
      intro x1 X h
      rw [fX12_settle_0_s] at h
      refine ww_aload_n (pc := 0) hC dX12_settle_0 0 rfl ?_
      refine ww_getI (pc := 1) hC 12 23 hL.1 RX12 (by decide) (by decide) rfl qf_X12_80 (Or.inl rfl) dX12_settle_1 ?_
      refine ww_if_le (pc := 4) hC h 72 dX12_settle_4 (by decide) (fun h => ?_) (fun h => ?_)
      · exact ww_vret (pc := 72) hC hr h dX12_settle_72
      · refine ww_aload_n (pc := 7) hC dX12_settle_7 0 rfl ?_
        refine ww_getR (pc := 8) hC 12 21 14 hL.1 RX12 (by decide) (by decide) rfl (lay_12_21 hL).1 qf_X12_74 rfl dX12_settle_8 ?_
        refine ww_aload_n (pc := 11) hC dX12_settle_11 0 rfl ?_
        refine ww_getI (pc := 12) hC 12 23 hL.1 RX12 (by decide) (by decide) rfl qf_X12_80 (Or.inl rfl) dX12_settle_12 ?_
        refine ww_iconst (pc := 15) hC (v := (1 : Int32)) dX12_settle_15 (by decide) ?_
        refine ww_isub (pc := 16) hC dX12_settle_16 ?_
        refine ww_iald (pc := 17) hC ((lay_12_21 hL).2) h dX12_settle_17 (fun h => ?_)
        refine ww_bipush (pc := 18) hC (v := (38 : Int32)) dX12_settle_18 (by decide) ?_
        refine ww_icmp_eq (pc := 20) hC h 45 dX12_settle_20 (by decide) (fun h => ?_) (fun h => ?_)
        · refine ww_sub [0, 1] rfl ?_
          exact j45 _ ih _ _ h
        · refine ww_aload_n (pc := 23) hC dX12_settle_23 0 rfl ?_
          refine ww_getR (pc := 24) hC 12 21 14 hL.1 RX12 (by decide) (by decide) rfl (lay_12_21 hL).1 qf_X12_74 rfl dX12_settle_24 ?_
          refine ww_aload_n (pc := 27) hC dX12_settle_27 0 rfl ?_
          refine ww_getI (pc := 28) hC 12 23 hL.1 RX12 (by decide) (by decide) rfl qf_X12_80 (Or.inl rfl) dX12_settle_28 ?_
          refine ww_iconst (pc := 31) hC (v := (1 : Int32)) dX12_settle_31 (by decide) ?_
          refine ww_isub (pc := 32) hC dX12_settle_32 ?_
          refine ww_iald (pc := 33) hC ((lay_12_21 hL).2) h dX12_settle_33 (fun h => ?_)
          refine ww_bipush (pc := 34) hC (v := (124 : Int32)) dX12_settle_34 (by decide) ?_
          refine ww_icmp_ne (pc := 36) hC h 72 dX12_settle_36 (by decide) (fun h => ?_) (fun h => ?_)
          · exact ww_vret (pc := 72) hC hr h dX12_settle_72
          · refine ww_iload_n (pc := 39) hC dX12_settle_39 1 rfl ?_
            refine ww_bipush (pc := 40) hC (v := (38 : Int32)) dX12_settle_40 (by decide) ?_
            refine ww_icmp_eq (pc := 42) hC h 72 dX12_settle_42 (by decide) (fun h => ?_) (fun h => ?_)
            · exact ww_vret (pc := 72) hC hr h dX12_settle_72
            · refine ww_sub [0, 1] rfl ?_
              exact j45 _ ih _ _ h
  unfold fX12_settle at h
  refine ww_lv (lv' := [(0, .ref (w.1 0)), (1, .int x1)]) rfl ?_
  refine ww_sub [0, 1] rfl ?_
  exact j0 _ _ _ h
noncomputable def fX12_place (x1 : Int32) (X : XD) : Option Int32 := if x1 = (97 : Int32) then some ((5 : Int32)) else (if x1 = (98 : Int32) then some ((-1 : Int32)) else (if x1 = (99 : Int32) then some ((-1 : Int32)) else (if x1 = (100 : Int32) then some ((-1 : Int32)) else (if x1 = (101 : Int32) then some ((-1 : Int32)) else (if x1 = (102 : Int32) then some ((-1 : Int32)) else (if x1 = (103 : Int32) then some ((4 : Int32)) else (if x1 = (104 : Int32) then some ((-1 : Int32)) else (if x1 = (105 : Int32) then some ((-1 : Int32)) else (if x1 = (106 : Int32) then some ((-1 : Int32)) else (if x1 = (107 : Int32) then some ((1 : Int32)) else (if x1 = (108 : Int32) then some ((-1 : Int32)) else (if x1 = (109 : Int32) then some ((-1 : Int32)) else (if x1 = (110 : Int32) then some ((3 : Int32)) else (if x1 = (111 : Int32) then some ((-1 : Int32)) else (if x1 = (112 : Int32) then some ((0 : Int32)) else (if x1 = (113 : Int32) then some ((-1 : Int32)) else (if x1 = (114 : Int32) then some ((-1 : Int32)) else (if x1 = (115 : Int32) then some ((2 : Int32)) else (some ((-1 : Int32)))))))))))))))))))))
set_option maxHeartbeats 40000000 in
set_option maxRecDepth 100000 in
theorem ceX12_place {l : Launch} {E : XE} {w : XW} {z : Nat} {Z : XS} (hL : LayM Z) {x1 : Int32} {X : XD} {r : Int32} (h : fX12_place x1 X = some r) : Ct l E w yX12_place (wsM yX12_place cX12_place 2 (some .int)) (rmX 1 0 0) 0 0 [.ref (w.1 0), .int x1] z z Z Z X X (some (.int r)) := by
  refine ct_of (by decide) (Nat.le_of_ble_eq_true rfl) ?_
  intro p e s m args below meth c hC hr hin hav
  unfold fX12_place at h
  refine ww_lv (lv' := [(0, .ref (w.1 0)), (1, .int x1)]) rfl ?_
  refine ww_iload_n (pc := 0) hC dX12_place_0 1 rfl ?_
  rcases Classical.em (x1 = (97 : Int32)) with q1 | q1
  · replace h := ite_t h q1
    refine ww_tableIn (pc := 1) hC 102 dX12_place_1 (97 : Int32) q1 (by decide) (by decide) rfl (by decide) ?_
    refine ww_iconst (pc := 102) hC (v := (5 : Int32)) dX12_place_102 (by decide) ?_
    exact ww_iret (pc := 103) hC hr (ret_r h) dX12_place_103
  replace h := ite_f h q1
  rcases Classical.em (x1 = (98 : Int32)) with q2 | q2
  · replace h := ite_t h q2
    refine ww_tableIn (pc := 1) hC 104 dX12_place_1 (98 : Int32) q2 (by decide) (by decide) rfl (by decide) ?_
    refine ww_iconst (pc := 104) hC (v := (-1 : Int32)) dX12_place_104 (by decide) ?_
    exact ww_iret (pc := 105) hC hr (ret_r h) dX12_place_105
  replace h := ite_f h q2
  rcases Classical.em (x1 = (99 : Int32)) with q3 | q3
  · replace h := ite_t h q3
    refine ww_tableIn (pc := 1) hC 104 dX12_place_1 (99 : Int32) q3 (by decide) (by decide) rfl (by decide) ?_
    refine ww_iconst (pc := 104) hC (v := (-1 : Int32)) dX12_place_104 (by decide) ?_
    exact ww_iret (pc := 105) hC hr (ret_r h) dX12_place_105
  replace h := ite_f h q3
  rcases Classical.em (x1 = (100 : Int32)) with q4 | q4
  · replace h := ite_t h q4
    refine ww_tableIn (pc := 1) hC 104 dX12_place_1 (100 : Int32) q4 (by decide) (by decide) rfl (by decide) ?_
    refine ww_iconst (pc := 104) hC (v := (-1 : Int32)) dX12_place_104 (by decide) ?_
    exact ww_iret (pc := 105) hC hr (ret_r h) dX12_place_105
  replace h := ite_f h q4
  rcases Classical.em (x1 = (101 : Int32)) with q5 | q5
  · replace h := ite_t h q5
    refine ww_tableIn (pc := 1) hC 104 dX12_place_1 (101 : Int32) q5 (by decide) (by decide) rfl (by decide) ?_
    refine ww_iconst (pc := 104) hC (v := (-1 : Int32)) dX12_place_104 (by decide) ?_
    exact ww_iret (pc := 105) hC hr (ret_r h) dX12_place_105
  replace h := ite_f h q5
  rcases Classical.em (x1 = (102 : Int32)) with q6 | q6
  · replace h := ite_t h q6
    refine ww_tableIn (pc := 1) hC 104 dX12_place_1 (102 : Int32) q6 (by decide) (by decide) rfl (by decide) ?_
    refine ww_iconst (pc := 104) hC (v := (-1 : Int32)) dX12_place_104 (by decide) ?_
    exact ww_iret (pc := 105) hC hr (ret_r h) dX12_place_105
  replace h := ite_f h q6
  rcases Classical.em (x1 = (103 : Int32)) with q7 | q7
  · replace h := ite_t h q7
    refine ww_tableIn (pc := 1) hC 100 dX12_place_1 (103 : Int32) q7 (by decide) (by decide) rfl (by decide) ?_
    refine ww_iconst (pc := 100) hC (v := (4 : Int32)) dX12_place_100 (by decide) ?_
    exact ww_iret (pc := 101) hC hr (ret_r h) dX12_place_101
  replace h := ite_f h q7
  rcases Classical.em (x1 = (104 : Int32)) with q8 | q8
  · replace h := ite_t h q8
    refine ww_tableIn (pc := 1) hC 104 dX12_place_1 (104 : Int32) q8 (by decide) (by decide) rfl (by decide) ?_
    refine ww_iconst (pc := 104) hC (v := (-1 : Int32)) dX12_place_104 (by decide) ?_
    exact ww_iret (pc := 105) hC hr (ret_r h) dX12_place_105
  replace h := ite_f h q8
  rcases Classical.em (x1 = (105 : Int32)) with q9 | q9
  · replace h := ite_t h q9
    refine ww_tableIn (pc := 1) hC 104 dX12_place_1 (105 : Int32) q9 (by decide) (by decide) rfl (by decide) ?_
    refine ww_iconst (pc := 104) hC (v := (-1 : Int32)) dX12_place_104 (by decide) ?_
    exact ww_iret (pc := 105) hC hr (ret_r h) dX12_place_105
  replace h := ite_f h q9
  rcases Classical.em (x1 = (106 : Int32)) with q10 | q10
  · replace h := ite_t h q10
    refine ww_tableIn (pc := 1) hC 104 dX12_place_1 (106 : Int32) q10 (by decide) (by decide) rfl (by decide) ?_
    refine ww_iconst (pc := 104) hC (v := (-1 : Int32)) dX12_place_104 (by decide) ?_
    exact ww_iret (pc := 105) hC hr (ret_r h) dX12_place_105
  replace h := ite_f h q10
  rcases Classical.em (x1 = (107 : Int32)) with q11 | q11
  · replace h := ite_t h q11
    refine ww_tableIn (pc := 1) hC 94 dX12_place_1 (107 : Int32) q11 (by decide) (by decide) rfl (by decide) ?_
    refine ww_iconst (pc := 94) hC (v := (1 : Int32)) dX12_place_94 (by decide) ?_
    exact ww_iret (pc := 95) hC hr (ret_r h) dX12_place_95
  replace h := ite_f h q11
  rcases Classical.em (x1 = (108 : Int32)) with q12 | q12
  · replace h := ite_t h q12
    refine ww_tableIn (pc := 1) hC 104 dX12_place_1 (108 : Int32) q12 (by decide) (by decide) rfl (by decide) ?_
    refine ww_iconst (pc := 104) hC (v := (-1 : Int32)) dX12_place_104 (by decide) ?_
    exact ww_iret (pc := 105) hC hr (ret_r h) dX12_place_105
  replace h := ite_f h q12
  rcases Classical.em (x1 = (109 : Int32)) with q13 | q13
  · replace h := ite_t h q13
    refine ww_tableIn (pc := 1) hC 104 dX12_place_1 (109 : Int32) q13 (by decide) (by decide) rfl (by decide) ?_
    refine ww_iconst (pc := 104) hC (v := (-1 : Int32)) dX12_place_104 (by decide) ?_
    exact ww_iret (pc := 105) hC hr (ret_r h) dX12_place_105
  replace h := ite_f h q13
  rcases Classical.em (x1 = (110 : Int32)) with q14 | q14
  · replace h := ite_t h q14
    refine ww_tableIn (pc := 1) hC 98 dX12_place_1 (110 : Int32) q14 (by decide) (by decide) rfl (by decide) ?_
    refine ww_iconst (pc := 98) hC (v := (3 : Int32)) dX12_place_98 (by decide) ?_
    exact ww_iret (pc := 99) hC hr (ret_r h) dX12_place_99
  replace h := ite_f h q14
  rcases Classical.em (x1 = (111 : Int32)) with q15 | q15
  · replace h := ite_t h q15
    refine ww_tableIn (pc := 1) hC 104 dX12_place_1 (111 : Int32) q15 (by decide) (by decide) rfl (by decide) ?_
    refine ww_iconst (pc := 104) hC (v := (-1 : Int32)) dX12_place_104 (by decide) ?_
    exact ww_iret (pc := 105) hC hr (ret_r h) dX12_place_105
  replace h := ite_f h q15
  rcases Classical.em (x1 = (112 : Int32)) with q16 | q16
  · replace h := ite_t h q16
    refine ww_tableIn (pc := 1) hC 92 dX12_place_1 (112 : Int32) q16 (by decide) (by decide) rfl (by decide) ?_
    refine ww_iconst (pc := 92) hC (v := (0 : Int32)) dX12_place_92 (by decide) ?_
    exact ww_iret (pc := 93) hC hr (ret_r h) dX12_place_93
  replace h := ite_f h q16
  rcases Classical.em (x1 = (113 : Int32)) with q17 | q17
  · replace h := ite_t h q17
    refine ww_tableIn (pc := 1) hC 104 dX12_place_1 (113 : Int32) q17 (by decide) (by decide) rfl (by decide) ?_
    refine ww_iconst (pc := 104) hC (v := (-1 : Int32)) dX12_place_104 (by decide) ?_
    exact ww_iret (pc := 105) hC hr (ret_r h) dX12_place_105
  replace h := ite_f h q17
  rcases Classical.em (x1 = (114 : Int32)) with q18 | q18
  · replace h := ite_t h q18
    refine ww_tableIn (pc := 1) hC 104 dX12_place_1 (114 : Int32) q18 (by decide) (by decide) rfl (by decide) ?_
    refine ww_iconst (pc := 104) hC (v := (-1 : Int32)) dX12_place_104 (by decide) ?_
    exact ww_iret (pc := 105) hC hr (ret_r h) dX12_place_105
  replace h := ite_f h q18
  rcases Classical.em (x1 = (115 : Int32)) with q19 | q19
  · replace h := ite_t h q19
    refine ww_tableIn (pc := 1) hC 96 dX12_place_1 (115 : Int32) q19 (by decide) (by decide) rfl (by decide) ?_
    refine ww_iconst (pc := 96) hC (v := (2 : Int32)) dX12_place_96 (by decide) ?_
    exact ww_iret (pc := 97) hC hr (ret_r h) dX12_place_97
  replace h := ite_f h q19
  refine ww_tableOut (pc := 1) hC 104 dX12_place_1 (sw_out (fun k h1 h2 => by rcases (show k = 97 ∨ k = 98 ∨ k = 99 ∨ k = 100 ∨ k = 101 ∨ k = 102 ∨ k = 103 ∨ k = 104 ∨ k = 105 ∨ k = 106 ∨ k = 107 ∨ k = 108 ∨ k = 109 ∨ k = 110 ∨ k = 111 ∨ k = 112 ∨ k = 113 ∨ k = 114 ∨ k = 115 by omega) with rfl | rfl | rfl | rfl | rfl | rfl | rfl | rfl | rfl | rfl | rfl | rfl | rfl | rfl | rfl | rfl | rfl | rfl | rfl; exact q1; exact q2; exact q3; exact q4; exact q5; exact q6; exact q7; exact q8; exact q9; exact q10; exact q11; exact q12; exact q13; exact q14; exact q15; exact q16; exact q17; exact q18; exact q19)) (by decide) ?_
  refine ww_iconst (pc := 104) hC (v := (-1 : Int32)) dX12_place_104 (by decide) ?_
  exact ww_iret (pc := 105) hC hr (ret_r h) dX12_place_105
noncomputable def fX12_takesTest (X : XD) : Option (Int32 × XD) := bnd (fX12_next X) (fun r2 => bnd (fX12_place r2 X) (fun r4 => if 0 ≤ r4 then nm (wI X 0 12 ((X.1 0 12) + ((1 : Int32)))) (fun X_5 => bnd (fX12_next X_5) (fun r7 => bnd (fX12_in r7 ((60 : Int32)) ((62 : Int32)) X_5) (fun r9 => if r9 = 0 then some ((0 : Int32), X_5) else nm (wI X_5 0 12 ((X_5.1 0 12) + ((1 : Int32)))) (fun X_10 => bnw (fX12_takesNumber X_10) (fun r12 X_13 => if r12 = 0 then some ((0 : Int32), X_13) else bnw (fX12_emits (((((1000 : Int32)) * r4) + (((100 : Int32)) * (r7 - ((60 : Int32))))) + (X_13.1 0 13)) X_13) (fun _ X_16 => bnw (fX12_whole X_16) (fun _ X_19 => some ((1 : Int32), X_19)))))))) else some ((0 : Int32), X)))
set_option maxHeartbeats 40000000 in
set_option maxRecDepth 100000 in
theorem ceX12_takesTest {l : Launch} {E : XE} {w : XW} {z : Nat} {Z : XS} (hL : LayM Z) {X X1 : XD} {r : Int32} (h : fX12_takesTest X = some (r, X1)) : Ct l E w yX12_takesTest (wsM yX12_takesTest cX12_takesTest 3 (some .boolean)) (rmX 4 0 0) 0 0 [.ref (w.1 0)] z z Z Z X X1 (some (.int r)) := by
  refine ct_of (by decide) (Nat.le_of_ble_eq_true rfl) ?_
  intro p e s m args below meth c hC hr hin hav
  unfold fX12_takesTest at h
  refine ww_lv (lv' := [(0, .ref (w.1 0))]) rfl ?_
  refine ww_aload_n (pc := 0) hC dX12_takesTest_0 0 rfl ?_
  refine ww_aload_n (pc := 1) hC dX12_takesTest_1 0 rfl ?_
  obtain ⟨r2, h1, h⟩ := bnd_i h
  refine ww_callVi (pc := 2) hC [] hL.1.1 hL.1.2 (by decide) (ceX12_next hL h1) ql_X12_226 qi_X12_next qs_X12_X12_next qn_X12 qc_X12_next rfl ⟨by decide, by decide, rfl⟩ rfl ⟨Nat.le_of_ble_eq_true rfl, Nat.le_of_ble_eq_true rfl⟩ (by decide) (rest := [.ref (w.1 0)]) (Nat.le_of_ble_eq_true rfl) dX12_takesTest_2 ⟨Nat.le_of_ble_eq_true rfl, Nat.le_of_ble_eq_true rfl⟩ rfl ?_
  obtain ⟨r4, h3, h⟩ := bnd_i h
  refine ww_callVi (pc := 5) hC [.int r2] hL.1.1 hL.1.2 (by decide) (ceX12_place hL h3) ql_X12_241 qi_X12_place qs_X12_X12_place qn_X12 qc_X12_place rfl ⟨by decide, by decide, rfl⟩ rfl ⟨Nat.le_of_ble_eq_true rfl, Nat.le_of_ble_eq_true rfl⟩ (by decide) (rest := []) (Nat.le_of_ble_eq_true rfl) dX12_takesTest_5 ⟨Nat.le_of_ble_eq_true rfl, Nat.le_of_ble_eq_true rfl⟩ rfl ?_
  refine ww_istore_n (pc := 8) hC [(1, .int r4), (0, .ref (w.1 0))] dX12_takesTest_8 rfl (by decide) rfl ?_
  refine ww_iload_n (pc := 9) hC dX12_takesTest_9 0 rfl ?_
  refine ww_if_ge (pc := 10) hC h 15 dX12_takesTest_10 (by decide) (fun h => ?_) (fun h => ?_)
  · refine ww_aload_n (pc := 15) hC dX12_takesTest_15 1 rfl ?_
    refine ww_dup (pc := 16) hC dX12_takesTest_16 rfl ?_
    refine ww_getI (pc := 17) hC 12 12 hL.1 RX12 (by decide) (by decide) rfl qf_X12_47 (Or.inl rfl) dX12_takesTest_17 ?_
    refine ww_iconst (pc := 20) hC (v := (1 : Int32)) dX12_takesTest_20 (by decide) ?_
    refine ww_iadd (pc := 21) hC dX12_takesTest_21 ?_
    refine ww_putI (pc := 22) hC 12 12 hL.1 RX12 (by decide) (by decide) rfl qf_X12_47 rfl rfl rfl rfl dX12_takesTest_22 ?_
    obtain ⟨X_5, eX_5⟩ : ∃ q, q = wI X 0 12 ((X.1 0 12) + ((1 : Int32))) := ⟨_, rfl⟩
    replace h := nm_i h eX_5
    refine ww_nmX eX_5 ?_
    refine ww_aload_n (pc := 25) hC dX12_takesTest_25 1 rfl ?_
    obtain ⟨r7, h6, h⟩ := bnd_i h
    refine ww_callVi (pc := 26) hC [] hL.1.1 hL.1.2 (by decide) (ceX12_next hL h6) ql_X12_226 qi_X12_next qs_X12_X12_next qn_X12 qc_X12_next rfl ⟨by decide, by decide, rfl⟩ rfl ⟨Nat.le_of_ble_eq_true rfl, Nat.le_of_ble_eq_true rfl⟩ (by decide) (rest := []) (Nat.le_of_ble_eq_true rfl) dX12_takesTest_26 ⟨Nat.le_of_ble_eq_true rfl, Nat.le_of_ble_eq_true rfl⟩ rfl ?_
    refine ww_istore_n (pc := 29) hC [(2, .int r7), (1, .int r4), (0, .ref (w.1 0))] dX12_takesTest_29 rfl (by decide) rfl ?_
    refine ww_aload_n (pc := 30) hC dX12_takesTest_30 2 rfl ?_
    refine ww_iload_n (pc := 31) hC dX12_takesTest_31 0 rfl ?_
    refine ww_bipush (pc := 32) hC (v := (60 : Int32)) dX12_takesTest_32 (by decide) ?_
    refine ww_bipush (pc := 34) hC (v := (62 : Int32)) dX12_takesTest_34 (by decide) ?_
    obtain ⟨r9, h8, h⟩ := bnd_i h
    refine ww_callVi (pc := 36) hC [.int r7, .int ((60 : Int32)), .int ((62 : Int32))] hL.1.1 hL.1.2 (by decide) (ceX12_in hL h8) ql_X12_215 qi_X12_in qs_X12_X12_in qn_X12 qc_X12_in rfl ⟨by decide, by decide, rfl⟩ rfl ⟨Nat.le_of_ble_eq_true rfl, Nat.le_of_ble_eq_true rfl⟩ (by decide) (rest := []) (Nat.le_of_ble_eq_true rfl) dX12_takesTest_36 ⟨Nat.le_of_ble_eq_true rfl, Nat.le_of_ble_eq_true rfl⟩ rfl ?_
    refine ww_if_ne (pc := 39) hC h 44 dX12_takesTest_39 (by decide) (fun h => ?_) (fun h => ?_)
    · refine ww_aload_n (pc := 44) hC dX12_takesTest_44 2 rfl ?_
      refine ww_dup (pc := 45) hC dX12_takesTest_45 rfl ?_
      refine ww_getI (pc := 46) hC 12 12 hL.1 RX12 (by decide) (by decide) rfl qf_X12_47 (Or.inl rfl) dX12_takesTest_46 ?_
      refine ww_iconst (pc := 49) hC (v := (1 : Int32)) dX12_takesTest_49 (by decide) ?_
      refine ww_iadd (pc := 50) hC dX12_takesTest_50 ?_
      refine ww_putI (pc := 51) hC 12 12 hL.1 RX12 (by decide) (by decide) rfl qf_X12_47 rfl rfl rfl rfl dX12_takesTest_51 ?_
      obtain ⟨X_10, eX_10⟩ : ∃ q, q = wI X_5 0 12 ((X_5.1 0 12) + ((1 : Int32))) := ⟨_, rfl⟩
      replace h := nm_i h eX_10
      refine ww_nmX eX_10 ?_
      refine ww_aload_n (pc := 54) hC dX12_takesTest_54 2 rfl ?_
      obtain ⟨r12, X_13, h11, h⟩ := bnw_i h
      refine ww_callVi (pc := 55) hC [] hL.1.1 hL.1.2 (by decide) (ceX12_takesNumber hL h11) ql_X12_245 qi_X12_takesNumber qs_X12_X12_takesNumber qn_X12 qc_X12_takesNumber rfl ⟨by decide, by decide, rfl⟩ rfl ⟨Nat.le_of_ble_eq_true rfl, Nat.le_of_ble_eq_true rfl⟩ (by decide) (rest := []) (Nat.le_of_ble_eq_true rfl) dX12_takesTest_55 ⟨Nat.le_of_ble_eq_true rfl, Nat.le_of_ble_eq_true rfl⟩ rfl ?_
      refine ww_if_ne (pc := 58) hC h 63 dX12_takesTest_58 (by decide) (fun h => ?_) (fun h => ?_)
      · refine ww_aload_n (pc := 63) hC dX12_takesTest_63 2 rfl ?_
        refine ww_sipush (pc := 64) hC (v := (1000 : Int32)) dX12_takesTest_64 (by decide) ?_
        refine ww_iload_n (pc := 67) hC dX12_takesTest_67 1 rfl ?_
        refine ww_imul (pc := 68) hC dX12_takesTest_68 ?_
        refine ww_bipush (pc := 69) hC (v := (100 : Int32)) dX12_takesTest_69 (by decide) ?_
        refine ww_iload_n (pc := 71) hC dX12_takesTest_71 0 rfl ?_
        refine ww_bipush (pc := 72) hC (v := (60 : Int32)) dX12_takesTest_72 (by decide) ?_
        refine ww_isub (pc := 74) hC dX12_takesTest_74 ?_
        refine ww_imul (pc := 75) hC dX12_takesTest_75 ?_
        refine ww_iadd (pc := 76) hC dX12_takesTest_76 ?_
        refine ww_aload_n (pc := 77) hC dX12_takesTest_77 2 rfl ?_
        refine ww_getI (pc := 78) hC 12 13 hL.1 RX12 (by decide) (by decide) rfl qf_X12_50 (Or.inl rfl) dX12_takesTest_78 ?_
        refine ww_iadd (pc := 81) hC dX12_takesTest_81 ?_
        obtain ⟨_, X_16, h14, h⟩ := bnw_i h
        refine ww_callVv (pc := 82) hC [.int (((((1000 : Int32)) * r4) + (((100 : Int32)) * (r7 - ((60 : Int32))))) + (X_13.1 0 13))] hL.1.1 hL.1.2 (by decide) (ceX12_emits hL h14) ql_X12_237 qi_X12_emits qs_X12_X12_emits qn_X12 qc_X12_emits rfl ⟨by decide, by decide, rfl⟩ rfl ⟨Nat.le_of_ble_eq_true rfl, Nat.le_of_ble_eq_true rfl⟩ (by decide) (rest := []) (Nat.le_of_ble_eq_true rfl) dX12_takesTest_82 ⟨Nat.le_of_ble_eq_true rfl, Nat.le_of_ble_eq_true rfl⟩ rfl ?_
        refine ww_aload_n (pc := 85) hC dX12_takesTest_85 2 rfl ?_
        obtain ⟨_, X_19, h17, h⟩ := bnw_i h
        refine ww_callVv (pc := 86) hC [] hL.1.1 hL.1.2 (by decide) (ceX12_whole hL h17) ql_X12_248 qi_X12_whole qs_X12_X12_whole qn_X12 qc_X12_whole rfl ⟨by decide, by decide, rfl⟩ rfl ⟨Nat.le_of_ble_eq_true rfl, Nat.le_of_ble_eq_true rfl⟩ (by decide) (rest := []) (Nat.le_of_ble_eq_true rfl) dX12_takesTest_86 ⟨Nat.le_of_ble_eq_true rfl, Nat.le_of_ble_eq_true rfl⟩ rfl ?_
        refine ww_iconst (pc := 89) hC (v := (1 : Int32)) dX12_takesTest_89 (by decide) ?_
        exact ww_zret (pc := 90) hC hr rfl h dX12_takesTest_90
      · refine ww_iconst (pc := 61) hC (v := (0 : Int32)) dX12_takesTest_61 (by decide) ?_
        exact ww_zret (pc := 62) hC hr rfl h dX12_takesTest_62
    · refine ww_iconst (pc := 42) hC (v := (0 : Int32)) dX12_takesTest_42 (by decide) ?_
      exact ww_zret (pc := 43) hC hr rfl h dX12_takesTest_43
  · refine ww_iconst (pc := 13) hC (v := (0 : Int32)) dX12_takesTest_13 (by decide) ?_
    exact ww_zret (pc := 14) hC hr rfl h dX12_takesTest_14
noncomputable def fX12_takesE_43 (k22 : Int32 → Int32 → XD → Option (Int32 × XD)) (x1 : Int32) (x2 : Int32) (x3 : Int32) (X : XD) : Option (Int32 × XD) := if (X.1 0 24) = ((4 : Int32)) then some ((0 : Int32), X) else nm (wI X 0 24 ((X.1 0 24) + ((1 : Int32)))) (fun X_25 => gin (X_25.1 0 23) 101 (nm (wI X_25 14 (X_25.1 0 23).toNatClampNeg x3) (fun X_26 => nm (wI X_26 0 23 ((X_26.1 0 23) + ((1 : Int32)))) (fun X_27 => nm (wI X_27 0 12 ((X_27.1 0 12) + ((1 : Int32)))) (fun X_28 => k22 x1 x2 X_28)))))
noncomputable def fX12_takesE_122 (k22 : Int32 → Int32 → XD → Option (Int32 × XD)) (x1 : Int32) (x3 : Int32) (X : XD) : Option (Int32 × XD) := bnw (fX12_settle x3 X) (fun _ X_21 => gin (X_21.1 0 23) 101 (nm (wI X_21 14 (X_21.1 0 23).toNatClampNeg x3) (fun X_22 => nm (wI X_22 0 23 ((X_22.1 0 23) + ((1 : Int32)))) (fun X_23 => nm (wI X_23 0 12 ((X_23.1 0 12) + ((1 : Int32)))) (fun X_24 => k22 x1 ((1 : Int32)) X_24)))))
noncomputable def fX12_takesE_22 (n : Nat) : Int32 → Int32 → XD → Option (Int32 × XD) := Nat.rec (motive := fun _ => Int32 → Int32 → XD → Option (Int32 × XD)) (fun _ _ _ => none) (fun _ f => fun x1 x2 X => bnd (fX12_next X) (fun r5 => if x2 = 0 then if r5 = ((38 : Int32)) then fX12_takesE_122 (f) x1 r5 X else if r5 = ((124 : Int32)) then fX12_takesE_122 (f) x1 r5 X else bnw (fX12_settle ((124 : Int32)) X) (fun _ X_8 => gin x1 60 (nm (wI X_8 12 (x1).toNatClampNeg (X_8.1 0 22)) (fun X_9 => if (X_9.1 0 23) = 0 then some ((1 : Int32), X_9) else if r5 = ((41 : Int32)) then nm (wI X_9 0 23 ((X_9.1 0 23) - ((1 : Int32)))) (fun X_10 => nm (wI X_10 0 24 ((X_10.1 0 24) - ((1 : Int32)))) (fun X_11 => nm (wI X_11 0 12 ((X_11.1 0 12) + ((1 : Int32)))) (fun X_12 => bnw (fX12_whole X_12) (fun _ X_15 => f x1 x2 X_15)))) else some ((0 : Int32), X_9)))) else if r5 = ((33 : Int32)) then fX12_takesE_43 (f) x1 x2 r5 X else if r5 = ((40 : Int32)) then fX12_takesE_43 (f) x1 x2 r5 X else bnw (fX12_takesTest X) (fun r17 X_18 => if r17 = 0 then some ((0 : Int32), X_18) else f x1 ((0 : Int32)) X_18))) n
theorem fX12_takesE_22_s (n : Nat) (x1 : Int32) (x2 : Int32) (X : XD) : fX12_takesE_22 (n + 1) x1 x2 X = bnd (fX12_next X) (fun r5 => if x2 = 0 then if r5 = ((38 : Int32)) then fX12_takesE_122 ((fX12_takesE_22 n)) x1 r5 X else if r5 = ((124 : Int32)) then fX12_takesE_122 ((fX12_takesE_22 n)) x1 r5 X else bnw (fX12_settle ((124 : Int32)) X) (fun _ X_8 => gin x1 60 (nm (wI X_8 12 (x1).toNatClampNeg (X_8.1 0 22)) (fun X_9 => if (X_9.1 0 23) = 0 then some ((1 : Int32), X_9) else if r5 = ((41 : Int32)) then nm (wI X_9 0 23 ((X_9.1 0 23) - ((1 : Int32)))) (fun X_10 => nm (wI X_10 0 24 ((X_10.1 0 24) - ((1 : Int32)))) (fun X_11 => nm (wI X_11 0 12 ((X_11.1 0 12) + ((1 : Int32)))) (fun X_12 => bnw (fX12_whole X_12) (fun _ X_15 => (fX12_takesE_22 n) x1 x2 X_15)))) else some ((0 : Int32), X_9)))) else if r5 = ((33 : Int32)) then fX12_takesE_43 ((fX12_takesE_22 n)) x1 x2 r5 X else if r5 = ((40 : Int32)) then fX12_takesE_43 ((fX12_takesE_22 n)) x1 x2 r5 X else bnw (fX12_takesTest X) (fun r17 X_18 => if r17 = 0 then some ((0 : Int32), X_18) else (fX12_takesE_22 n) x1 ((0 : Int32)) X_18)) := rfl
noncomputable def fX12_takesE (x1 : Int32) (X : XD) : Option (Int32 × XD) := nm (wI X 0 23 ((0 : Int32))) (fun X_1 => nm (wI X_1 0 24 ((0 : Int32))) (fun X_2 => gin x1 60 (nm (wI X_2 11 (x1).toNatClampNeg (X_2.1 0 22)) (fun X_3 => fX12_takesE_22 FU x1 ((1 : Int32)) X_3))))
set_option maxHeartbeats 40000000 in
set_option maxRecDepth 100000 in
theorem ceX12_takesE {l : Launch} {E : XE} {w : XW} {z : Nat} {Z : XS} (hL : LayM Z) {x1 : Int32} {X X1 : XD} {r : Int32} (h : fX12_takesE x1 X = some (r, X1)) : Ct l E w yX12_takesE (wsM yX12_takesE cX12_takesE 4 (some .boolean)) (rmX 5 0 0) 0 0 [.ref (w.1 0), .int x1] z z Z Z X X1 (some (.int r)) := by
  refine ct_of (by decide) (Nat.le_of_ble_eq_true rfl) ?_
  intro p e s m args below meth c hC hr hin hav
  have j43 : ∀ (k22 : Int32 → Int32 → XD → Option (Int32 × XD)) (hk22 : ∀ (x1 : Int32) (x2 : Int32) (X : XD), k22 x1 x2 X = some (r, X1) → WW p l e (rmX 5 0 0) s m args below meth c 4 (MQ below (XQ E w z Z X1 (some (.int r))) args s 0 0 (A0 E)) E w 0 0 z Z 22 [(0, .ref (w.1 0)), (1, .int x1), (2, .int x2)] [] X), ∀ (x1 : Int32) (x2 : Int32) (x3 : Int32) (X : XD), fX12_takesE_43 k22 x1 x2 x3 X = some (r, X1) → WW p l e (rmX 5 0 0) s m args below meth c 4 (MQ below (XQ E w z Z X1 (some (.int r))) args s 0 0 (A0 E)) E w 0 0 z Z 43 [(0, .ref (w.1 0)), (1, .int x1), (2, .int x2), (3, .int x3)] [] X := by
    intro k22 hk22 x1 x2 x3 X h
    unfold fX12_takesE_43 at h
    refine ww_aload_n (pc := 43) hC dX12_takesE_43 0 rfl ?_
    refine ww_getI (pc := 44) hC 12 24 hL.1 RX12 (by decide) (by decide) rfl qf_X12_83 (Or.inl rfl) dX12_takesE_44 ?_
    refine ww_iconst (pc := 47) hC (v := (4 : Int32)) dX12_takesE_47 (by decide) ?_
    refine ww_icmp_ne (pc := 48) hC h 53 dX12_takesE_48 (by decide) (fun h => ?_) (fun h => ?_)
    · refine ww_aload_n (pc := 53) hC dX12_takesE_53 0 rfl ?_
      refine ww_dup (pc := 54) hC dX12_takesE_54 rfl ?_
      refine ww_getI (pc := 55) hC 12 24 hL.1 RX12 (by decide) (by decide) rfl qf_X12_83 (Or.inl rfl) dX12_takesE_55 ?_
      refine ww_iconst (pc := 58) hC (v := (1 : Int32)) dX12_takesE_58 (by decide) ?_
      refine ww_iadd (pc := 59) hC dX12_takesE_59 ?_
      refine ww_putI (pc := 60) hC 12 24 hL.1 RX12 (by decide) (by decide) rfl qf_X12_83 rfl rfl rfl rfl dX12_takesE_60 ?_
      obtain ⟨X_25, eX_25⟩ : ∃ q, q = wI X 0 24 ((X.1 0 24) + ((1 : Int32))) := ⟨_, rfl⟩
      replace h := nm_i h eX_25
      refine ww_nmX eX_25 ?_
      refine ww_aload_n (pc := 63) hC dX12_takesE_63 0 rfl ?_
      refine ww_getR (pc := 64) hC 12 21 14 hL.1 RX12 (by decide) (by decide) rfl (lay_12_21 hL).1 qf_X12_74 rfl dX12_takesE_64 ?_
      refine ww_aload_n (pc := 67) hC dX12_takesE_67 0 rfl ?_
      refine ww_getI (pc := 68) hC 12 23 hL.1 RX12 (by decide) (by decide) rfl qf_X12_80 (Or.inl rfl) dX12_takesE_68 ?_
      refine ww_iload_n (pc := 71) hC dX12_takesE_71 3 rfl ?_
      refine ww_iast (pc := 72) hC ((lay_12_21 hL).2) h dX12_takesE_72 (fun h => ?_)
      obtain ⟨X_26, eX_26⟩ : ∃ q, q = wI X_25 14 (X_25.1 0 23).toNatClampNeg x3 := ⟨_, rfl⟩
      replace h := nm_i h eX_26
      refine ww_nmX eX_26 ?_
      refine ww_aload_n (pc := 73) hC dX12_takesE_73 0 rfl ?_
      refine ww_dup (pc := 74) hC dX12_takesE_74 rfl ?_
      refine ww_getI (pc := 75) hC 12 23 hL.1 RX12 (by decide) (by decide) rfl qf_X12_80 (Or.inl rfl) dX12_takesE_75 ?_
      refine ww_iconst (pc := 78) hC (v := (1 : Int32)) dX12_takesE_78 (by decide) ?_
      refine ww_iadd (pc := 79) hC dX12_takesE_79 ?_
      refine ww_putI (pc := 80) hC 12 23 hL.1 RX12 (by decide) (by decide) rfl qf_X12_80 rfl rfl rfl rfl dX12_takesE_80 ?_
      obtain ⟨X_27, eX_27⟩ : ∃ q, q = wI X_26 0 23 ((X_26.1 0 23) + ((1 : Int32))) := ⟨_, rfl⟩
      replace h := nm_i h eX_27
      refine ww_nmX eX_27 ?_
      refine ww_aload_n (pc := 83) hC dX12_takesE_83 0 rfl ?_
      refine ww_dup (pc := 84) hC dX12_takesE_84 rfl ?_
      refine ww_getI (pc := 85) hC 12 12 hL.1 RX12 (by decide) (by decide) rfl qf_X12_47 (Or.inl rfl) dX12_takesE_85 ?_
      refine ww_iconst (pc := 88) hC (v := (1 : Int32)) dX12_takesE_88 (by decide) ?_
      refine ww_iadd (pc := 89) hC dX12_takesE_89 ?_
      refine ww_putI (pc := 90) hC 12 12 hL.1 RX12 (by decide) (by decide) rfl qf_X12_47 rfl rfl rfl rfl dX12_takesE_90 ?_
      obtain ⟨X_28, eX_28⟩ : ∃ q, q = wI X_27 0 12 ((X_27.1 0 12) + ((1 : Int32))) := ⟨_, rfl⟩
      replace h := nm_i h eX_28
      refine ww_nmX eX_28 ?_
      refine ww_goto (pc := 93) hC 22 dX12_takesE_93 (by decide) ?_
      refine ww_sub [0, 1, 2] rfl ?_
      exact hk22 _ _ _ h
    · refine ww_iconst (pc := 51) hC (v := (0 : Int32)) dX12_takesE_51 (by decide) ?_
      exact ww_zret (pc := 52) hC hr rfl h dX12_takesE_52
  have j122 : ∀ (k22 : Int32 → Int32 → XD → Option (Int32 × XD)) (hk22 : ∀ (x1 : Int32) (x2 : Int32) (X : XD), k22 x1 x2 X = some (r, X1) → WW p l e (rmX 5 0 0) s m args below meth c 4 (MQ below (XQ E w z Z X1 (some (.int r))) args s 0 0 (A0 E)) E w 0 0 z Z 22 [(0, .ref (w.1 0)), (1, .int x1), (2, .int x2)] [] X), ∀ (x1 : Int32) (x3 : Int32) (X : XD), fX12_takesE_122 k22 x1 x3 X = some (r, X1) → WW p l e (rmX 5 0 0) s m args below meth c 4 (MQ below (XQ E w z Z X1 (some (.int r))) args s 0 0 (A0 E)) E w 0 0 z Z 122 [(0, .ref (w.1 0)), (1, .int x1), (3, .int x3)] [] X := by
    intro k22 hk22 x1 x3 X h
    unfold fX12_takesE_122 at h
    refine ww_aload_n (pc := 122) hC dX12_takesE_122 0 rfl ?_
    refine ww_iload_n (pc := 123) hC dX12_takesE_123 2 rfl ?_
    obtain ⟨_, X_21, h19, h⟩ := bnw_i h
    refine ww_callVv (pc := 124) hC [.int x3] hL.1.1 hL.1.2 (by decide) (ceX12_settle hL h19) ql_X12_254 qi_X12_settle qs_X12_X12_settle qn_X12 qc_X12_settle rfl ⟨by decide, by decide, rfl⟩ rfl ⟨Nat.le_of_ble_eq_true rfl, Nat.le_of_ble_eq_true rfl⟩ (by decide) (rest := []) (Nat.le_of_ble_eq_true rfl) dX12_takesE_124 ⟨Nat.le_of_ble_eq_true rfl, Nat.le_of_ble_eq_true rfl⟩ rfl ?_
    refine ww_aload_n (pc := 127) hC dX12_takesE_127 0 rfl ?_
    refine ww_getR (pc := 128) hC 12 21 14 hL.1 RX12 (by decide) (by decide) rfl (lay_12_21 hL).1 qf_X12_74 rfl dX12_takesE_128 ?_
    refine ww_aload_n (pc := 131) hC dX12_takesE_131 0 rfl ?_
    refine ww_getI (pc := 132) hC 12 23 hL.1 RX12 (by decide) (by decide) rfl qf_X12_80 (Or.inl rfl) dX12_takesE_132 ?_
    refine ww_iload_n (pc := 135) hC dX12_takesE_135 2 rfl ?_
    refine ww_iast (pc := 136) hC ((lay_12_21 hL).2) h dX12_takesE_136 (fun h => ?_)
    obtain ⟨X_22, eX_22⟩ : ∃ q, q = wI X_21 14 (X_21.1 0 23).toNatClampNeg x3 := ⟨_, rfl⟩
    replace h := nm_i h eX_22
    refine ww_nmX eX_22 ?_
    refine ww_aload_n (pc := 137) hC dX12_takesE_137 0 rfl ?_
    refine ww_dup (pc := 138) hC dX12_takesE_138 rfl ?_
    refine ww_getI (pc := 139) hC 12 23 hL.1 RX12 (by decide) (by decide) rfl qf_X12_80 (Or.inl rfl) dX12_takesE_139 ?_
    refine ww_iconst (pc := 142) hC (v := (1 : Int32)) dX12_takesE_142 (by decide) ?_
    refine ww_iadd (pc := 143) hC dX12_takesE_143 ?_
    refine ww_putI (pc := 144) hC 12 23 hL.1 RX12 (by decide) (by decide) rfl qf_X12_80 rfl rfl rfl rfl dX12_takesE_144 ?_
    obtain ⟨X_23, eX_23⟩ : ∃ q, q = wI X_22 0 23 ((X_22.1 0 23) + ((1 : Int32))) := ⟨_, rfl⟩
    replace h := nm_i h eX_23
    refine ww_nmX eX_23 ?_
    refine ww_iconst (pc := 147) hC (v := (1 : Int32)) dX12_takesE_147 (by decide) ?_
    refine ww_istore_n (pc := 148) hC [(2, .int ((1 : Int32))), (0, .ref (w.1 0)), (1, .int x1), (3, .int x3)] dX12_takesE_148 rfl (by decide) rfl ?_
    refine ww_aload_n (pc := 149) hC dX12_takesE_149 1 rfl ?_
    refine ww_dup (pc := 150) hC dX12_takesE_150 rfl ?_
    refine ww_getI (pc := 151) hC 12 12 hL.1 RX12 (by decide) (by decide) rfl qf_X12_47 (Or.inl rfl) dX12_takesE_151 ?_
    refine ww_iconst (pc := 154) hC (v := (1 : Int32)) dX12_takesE_154 (by decide) ?_
    refine ww_iadd (pc := 155) hC dX12_takesE_155 ?_
    refine ww_putI (pc := 156) hC 12 12 hL.1 RX12 (by decide) (by decide) rfl qf_X12_47 rfl rfl rfl rfl dX12_takesE_156 ?_
    obtain ⟨X_24, eX_24⟩ : ∃ q, q = wI X_23 0 12 ((X_23.1 0 12) + ((1 : Int32))) := ⟨_, rfl⟩
    replace h := nm_i h eX_24
    refine ww_nmX eX_24 ?_
    refine ww_goto (pc := 159) hC 22 dX12_takesE_159 (by decide) ?_
    refine ww_sub [1, 2, 0] rfl ?_
    exact hk22 _ _ _ h
  have j22 : ∀ (n : Nat), ∀ (x1 : Int32) (x2 : Int32) (X : XD), fX12_takesE_22 n x1 x2 X = some (r, X1) → WW p l e (rmX 5 0 0) s m args below meth c 4 (MQ below (XQ E w z Z X1 (some (.int r))) args s 0 0 (A0 E)) E w 0 0 z Z 22 [(0, .ref (w.1 0)), (1, .int x1), (2, .int x2)] [] X := by
    intro n
    induction n with
    | zero =>
      intro x1 x2 X h
      cases (show none = some (r, X1) from h)
    | succ n ih =>
      intro x1 x2 X h
      rw [fX12_takesE_22_s] at h
      refine ww_aload_n (pc := 22) hC dX12_takesE_22 0 rfl ?_
      obtain ⟨r5, h4, h⟩ := bnd_i h
      refine ww_callVi (pc := 23) hC [] hL.1.1 hL.1.2 (by decide) (ceX12_next hL h4) ql_X12_226 qi_X12_next qs_X12_X12_next qn_X12 qc_X12_next rfl ⟨by decide, by decide, rfl⟩ rfl ⟨Nat.le_of_ble_eq_true rfl, Nat.le_of_ble_eq_true rfl⟩ (by decide) (rest := []) (Nat.le_of_ble_eq_true rfl) dX12_takesE_23 ⟨Nat.le_of_ble_eq_true rfl, Nat.le_of_ble_eq_true rfl⟩ rfl ?_
      refine ww_istore_n (pc := 26) hC [(3, .int r5), (0, .ref (w.1 0)), (1, .int x1), (2, .int x2)] dX12_takesE_26 rfl (by decide) rfl ?_
      refine ww_iload_n (pc := 27) hC dX12_takesE_27 3 rfl ?_
      refine ww_if_eq (pc := 28) hC h 110 dX12_takesE_28 (by decide) (fun h => ?_) (fun h => ?_)
      · refine ww_iload_n (pc := 110) hC dX12_takesE_110 0 rfl ?_
        refine ww_bipush (pc := 111) hC (v := (38 : Int32)) dX12_takesE_111 (by decide) ?_
        refine ww_icmp_eq (pc := 113) hC h 122 dX12_takesE_113 (by decide) (fun h => ?_) (fun h => ?_)
        · refine ww_sub [1, 2, 0] rfl ?_
          exact j122 _ ih _ _ _ h
        · refine ww_iload_n (pc := 116) hC dX12_takesE_116 0 rfl ?_
          refine ww_bipush (pc := 117) hC (v := (124 : Int32)) dX12_takesE_117 (by decide) ?_
          refine ww_icmp_ne (pc := 119) hC h 162 dX12_takesE_119 (by decide) (fun h => ?_) (fun h => ?_)
          · refine ww_aload_n (pc := 162) hC dX12_takesE_162 1 rfl ?_
            refine ww_bipush (pc := 163) hC (v := (124 : Int32)) dX12_takesE_163 (by decide) ?_
            obtain ⟨_, X_8, h6, h⟩ := bnw_i h
            refine ww_callVv (pc := 165) hC [.int ((124 : Int32))] hL.1.1 hL.1.2 (by decide) (ceX12_settle hL h6) ql_X12_254 qi_X12_settle qs_X12_X12_settle qn_X12 qc_X12_settle rfl ⟨by decide, by decide, rfl⟩ rfl ⟨Nat.le_of_ble_eq_true rfl, Nat.le_of_ble_eq_true rfl⟩ (by decide) (rest := []) (Nat.le_of_ble_eq_true rfl) dX12_takesE_165 ⟨Nat.le_of_ble_eq_true rfl, Nat.le_of_ble_eq_true rfl⟩ rfl ?_
            refine ww_aload_n (pc := 168) hC dX12_takesE_168 1 rfl ?_
            refine ww_getR (pc := 169) hC 12 19 12 hL.1 RX12 (by decide) (by decide) rfl (lay_12_19 hL).1 qf_X12_68 rfl dX12_takesE_169 ?_
            refine ww_iload_n (pc := 172) hC dX12_takesE_172 2 rfl ?_
            refine ww_aload_n (pc := 173) hC dX12_takesE_173 1 rfl ?_
            refine ww_getI (pc := 174) hC 12 22 hL.1 RX12 (by decide) (by decide) rfl qf_X12_77 (Or.inl rfl) dX12_takesE_174 ?_
            refine ww_iast (pc := 177) hC ((lay_12_19 hL).2) h dX12_takesE_177 (fun h => ?_)
            obtain ⟨X_9, eX_9⟩ : ∃ q, q = wI X_8 12 (x1).toNatClampNeg (X_8.1 0 22) := ⟨_, rfl⟩
            replace h := nm_i h eX_9
            refine ww_nmX eX_9 ?_
            refine ww_aload_n (pc := 178) hC dX12_takesE_178 1 rfl ?_
            refine ww_getI (pc := 179) hC 12 23 hL.1 RX12 (by decide) (by decide) rfl qf_X12_80 (Or.inl rfl) dX12_takesE_179 ?_
            refine ww_if_ne (pc := 182) hC h 187 dX12_takesE_182 (by decide) (fun h => ?_) (fun h => ?_)
            · refine ww_iload_n (pc := 187) hC dX12_takesE_187 0 rfl ?_
              refine ww_bipush (pc := 188) hC (v := (41 : Int32)) dX12_takesE_188 (by decide) ?_
              refine ww_icmp_eq (pc := 190) hC h 195 dX12_takesE_190 (by decide) (fun h => ?_) (fun h => ?_)
              · refine ww_aload_n (pc := 195) hC dX12_takesE_195 1 rfl ?_
                refine ww_dup (pc := 196) hC dX12_takesE_196 rfl ?_
                refine ww_getI (pc := 197) hC 12 23 hL.1 RX12 (by decide) (by decide) rfl qf_X12_80 (Or.inl rfl) dX12_takesE_197 ?_
                refine ww_iconst (pc := 200) hC (v := (1 : Int32)) dX12_takesE_200 (by decide) ?_
                refine ww_isub (pc := 201) hC dX12_takesE_201 ?_
                refine ww_putI (pc := 202) hC 12 23 hL.1 RX12 (by decide) (by decide) rfl qf_X12_80 rfl rfl rfl rfl dX12_takesE_202 ?_
                obtain ⟨X_10, eX_10⟩ : ∃ q, q = wI X_9 0 23 ((X_9.1 0 23) - ((1 : Int32))) := ⟨_, rfl⟩
                replace h := nm_i h eX_10
                refine ww_nmX eX_10 ?_
                refine ww_aload_n (pc := 205) hC dX12_takesE_205 1 rfl ?_
                refine ww_dup (pc := 206) hC dX12_takesE_206 rfl ?_
                refine ww_getI (pc := 207) hC 12 24 hL.1 RX12 (by decide) (by decide) rfl qf_X12_83 (Or.inl rfl) dX12_takesE_207 ?_
                refine ww_iconst (pc := 210) hC (v := (1 : Int32)) dX12_takesE_210 (by decide) ?_
                refine ww_isub (pc := 211) hC dX12_takesE_211 ?_
                refine ww_putI (pc := 212) hC 12 24 hL.1 RX12 (by decide) (by decide) rfl qf_X12_83 rfl rfl rfl rfl dX12_takesE_212 ?_
                obtain ⟨X_11, eX_11⟩ : ∃ q, q = wI X_10 0 24 ((X_10.1 0 24) - ((1 : Int32))) := ⟨_, rfl⟩
                replace h := nm_i h eX_11
                refine ww_nmX eX_11 ?_
                refine ww_aload_n (pc := 215) hC dX12_takesE_215 1 rfl ?_
                refine ww_dup (pc := 216) hC dX12_takesE_216 rfl ?_
                refine ww_getI (pc := 217) hC 12 12 hL.1 RX12 (by decide) (by decide) rfl qf_X12_47 (Or.inl rfl) dX12_takesE_217 ?_
                refine ww_iconst (pc := 220) hC (v := (1 : Int32)) dX12_takesE_220 (by decide) ?_
                refine ww_iadd (pc := 221) hC dX12_takesE_221 ?_
                refine ww_putI (pc := 222) hC 12 12 hL.1 RX12 (by decide) (by decide) rfl qf_X12_47 rfl rfl rfl rfl dX12_takesE_222 ?_
                obtain ⟨X_12, eX_12⟩ : ∃ q, q = wI X_11 0 12 ((X_11.1 0 12) + ((1 : Int32))) := ⟨_, rfl⟩
                replace h := nm_i h eX_12
                refine ww_nmX eX_12 ?_
                refine ww_aload_n (pc := 225) hC dX12_takesE_225 1 rfl ?_
                obtain ⟨_, X_15, h13, h⟩ := bnw_i h
                refine ww_callVv (pc := 226) hC [] hL.1.1 hL.1.2 (by decide) (ceX12_whole hL h13) ql_X12_248 qi_X12_whole qs_X12_X12_whole qn_X12 qc_X12_whole rfl ⟨by decide, by decide, rfl⟩ rfl ⟨Nat.le_of_ble_eq_true rfl, Nat.le_of_ble_eq_true rfl⟩ (by decide) (rest := []) (Nat.le_of_ble_eq_true rfl) dX12_takesE_226 ⟨Nat.le_of_ble_eq_true rfl, Nat.le_of_ble_eq_true rfl⟩ rfl ?_
                refine ww_goto (pc := 229) hC 22 dX12_takesE_229 (by decide) ?_
                refine ww_sub [1, 2, 3] rfl ?_
                exact ih _ _ _ h
              · refine ww_iconst (pc := 193) hC (v := (0 : Int32)) dX12_takesE_193 (by decide) ?_
                exact ww_zret (pc := 194) hC hr rfl h dX12_takesE_194
            · refine ww_iconst (pc := 185) hC (v := (1 : Int32)) dX12_takesE_185 (by decide) ?_
              exact ww_zret (pc := 186) hC hr rfl h dX12_takesE_186
          · refine ww_sub [1, 2, 0] rfl ?_
            exact j122 _ ih _ _ _ h
      · refine ww_iload_n (pc := 31) hC dX12_takesE_31 0 rfl ?_
        refine ww_bipush (pc := 32) hC (v := (33 : Int32)) dX12_takesE_32 (by decide) ?_
        refine ww_icmp_eq (pc := 34) hC h 43 dX12_takesE_34 (by decide) (fun h => ?_) (fun h => ?_)
        · refine ww_sub [1, 2, 3, 0] rfl ?_
          exact j43 _ ih _ _ _ _ h
        · refine ww_iload_n (pc := 37) hC dX12_takesE_37 0 rfl ?_
          refine ww_bipush (pc := 38) hC (v := (40 : Int32)) dX12_takesE_38 (by decide) ?_
          refine ww_icmp_ne (pc := 40) hC h 96 dX12_takesE_40 (by decide) (fun h => ?_) (fun h => ?_)
          · refine ww_aload_n (pc := 96) hC dX12_takesE_96 1 rfl ?_
            obtain ⟨r17, X_18, h16, h⟩ := bnw_i h
            refine ww_callVi (pc := 97) hC [] hL.1.1 hL.1.2 (by decide) (ceX12_takesTest hL h16) ql_X12_251 qi_X12_takesTest qs_X12_X12_takesTest qn_X12 qc_X12_takesTest rfl ⟨by decide, by decide, rfl⟩ rfl ⟨Nat.le_of_ble_eq_true rfl, Nat.le_of_ble_eq_true rfl⟩ (by decide) (rest := []) (Nat.le_of_ble_eq_true rfl) dX12_takesE_97 ⟨Nat.le_of_ble_eq_true rfl, Nat.le_of_ble_eq_true rfl⟩ rfl ?_
            refine ww_if_eq (pc := 100) hC h 108 dX12_takesE_100 (by decide) (fun h => ?_) (fun h => ?_)
            · refine ww_iconst (pc := 108) hC (v := (0 : Int32)) dX12_takesE_108 (by decide) ?_
              exact ww_zret (pc := 109) hC hr rfl h dX12_takesE_109
            · refine ww_iconst (pc := 103) hC (v := (0 : Int32)) dX12_takesE_103 (by decide) ?_
              refine ww_istore_n (pc := 104) hC [(2, .int ((0 : Int32))), (3, .int r5), (0, .ref (w.1 0)), (1, .int x1)] dX12_takesE_104 rfl (by decide) rfl ?_
              refine ww_goto (pc := 105) hC 22 dX12_takesE_105 (by decide) ?_
              refine ww_sub [2, 3, 0] rfl ?_
              exact ih _ _ _ h
          · refine ww_sub [1, 2, 3, 0] rfl ?_
            exact j43 _ ih _ _ _ _ h
  unfold fX12_takesE at h
  refine ww_lv (lv' := [(0, .ref (w.1 0)), (1, .int x1)]) rfl ?_
  refine ww_aload_n (pc := 0) hC dX12_takesE_0 0 rfl ?_
  refine ww_iconst (pc := 1) hC (v := (0 : Int32)) dX12_takesE_1 (by decide) ?_
  refine ww_putI (pc := 2) hC 12 23 hL.1 RX12 (by decide) (by decide) rfl qf_X12_80 rfl rfl rfl rfl dX12_takesE_2 ?_
  obtain ⟨X_1, eX_1⟩ : ∃ q, q = wI X 0 23 ((0 : Int32)) := ⟨_, rfl⟩
  replace h := nm_i h eX_1
  refine ww_nmX eX_1 ?_
  refine ww_aload_n (pc := 5) hC dX12_takesE_5 0 rfl ?_
  refine ww_iconst (pc := 6) hC (v := (0 : Int32)) dX12_takesE_6 (by decide) ?_
  refine ww_putI (pc := 7) hC 12 24 hL.1 RX12 (by decide) (by decide) rfl qf_X12_83 rfl rfl rfl rfl dX12_takesE_7 ?_
  obtain ⟨X_2, eX_2⟩ : ∃ q, q = wI X_1 0 24 ((0 : Int32)) := ⟨_, rfl⟩
  replace h := nm_i h eX_2
  refine ww_nmX eX_2 ?_
  refine ww_aload_n (pc := 10) hC dX12_takesE_10 0 rfl ?_
  refine ww_getR (pc := 11) hC 12 18 11 hL.1 RX12 (by decide) (by decide) rfl (lay_12_18 hL).1 qf_X12_65 rfl dX12_takesE_11 ?_
  refine ww_iload_n (pc := 14) hC dX12_takesE_14 1 rfl ?_
  refine ww_aload_n (pc := 15) hC dX12_takesE_15 0 rfl ?_
  refine ww_getI (pc := 16) hC 12 22 hL.1 RX12 (by decide) (by decide) rfl qf_X12_77 (Or.inl rfl) dX12_takesE_16 ?_
  refine ww_iast (pc := 19) hC ((lay_12_18 hL).2) h dX12_takesE_19 (fun h => ?_)
  obtain ⟨X_3, eX_3⟩ : ∃ q, q = wI X_2 11 (x1).toNatClampNeg (X_2.1 0 22) := ⟨_, rfl⟩
  replace h := nm_i h eX_3
  refine ww_nmX eX_3 ?_
  refine ww_iconst (pc := 20) hC (v := (1 : Int32)) dX12_takesE_20 (by decide) ?_
  refine ww_istore_n (pc := 21) hC [(2, .int ((1 : Int32))), (0, .ref (w.1 0)), (1, .int x1)] dX12_takesE_21 rfl (by decide) rfl ?_
  refine ww_sub [1, 2, 0] rfl ?_
  exact j22 _ _ _ _ h
