noncomputable def fX12_layParts_116 (k22 : Int32 → XD → Option (Unit × XD)) (k44 : Int32 → Int64 → Int32 → Int32 → XD → Option (Unit × XD)) (x1 : Int32) (x2 : Int64) (x5 : Int32) (x6 : Int32) (x7 : Int32) (s0 : Int32) (s1 : Int32) (X : XD) : Option (Unit × XD) := nm (s1 + s0) (fun y18 => bnw (fX12_goes x6 x7 X) (fun r20 X_21 => nm (x5 + (1 : Int32)) (fun y22 => k44 x1 x2 y18 y22 X_21)))
noncomputable def fX12_layParts_102 (k22 : Int32 → XD → Option (Unit × XD)) (k44 : Int32 → Int64 → Int32 → Int32 → XD → Option (Unit × XD)) (x1 : Int32) (x4 : Int32) (x5 : Int32) (x6 : Int32) (x7 : Int32) (s0 : Int64) (s1 : Int64) (X : XD) : Option (Unit × XD) := nm (s1 * s0) (fun y17 => if x7 = 0 then fX12_layParts_116 k22 k44 x1 y17 x5 x6 x7 ((0 : Int32)) x4 X else fX12_layParts_116 k22 k44 x1 y17 x5 x6 x7 ((1 : Int32)) x4 X)
noncomputable def fX12_layParts_44 (k22 : Int32 → XD → Option (Unit × XD)) (n : Nat) : Int32 → Int64 → Int32 → Int32 → XD → Option (Unit × XD) := Nat.rec (motive := fun _ => Int32 → Int64 → Int32 → Int32 → XD → Option (Unit × XD)) (fun _ _ _ _ _ => none) (fun _ f => fun x1 x2 x4 x5 X => if (X.1 0 32) ≤ x5 then bnw (fX12_putBack X) (fun _ X_8 => gin x4 5 (gin x4 5 (nm (wJ X_8 23 (x4).toNatClampNeg ((X_8.2 23 (x4).toNatClampNeg) + x2)) (fun X_9 => nm (x1 + (1 : Int32)) (fun y10 => k22 y10 X_9))))) else gin x5 4 (gin (X.1 21 (x5).toNatClampNeg) 4 (nm (X.1 20 (X.1 21 (x5).toNatClampNeg).toNatClampNeg) (fun y11 => bnd (fX12_has x1 x5 X) (fun r13 => bnw (fX12_chanceNow y11 X) (fun r15 X_16 => if r13 = 0 then fX12_layParts_102 k22 (f) x1 x4 x5 y11 r13 ((((100 : Int32)) - r15).toInt64) x2 X_16 else fX12_layParts_102 k22 (f) x1 x4 x5 y11 r13 r15.toInt64 x2 X_16)))))) n
theorem fX12_layParts_44_s (k22 : Int32 → XD → Option (Unit × XD)) (n : Nat) (x1 : Int32) (x2 : Int64) (x4 : Int32) (x5 : Int32) (X : XD) : fX12_layParts_44 k22 (n + 1) x1 x2 x4 x5 X = if (X.1 0 32) ≤ x5 then bnw (fX12_putBack X) (fun _ X_8 => gin x4 5 (gin x4 5 (nm (wJ X_8 23 (x4).toNatClampNeg ((X_8.2 23 (x4).toNatClampNeg) + x2)) (fun X_9 => nm (x1 + (1 : Int32)) (fun y10 => k22 y10 X_9))))) else gin x5 4 (gin (X.1 21 (x5).toNatClampNeg) 4 (nm (X.1 20 (X.1 21 (x5).toNatClampNeg).toNatClampNeg) (fun y11 => bnd (fX12_has x1 x5 X) (fun r13 => bnw (fX12_chanceNow y11 X) (fun r15 X_16 => if r13 = 0 then fX12_layParts_102 k22 ((fX12_layParts_44 k22 n)) x1 x4 x5 y11 r13 ((((100 : Int32)) - r15).toInt64) x2 X_16 else fX12_layParts_102 k22 ((fX12_layParts_44 k22 n)) x1 x4 x5 y11 r13 r15.toInt64 x2 X_16))))) := rfl
noncomputable def fX12_layParts_22 (n : Nat) : Int32 → XD → Option (Unit × XD) := Nat.rec (motive := fun _ => Int32 → XD → Option (Unit × XD)) (fun _ _ => none) (fun _ f => fun x1 X => if (((1 : Int32)) <<< ((X.1 0 32) &&& 31)) ≤ x1 then some ((), X) else bnw (fX12_save X) (fun _ X_5 => fX12_layParts_44 (f) FU x1 ((1 : Int64)) ((0 : Int32)) ((0 : Int32)) X_5)) n
theorem fX12_layParts_22_s (n : Nat) (x1 : Int32) (X : XD) : fX12_layParts_22 (n + 1) x1 X = if (((1 : Int32)) <<< ((X.1 0 32) &&& 31)) ≤ x1 then some ((), X) else bnw (fX12_save X) (fun _ X_5 => fX12_layParts_44 ((fX12_layParts_22 n)) FU x1 ((1 : Int64)) ((0 : Int32)) ((0 : Int32)) X_5) := rfl
noncomputable def fX12_layParts_2 (n : Nat) : Int32 → XD → Option (Unit × XD) := Nat.rec (motive := fun _ => Int32 → XD → Option (Unit × XD)) (fun _ _ => none) (fun _ f => fun x1 X => if ((5 : Int32)) ≤ x1 then fX12_layParts_22 FU ((0 : Int32)) X else gin x1 5 (nm (wJ X 23 (x1).toNatClampNeg ((0 : Int64))) (fun X_1 => nm (x1 + (1 : Int32)) (fun y2 => f y2 X_1)))) n
theorem fX12_layParts_2_s (n : Nat) (x1 : Int32) (X : XD) : fX12_layParts_2 (n + 1) x1 X = if ((5 : Int32)) ≤ x1 then fX12_layParts_22 FU ((0 : Int32)) X else gin x1 5 (nm (wJ X 23 (x1).toNatClampNeg ((0 : Int64))) (fun X_1 => nm (x1 + (1 : Int32)) (fun y2 => (fX12_layParts_2 n) y2 X_1))) := rfl
noncomputable def fX12_layParts (X : XD) : Option (Unit × XD) := fX12_layParts_2 FU ((0 : Int32)) X
set_option maxHeartbeats 40000000 in
set_option maxRecDepth 100000 in
theorem ceX12_layParts {l : Launch} {E : XE} {w : XW} {z : Nat} {Z : XS} (hL : LayM Z) {X X1 : XD} {r : Unit} (h : fX12_layParts X = some (r, X1)) : Ct l E w yX12_layParts (wsM yX12_layParts cX12_layParts 10 none) (rmX 8 0 0) 0 0 [.ref (w.1 0)] z z Z Z X X1 none := by
  refine ct_of (by decide) (Nat.le_of_ble_eq_true rfl) ?_
  intro p e s m args below meth c hC hr hin hav
  have j116 : ∀ (k22 : Int32 → XD → Option (Unit × XD)) (hk22 : ∀ (x1 : Int32) (X : XD), k22 x1 X = some (r, X1) → WW p l e (rmX 8 0 0) s m args below meth c 10 (MQ below (XQ E w z Z X1 none) args s 0 0 (A0 E)) E w 0 0 z Z 22 [(0, .ref (w.1 0)), (1, .int x1)] [] X) (k44 : Int32 → Int64 → Int32 → Int32 → XD → Option (Unit × XD)) (hk44 : ∀ (x1 : Int32) (x2 : Int64) (x4 : Int32) (x5 : Int32) (X : XD), k44 x1 x2 x4 x5 X = some (r, X1) → WW p l e (rmX 8 0 0) s m args below meth c 10 (MQ below (XQ E w z Z X1 none) args s 0 0 (A0 E)) E w 0 0 z Z 44 [(0, .ref (w.1 0)), (1, .int x1), (2, .long x2), (4, .int x4), (5, .int x5)] [] X), ∀ (x1 : Int32) (x2 : Int64) (x5 : Int32) (x6 : Int32) (x7 : Int32) (s0 : Int32) (s1 : Int32) (X : XD), fX12_layParts_116 k22 k44 x1 x2 x5 x6 x7 s0 s1 X = some (r, X1) → WW p l e (rmX 8 0 0) s m args below meth c 10 (MQ below (XQ E w z Z X1 none) args s 0 0 (A0 E)) E w 0 0 z Z 116 [(0, .ref (w.1 0)), (1, .int x1), (2, .long x2), (5, .int x5), (6, .int x6), (7, .int x7)] [.int s0, .int s1] X := by
    intro k22 hk22 k44 hk44 x1 x2 x5 x6 x7 s0 s1 X h
    unfold fX12_layParts_116 at h
    refine ww_iadd (pc := 116) hC dX12_layParts_116 ?_
    obtain ⟨y18, ey18⟩ : ∃ q, q = s1 + s0 := ⟨_, rfl⟩
    replace h := nm_i h ey18
    refine ww_nmi ey18 ?_
    refine ww_istore (pc := 117) hC [(4, .int y18), (0, .ref (w.1 0)), (1, .int x1), (2, .long x2), (5, .int x5), (6, .int x6), (7, .int x7)] dX12_layParts_117  (by decide) rfl ?_
    refine ww_aload_n (pc := 119) hC dX12_layParts_119 1 rfl ?_
    refine ww_iload (pc := 120) hC dX12_layParts_120 5 rfl ?_
    refine ww_iload (pc := 122) hC dX12_layParts_122 6 rfl ?_
    obtain ⟨r20, X_21, h19, h⟩ := bnw_i h
    refine ww_callVi (pc := 124) hC [.int x6, .int x7] hL.1.1 hL.1.2 (by decide) (ceX12_goes hL h19) ql_X12_326 qi_X12_goes qs_X12_X12_goes qn_X12 qc_X12_goes rfl ⟨by decide, by decide, rfl⟩ rfl ⟨Nat.le_of_ble_eq_true rfl, Nat.le_of_ble_eq_true rfl⟩ (by decide) (rest := []) (Nat.le_of_ble_eq_true rfl) dX12_layParts_124 ⟨Nat.le_of_ble_eq_true rfl, Nat.le_of_ble_eq_true rfl⟩ rfl ?_
    refine ww_istore (pc := 127) hC [(9, .int r20), (4, .int y18), (0, .ref (w.1 0)), (1, .int x1), (2, .long x2), (5, .int x5), (6, .int x6), (7, .int x7)] dX12_layParts_127  (by decide) rfl ?_
    obtain ⟨y22, ey22⟩ : ∃ q, q = x5 + (1 : Int32) := ⟨_, rfl⟩
    replace h := nm_i h ey22
    refine ww_iinc (pc := 129) hC y22 [(5, .int y22), (9, .int r20), (4, .int y18), (0, .ref (w.1 0)), (1, .int x1), (2, .long x2), (6, .int x6), (7, .int x7)] dX12_layParts_129 5 rfl (by rw [ey22]; rfl) (by decide) rfl ?_
    refine ww_goto (pc := 132) hC 44 dX12_layParts_132 (by decide) ?_
    refine ww_sub [3, 4, 5, 2, 0] rfl ?_
    exact hk44 _ _ _ _ _ h
  have j102 : ∀ (k22 : Int32 → XD → Option (Unit × XD)) (hk22 : ∀ (x1 : Int32) (X : XD), k22 x1 X = some (r, X1) → WW p l e (rmX 8 0 0) s m args below meth c 10 (MQ below (XQ E w z Z X1 none) args s 0 0 (A0 E)) E w 0 0 z Z 22 [(0, .ref (w.1 0)), (1, .int x1)] [] X) (k44 : Int32 → Int64 → Int32 → Int32 → XD → Option (Unit × XD)) (hk44 : ∀ (x1 : Int32) (x2 : Int64) (x4 : Int32) (x5 : Int32) (X : XD), k44 x1 x2 x4 x5 X = some (r, X1) → WW p l e (rmX 8 0 0) s m args below meth c 10 (MQ below (XQ E w z Z X1 none) args s 0 0 (A0 E)) E w 0 0 z Z 44 [(0, .ref (w.1 0)), (1, .int x1), (2, .long x2), (4, .int x4), (5, .int x5)] [] X), ∀ (x1 : Int32) (x4 : Int32) (x5 : Int32) (x6 : Int32) (x7 : Int32) (s0 : Int64) (s1 : Int64) (X : XD), fX12_layParts_102 k22 k44 x1 x4 x5 x6 x7 s0 s1 X = some (r, X1) → WW p l e (rmX 8 0 0) s m args below meth c 10 (MQ below (XQ E w z Z X1 none) args s 0 0 (A0 E)) E w 0 0 z Z 102 [(0, .ref (w.1 0)), (1, .int x1), (4, .int x4), (5, .int x5), (6, .int x6), (7, .int x7)] [.long s0, .long s1] X := by
    intro k22 hk22 k44 hk44 x1 x4 x5 x6 x7 s0 s1 X h
    unfold fX12_layParts_102 at h
    refine ww_lmul (pc := 102) hC dX12_layParts_102 ?_
    obtain ⟨y17, ey17⟩ : ∃ q, q = s1 * s0 := ⟨_, rfl⟩
    replace h := nm_i h ey17
    refine ww_nml ey17 ?_
    refine ww_lstore_n (pc := 103) hC [(2, .long y17), (0, .ref (w.1 0)), (1, .int x1), (4, .int x4), (5, .int x5), (6, .int x6), (7, .int x7)] dX12_layParts_103 rfl (by decide) rfl ?_
    refine ww_iload (pc := 104) hC dX12_layParts_104 3 rfl ?_
    refine ww_iload (pc := 106) hC dX12_layParts_106 6 rfl ?_
    refine ww_if_eq (pc := 108) hC h 115 dX12_layParts_108 (by decide) (fun h => ?_) (fun h => ?_)
    · refine ww_iconst (pc := 115) hC (v := (0 : Int32)) dX12_layParts_115 (by decide) ?_
      refine ww_sub [1, 2, 0, 4, 5, 6] rfl ?_
      exact j116 _ hk22 _ hk44 _ _ _ _ _ _ _ _ h
    · refine ww_iconst (pc := 111) hC (v := (1 : Int32)) dX12_layParts_111 (by decide) ?_
      refine ww_goto (pc := 112) hC 116 dX12_layParts_112 (by decide) ?_
      refine ww_sub [1, 2, 0, 4, 5, 6] rfl ?_
      exact j116 _ hk22 _ hk44 _ _ _ _ _ _ _ _ h
  have j44 : ∀ (k22 : Int32 → XD → Option (Unit × XD)) (hk22 : ∀ (x1 : Int32) (X : XD), k22 x1 X = some (r, X1) → WW p l e (rmX 8 0 0) s m args below meth c 10 (MQ below (XQ E w z Z X1 none) args s 0 0 (A0 E)) E w 0 0 z Z 22 [(0, .ref (w.1 0)), (1, .int x1)] [] X) (n : Nat), ∀ (x1 : Int32) (x2 : Int64) (x4 : Int32) (x5 : Int32) (X : XD), fX12_layParts_44 k22 n x1 x2 x4 x5 X = some (r, X1) → WW p l e (rmX 8 0 0) s m args below meth c 10 (MQ below (XQ E w z Z X1 none) args s 0 0 (A0 E)) E w 0 0 z Z 44 [(0, .ref (w.1 0)), (1, .int x1), (2, .long x2), (4, .int x4), (5, .int x5)] [] X := by
    intro k22 hk22
    intro n
    induction n with
    | zero =>
      intro x1 x2 x4 x5 X h
      cases (show none = some (r, X1) from h)
    | succ n ih =>
      intro x1 x2 x4 x5 X h
      rw [fX12_layParts_44_s] at h
      refine ww_iload (pc := 44) hC dX12_layParts_44 4 rfl ?_
      refine ww_aload_n (pc := 46) hC dX12_layParts_46 0 rfl ?_
      refine ww_getI (pc := 47) hC 12 32 hL.1 RX12 (by decide) (by decide) rfl qf_X12_108 (Or.inl rfl) dX12_layParts_47 ?_
      refine ww_icmp_ge (pc := 50) hC h 135 dX12_layParts_50 (by decide) (fun h => ?_) (fun h => ?_)
      · refine ww_aload_n (pc := 135) hC dX12_layParts_135 0 rfl ?_
        obtain ⟨_, X_8, h6, h⟩ := bnw_i h
        refine ww_callVv (pc := 136) hC [] hL.1.1 hL.1.2 (by decide) (ceX12_putBack hL h6) ql_X12_339 qi_X12_putBack qs_X12_X12_putBack qn_X12 qc_X12_putBack rfl ⟨by decide, by decide, rfl⟩ rfl ⟨Nat.le_of_ble_eq_true rfl, Nat.le_of_ble_eq_true rfl⟩ (by decide) (rest := []) (Nat.le_of_ble_eq_true rfl) dX12_layParts_136 ⟨Nat.le_of_ble_eq_true rfl, Nat.le_of_ble_eq_true rfl⟩ rfl ?_
        refine ww_aload_n (pc := 139) hC dX12_layParts_139 0 rfl ?_
        refine ww_getR (pc := 140) hC 12 36 23 hL.1 RX12 (by decide) (by decide) rfl (lay_12_36 hL).1 qf_X12_120 rfl dX12_layParts_140 ?_
        refine ww_iload (pc := 143) hC dX12_layParts_143 3 rfl ?_
        refine ww_dup2_11 (pc := 145) hC dX12_layParts_145 rfl rfl ?_
        refine ww_lald (pc := 146) hC ((lay_12_36 hL).2) h dX12_layParts_146 (fun h => ?_)
        refine ww_lload_n (pc := 147) hC dX12_layParts_147 2 rfl ?_
        refine ww_ladd (pc := 148) hC dX12_layParts_148 ?_
        refine ww_last (pc := 149) hC ((lay_12_36 hL).2) h dX12_layParts_149 (fun h => ?_)
        obtain ⟨X_9, eX_9⟩ : ∃ q, q = wJ X_8 23 (x4).toNatClampNeg ((X_8.2 23 (x4).toNatClampNeg) + x2) := ⟨_, rfl⟩
        replace h := nm_i h eX_9
        refine ww_nmX eX_9 ?_
        obtain ⟨y10, ey10⟩ : ∃ q, q = x1 + (1 : Int32) := ⟨_, rfl⟩
        replace h := nm_i h ey10
        refine ww_iinc (pc := 150) hC y10 [(1, .int y10), (0, .ref (w.1 0)), (2, .long x2), (4, .int x4), (5, .int x5)] dX12_layParts_150 1 rfl (by rw [ey10]; rfl) (by decide) rfl ?_
        refine ww_goto (pc := 153) hC 22 dX12_layParts_153 (by decide) ?_
        refine ww_sub [1, 0] rfl ?_
        exact hk22 _ _ h
      · refine ww_aload_n (pc := 53) hC dX12_layParts_53 0 rfl ?_
        refine ww_getR (pc := 54) hC 12 33 20 hL.1 RX12 (by decide) (by decide) rfl (lay_12_33 hL).1 qf_X12_111 rfl dX12_layParts_54 ?_
        refine ww_aload_n (pc := 57) hC dX12_layParts_57 0 rfl ?_
        refine ww_getR (pc := 58) hC 12 34 21 hL.1 RX12 (by decide) (by decide) rfl (lay_12_34 hL).1 qf_X12_114 rfl dX12_layParts_58 ?_
        refine ww_iload (pc := 61) hC dX12_layParts_61 4 rfl ?_
        refine ww_iald (pc := 63) hC ((lay_12_34 hL).2) h dX12_layParts_63 (fun h => ?_)
        refine ww_iald (pc := 64) hC ((lay_12_33 hL).2) h dX12_layParts_64 (fun h => ?_)
        obtain ⟨y11, ey11⟩ : ∃ q, q = X.1 20 (X.1 21 (x5).toNatClampNeg).toNatClampNeg := ⟨_, rfl⟩
        replace h := nm_i h ey11
        refine ww_nmi ey11 ?_
        refine ww_istore (pc := 65) hC [(6, .int y11), (0, .ref (w.1 0)), (1, .int x1), (2, .long x2), (4, .int x4), (5, .int x5)] dX12_layParts_65  (by decide) rfl ?_
        refine ww_aload_n (pc := 67) hC dX12_layParts_67 1 rfl ?_
        refine ww_iload_n (pc := 68) hC dX12_layParts_68 2 rfl ?_
        refine ww_iload (pc := 69) hC dX12_layParts_69 5 rfl ?_
        obtain ⟨r13, h12, h⟩ := bnd_i h
        refine ww_callVi (pc := 71) hC [.int x1, .int x5] hL.1.1 hL.1.2 (by decide) (ceX12_has hL h12) ql_X12_336 qi_X12_has qs_X12_X12_has qn_X12 qc_X12_has rfl ⟨by decide, by decide, rfl⟩ rfl ⟨Nat.le_of_ble_eq_true rfl, Nat.le_of_ble_eq_true rfl⟩ (by decide) (rest := []) (Nat.le_of_ble_eq_true rfl) dX12_layParts_71 ⟨Nat.le_of_ble_eq_true rfl, Nat.le_of_ble_eq_true rfl⟩ rfl ?_
        refine ww_istore (pc := 74) hC [(7, .int r13), (6, .int y11), (0, .ref (w.1 0)), (1, .int x1), (2, .long x2), (4, .int x4), (5, .int x5)] dX12_layParts_74  (by decide) rfl ?_
        refine ww_aload_n (pc := 76) hC dX12_layParts_76 2 rfl ?_
        refine ww_iload (pc := 77) hC dX12_layParts_77 1 rfl ?_
        obtain ⟨r15, X_16, h14, h⟩ := bnw_i h
        refine ww_callVi (pc := 79) hC [.int y11] hL.1.1 hL.1.2 (by decide) (ceX12_chanceNow hL h14) ql_X12_323 qi_X12_chanceNow qs_X12_X12_chanceNow qn_X12 qc_X12_chanceNow rfl ⟨by decide, by decide, rfl⟩ rfl ⟨Nat.le_of_ble_eq_true rfl, Nat.le_of_ble_eq_true rfl⟩ (by decide) (rest := []) (Nat.le_of_ble_eq_true rfl) dX12_layParts_79 ⟨Nat.le_of_ble_eq_true rfl, Nat.le_of_ble_eq_true rfl⟩ rfl ?_
        refine ww_istore (pc := 82) hC [(8, .int r15), (7, .int r13), (6, .int y11), (0, .ref (w.1 0)), (1, .int x1), (2, .long x2), (4, .int x4), (5, .int x5)] dX12_layParts_82  (by decide) rfl ?_
        refine ww_lload_n (pc := 84) hC dX12_layParts_84 5 rfl ?_
        refine ww_iload (pc := 85) hC dX12_layParts_85 1 rfl ?_
        refine ww_if_eq (pc := 87) hC h 96 dX12_layParts_87 (by decide) (fun h => ?_) (fun h => ?_)
        · refine ww_bipush (pc := 96) hC (v := (100 : Int32)) dX12_layParts_96 (by decide) ?_
          refine ww_iload (pc := 98) hC dX12_layParts_98 0 rfl ?_
          refine ww_isub (pc := 100) hC dX12_layParts_100 ?_
          refine ww_i2l (pc := 101) hC dX12_layParts_101 ?_
          refine ww_sub [3, 4, 6, 7, 2, 1] rfl ?_
          exact j102 _ hk22 _ ih _ _ _ _ _ _ _ _ h
        · refine ww_iload (pc := 90) hC dX12_layParts_90 0 rfl ?_
          refine ww_i2l (pc := 92) hC dX12_layParts_92 ?_
          refine ww_goto (pc := 93) hC 102 dX12_layParts_93 (by decide) ?_
          refine ww_sub [3, 4, 6, 7, 2, 1] rfl ?_
          exact j102 _ hk22 _ ih _ _ _ _ _ _ _ _ h
  have j22 : ∀ (n : Nat), ∀ (x1 : Int32) (X : XD), fX12_layParts_22 n x1 X = some (r, X1) → WW p l e (rmX 8 0 0) s m args below meth c 10 (MQ below (XQ E w z Z X1 none) args s 0 0 (A0 E)) E w 0 0 z Z 22 [(0, .ref (w.1 0)), (1, .int x1)] [] X := by
    intro n
    induction n with
    | zero =>
      intro x1 X h
      cases (show none = some (r, X1) from h)
    | succ n ih =>
      intro x1 X h
      rw [fX12_layParts_22_s] at h
      refine ww_iload_n (pc := 22) hC dX12_layParts_22 1 rfl ?_
      refine ww_iconst (pc := 23) hC (v := (1 : Int32)) dX12_layParts_23 (by decide) ?_
      refine ww_aload_n (pc := 24) hC dX12_layParts_24 0 rfl ?_
      refine ww_getI (pc := 25) hC 12 32 hL.1 RX12 (by decide) (by decide) rfl qf_X12_108 (Or.inl rfl) dX12_layParts_25 ?_
      refine ww_ishl (pc := 28) hC dX12_layParts_28 ?_
      refine ww_icmp_ge (pc := 29) hC h 156 dX12_layParts_29 (by decide) (fun h => ?_) (fun h => ?_)
      · exact ww_vret (pc := 156) hC hr h dX12_layParts_156
      · refine ww_aload_n (pc := 32) hC dX12_layParts_32 0 rfl ?_
        obtain ⟨_, X_5, h3, h⟩ := bnw_i h
        refine ww_callVv (pc := 33) hC [] hL.1.1 hL.1.2 (by decide) (ceX12_save hL h3) ql_X12_333 qi_X12_save qs_X12_X12_save qn_X12 qc_X12_save rfl ⟨by decide, by decide, rfl⟩ rfl ⟨Nat.le_of_ble_eq_true rfl, Nat.le_of_ble_eq_true rfl⟩ (by decide) (rest := []) (Nat.le_of_ble_eq_true rfl) dX12_layParts_33 ⟨Nat.le_of_ble_eq_true rfl, Nat.le_of_ble_eq_true rfl⟩ rfl ?_
        refine ww_lconst (pc := 36) hC (v := (1 : Int64)) dX12_layParts_36 (by decide) ?_
        refine ww_lstore_n (pc := 37) hC [(2, .long ((1 : Int64))), (0, .ref (w.1 0)), (1, .int x1)] dX12_layParts_37 rfl (by decide) rfl ?_
        refine ww_iconst (pc := 38) hC (v := (0 : Int32)) dX12_layParts_38 (by decide) ?_
        refine ww_istore (pc := 39) hC [(4, .int ((0 : Int32))), (2, .long ((1 : Int64))), (0, .ref (w.1 0)), (1, .int x1)] dX12_layParts_39  (by decide) rfl ?_
        refine ww_iconst (pc := 41) hC (v := (0 : Int32)) dX12_layParts_41 (by decide) ?_
        refine ww_istore (pc := 42) hC [(5, .int ((0 : Int32))), (4, .int ((0 : Int32))), (2, .long ((1 : Int64))), (0, .ref (w.1 0)), (1, .int x1)] dX12_layParts_42  (by decide) rfl ?_
        refine ww_sub [3, 4, 2, 1, 0] rfl ?_
        exact j44 _ ih _ _ _ _ _ _ h
  have j2 : ∀ (n : Nat), ∀ (x1 : Int32) (X : XD), fX12_layParts_2 n x1 X = some (r, X1) → WW p l e (rmX 8 0 0) s m args below meth c 10 (MQ below (XQ E w z Z X1 none) args s 0 0 (A0 E)) E w 0 0 z Z 2 [(0, .ref (w.1 0)), (1, .int x1)] [] X := by
    intro n
    induction n with
    | zero =>
      intro x1 X h
      cases (show none = some (r, X1) from h)
    | succ n ih =>
      intro x1 X h
      rw [fX12_layParts_2_s] at h
      refine ww_iload_n (pc := 2) hC dX12_layParts_2 1 rfl ?_
      refine ww_iconst (pc := 3) hC (v := (5 : Int32)) dX12_layParts_3 (by decide) ?_
      refine ww_icmp_ge (pc := 4) hC h 20 dX12_layParts_4 (by decide) (fun h => ?_) (fun h => ?_)
      · refine ww_iconst (pc := 20) hC (v := (0 : Int32)) dX12_layParts_20 (by decide) ?_
        refine ww_istore_n (pc := 21) hC [(1, .int ((0 : Int32))), (0, .ref (w.1 0))] dX12_layParts_21 rfl (by decide) rfl ?_
        refine ww_sub [1, 0] rfl ?_
        exact j22 _ _ _ h
      · refine ww_aload_n (pc := 7) hC dX12_layParts_7 0 rfl ?_
        refine ww_getR (pc := 8) hC 12 36 23 hL.1 RX12 (by decide) (by decide) rfl (lay_12_36 hL).1 qf_X12_120 rfl dX12_layParts_8 ?_
        refine ww_iload_n (pc := 11) hC dX12_layParts_11 1 rfl ?_
        refine ww_lconst (pc := 12) hC (v := (0 : Int64)) dX12_layParts_12 (by decide) ?_
        refine ww_last (pc := 13) hC ((lay_12_36 hL).2) h dX12_layParts_13 (fun h => ?_)
        obtain ⟨X_1, eX_1⟩ : ∃ q, q = wJ X 23 (x1).toNatClampNeg ((0 : Int64)) := ⟨_, rfl⟩
        replace h := nm_i h eX_1
        refine ww_nmX eX_1 ?_
        obtain ⟨y2, ey2⟩ : ∃ q, q = x1 + (1 : Int32) := ⟨_, rfl⟩
        replace h := nm_i h ey2
        refine ww_iinc (pc := 14) hC y2 [(1, .int y2), (0, .ref (w.1 0))] dX12_layParts_14 1 rfl (by rw [ey2]; rfl) (by decide) rfl ?_
        refine ww_goto (pc := 17) hC 2 dX12_layParts_17 (by decide) ?_
        refine ww_sub [1, 0] rfl ?_
        exact ih _ _ h
  unfold fX12_layParts at h
  refine ww_lv (lv' := [(0, .ref (w.1 0))]) rfl ?_
  refine ww_iconst (pc := 0) hC (v := (0 : Int32)) dX12_layParts_0 (by decide) ?_
  refine ww_istore_n (pc := 1) hC [(1, .int ((0 : Int32))), (0, .ref (w.1 0))] dX12_layParts_1 rfl (by decide) rfl ?_
  refine ww_sub [1, 0] rfl ?_
  exact j2 _ _ _ h
noncomputable def fX12_layInOrder_2 (n : Nat) : Int32 → XD → Option (Unit × XD) := Nat.rec (motive := fun _ => Int32 → XD → Option (Unit × XD)) (fun _ _ => none) (fun _ f => fun x1 X => if ((4 : Int32)) ≤ x1 then bnw (fX12_layParts X) (fun _ X_3 => some ((), X_3)) else gin x1 4 (nm (wI X 21 (x1).toNatClampNeg x1) (fun X_4 => nm (x1 + (1 : Int32)) (fun y5 => f y5 X_4)))) n
theorem fX12_layInOrder_2_s (n : Nat) (x1 : Int32) (X : XD) : fX12_layInOrder_2 (n + 1) x1 X = if ((4 : Int32)) ≤ x1 then bnw (fX12_layParts X) (fun _ X_3 => some ((), X_3)) else gin x1 4 (nm (wI X 21 (x1).toNatClampNeg x1) (fun X_4 => nm (x1 + (1 : Int32)) (fun y5 => (fX12_layInOrder_2 n) y5 X_4))) := rfl
noncomputable def fX12_layInOrder (X : XD) : Option (Unit × XD) := fX12_layInOrder_2 FU ((0 : Int32)) X
set_option maxHeartbeats 40000000 in
set_option maxRecDepth 100000 in
theorem ceX12_layInOrder {l : Launch} {E : XE} {w : XW} {z : Nat} {Z : XS} (hL : LayM Z) {X X1 : XD} {r : Unit} (h : fX12_layInOrder X = some (r, X1)) : Ct l E w yX12_layInOrder (wsM yX12_layInOrder cX12_layInOrder 2 none) (rmX 9 0 0) 0 0 [.ref (w.1 0)] z z Z Z X X1 none := by
  refine ct_of (by decide) (Nat.le_of_ble_eq_true rfl) ?_
  intro p e s m args below meth c hC hr hin hav
  have j2 : ∀ (n : Nat), ∀ (x1 : Int32) (X : XD), fX12_layInOrder_2 n x1 X = some (r, X1) → WW p l e (rmX 9 0 0) s m args below meth c 2 (MQ below (XQ E w z Z X1 none) args s 0 0 (A0 E)) E w 0 0 z Z 2 [(0, .ref (w.1 0)), (1, .int x1)] [] X := by
    intro n
    induction n with
    | zero =>
      intro x1 X h
      cases (show none = some (r, X1) from h)
    | succ n ih =>
      intro x1 X h
      rw [fX12_layInOrder_2_s] at h
      refine ww_iload_n (pc := 2) hC dX12_layInOrder_2 1 rfl ?_
      refine ww_iconst (pc := 3) hC (v := (4 : Int32)) dX12_layInOrder_3 (by decide) ?_
      refine ww_icmp_ge (pc := 4) hC h 20 dX12_layInOrder_4 (by decide) (fun h => ?_) (fun h => ?_)
      · refine ww_aload_n (pc := 20) hC dX12_layInOrder_20 0 rfl ?_
        obtain ⟨_, X_3, h1, h⟩ := bnw_i h
        refine ww_callVv (pc := 21) hC [] hL.1.1 hL.1.2 (by decide) (ceX12_layParts hL h1) ql_X12_342 qi_X12_layParts qs_X12_X12_layParts qn_X12 qc_X12_layParts rfl ⟨by decide, by decide, rfl⟩ rfl ⟨Nat.le_of_ble_eq_true rfl, Nat.le_of_ble_eq_true rfl⟩ (by decide) (rest := []) (Nat.le_of_ble_eq_true rfl) dX12_layInOrder_21 ⟨Nat.le_of_ble_eq_true rfl, Nat.le_of_ble_eq_true rfl⟩ rfl ?_
        exact ww_vret (pc := 24) hC hr h dX12_layInOrder_24
      · refine ww_aload_n (pc := 7) hC dX12_layInOrder_7 0 rfl ?_
        refine ww_getR (pc := 8) hC 12 34 21 hL.1 RX12 (by decide) (by decide) rfl (lay_12_34 hL).1 qf_X12_114 rfl dX12_layInOrder_8 ?_
        refine ww_iload_n (pc := 11) hC dX12_layInOrder_11 1 rfl ?_
        refine ww_iload_n (pc := 12) hC dX12_layInOrder_12 1 rfl ?_
        refine ww_iast (pc := 13) hC ((lay_12_34 hL).2) h dX12_layInOrder_13 (fun h => ?_)
        obtain ⟨X_4, eX_4⟩ : ∃ q, q = wI X 21 (x1).toNatClampNeg x1 := ⟨_, rfl⟩
        replace h := nm_i h eX_4
        refine ww_nmX eX_4 ?_
        obtain ⟨y5, ey5⟩ : ∃ q, q = x1 + (1 : Int32) := ⟨_, rfl⟩
        replace h := nm_i h ey5
        refine ww_iinc (pc := 14) hC y5 [(1, .int y5), (0, .ref (w.1 0))] dX12_layInOrder_14 1 rfl (by rw [ey5]; rfl) (by decide) rfl ?_
        refine ww_goto (pc := 17) hC 2 dX12_layInOrder_17 (by decide) ?_
        refine ww_sub [1, 0] rfl ?_
        exact ih _ _ h
  unfold fX12_layInOrder at h
  refine ww_lv (lv' := [(0, .ref (w.1 0))]) rfl ?_
  refine ww_iconst (pc := 0) hC (v := (0 : Int32)) dX12_layInOrder_0 (by decide) ?_
  refine ww_istore_n (pc := 1) hC [(1, .int ((0 : Int32))), (0, .ref (w.1 0))] dX12_layInOrder_1 rfl (by decide) rfl ?_
  refine ww_sub [1, 0] rfl ?_
  exact j2 _ _ _ h
noncomputable def fX12_hundreds_5 (n : Nat) : Int32 → Int64 → Int32 → XD → Option Int64 := Nat.rec (motive := fun _ => Int32 → Int64 → Int32 → XD → Option Int64) (fun _ _ _ _ => none) (fun _ f => fun x1 x2 x4 X => if x1 ≤ x4 then some x2 else nm (x2 * ((100 : Int64))) (fun y1 => nm (x4 + (1 : Int32)) (fun y2 => f x1 y1 y2 X))) n
theorem fX12_hundreds_5_s (n : Nat) (x1 : Int32) (x2 : Int64) (x4 : Int32) (X : XD) : fX12_hundreds_5 (n + 1) x1 x2 x4 X = if x1 ≤ x4 then some x2 else nm (x2 * ((100 : Int64))) (fun y1 => nm (x4 + (1 : Int32)) (fun y2 => (fX12_hundreds_5 n) x1 y1 y2 X)) := rfl
noncomputable def fX12_hundreds (x1 : Int32) (X : XD) : Option Int64 := fX12_hundreds_5 FU x1 ((1 : Int64)) ((0 : Int32)) X
set_option maxHeartbeats 40000000 in
set_option maxRecDepth 100000 in
theorem ceX12_hundreds {l : Launch} {E : XE} {w : XW} {z : Nat} {Z : XS} (hL : LayM Z) {x1 : Int32} {X : XD} {r : Int64} (h : fX12_hundreds x1 X = some r) : Ct l E w yX12_hundreds (wsM yX12_hundreds cX12_hundreds 5 (some .long)) (rmX 1 0 0) 0 0 [.ref (w.1 0), .int x1] z z Z Z X X (some (.long r)) := by
  refine ct_of (by decide) (Nat.le_of_ble_eq_true rfl) ?_
  intro p e s m args below meth c hC hr hin hav
  have j5 : ∀ (n : Nat), ∀ (x1 : Int32) (x2 : Int64) (x4 : Int32), fX12_hundreds_5 n x1 x2 x4 X = some r → WW p l e (rmX 1 0 0) s m args below meth c 5 (MQ below (XQ E w z Z X (some (.long r))) args s 0 0 (A0 E)) E w 0 0 z Z 5 [(1, .int x1), (2, .long x2), (4, .int x4)] [] X := by
    intro n
    induction n with
    | zero =>
      intro x1 x2 x4 h
      cases (show none = some r from h)
    | succ n ih =>
      intro x1 x2 x4 h
      rw [fX12_hundreds_5_s] at h
      refine ww_iload (pc := 5) hC dX12_hundreds_5 2 rfl ?_
      refine ww_iload_n (pc := 7) hC dX12_hundreds_7 0 rfl ?_
      refine ww_icmp_ge (pc := 8) hC h 23 dX12_hundreds_8 (by decide) (fun h => ?_) (fun h => ?_)
      · refine ww_lload_n (pc := 23) hC dX12_hundreds_23 1 rfl ?_
        exact ww_lret (pc := 24) hC hr (ret_r h) dX12_hundreds_24
      · refine ww_lload_n (pc := 11) hC dX12_hundreds_11 1 rfl ?_
        refine ww_ldc2 (pc := 12) hC (v := (100 : Int64)) dX12_hundreds_12 qg_X12_345 ?_
        refine ww_lmul (pc := 15) hC dX12_hundreds_15 ?_
        obtain ⟨y1, ey1⟩ : ∃ q, q = x2 * ((100 : Int64)) := ⟨_, rfl⟩
        replace h := nm_i h ey1
        refine ww_nml ey1 ?_
        refine ww_lstore_n (pc := 16) hC [(2, .long y1), (1, .int x1), (4, .int x4)] dX12_hundreds_16 rfl (by decide) rfl ?_
        obtain ⟨y2, ey2⟩ : ∃ q, q = x4 + (1 : Int32) := ⟨_, rfl⟩
        replace h := nm_i h ey2
        refine ww_iinc (pc := 17) hC y2 [(4, .int y2), (2, .long y1), (1, .int x1)] dX12_hundreds_17 2 rfl (by rw [ey2]; rfl) (by decide) rfl ?_
        refine ww_goto (pc := 20) hC 5 dX12_hundreds_20 (by decide) ?_
        refine ww_sub [2, 1, 0] rfl ?_
        exact ih _ _ _ h
  unfold fX12_hundreds at h
  refine ww_lv (lv' := [(0, .ref (w.1 0)), (1, .int x1)]) rfl ?_
  refine ww_lconst (pc := 0) hC (v := (1 : Int64)) dX12_hundreds_0 (by decide) ?_
  refine ww_lstore_n (pc := 1) hC [(2, .long ((1 : Int64))), (0, .ref (w.1 0)), (1, .int x1)] dX12_hundreds_1 rfl (by decide) rfl ?_
  refine ww_iconst (pc := 2) hC (v := (0 : Int32)) dX12_hundreds_2 (by decide) ?_
  refine ww_istore (pc := 3) hC [(4, .int ((0 : Int32))), (2, .long ((1 : Int64))), (0, .ref (w.1 0)), (1, .int x1)] dX12_hundreds_3  (by decide) rfl ?_
  refine ww_sub [3, 1, 0] rfl ?_
  exact j5 _ _ _ _ h
noncomputable def fX12_divisor_6 (n : Nat) : Int64 → Int64 → XD → Option Int64 := Nat.rec (motive := fun _ => Int64 → Int64 → XD → Option Int64) (fun _ _ _ => none) (fun _ f => fun x5 x7 X => if (lg_cmp x7 ((0 : Int64))) = 0 then some x5 else gnzl x7 (nm (x5 - x5 / x7 * x7) (fun y2 => f x7 y2 X))) n
theorem fX12_divisor_6_s (n : Nat) (x5 : Int64) (x7 : Int64) (X : XD) : fX12_divisor_6 (n + 1) x5 x7 X = if (lg_cmp x7 ((0 : Int64))) = 0 then some x5 else gnzl x7 (nm (x5 - x5 / x7 * x7) (fun y2 => (fX12_divisor_6 n) x7 y2 X)) := rfl
noncomputable def fX12_divisor (x1 : Int64) (x3 : Int64) (X : XD) : Option Int64 := fX12_divisor_6 FU x1 x3 X
set_option maxHeartbeats 40000000 in
set_option maxRecDepth 100000 in
theorem ceX12_divisor {l : Launch} {E : XE} {w : XW} {z : Nat} {Z : XS} (hL : LayM Z) {x1 : Int64} {x3 : Int64} {X : XD} {r : Int64} (h : fX12_divisor x1 x3 X = some r) : Ct l E w yX12_divisor (wsM yX12_divisor cX12_divisor 11 (some .long)) (rmX 1 0 0) 0 0 [.ref (w.1 0), .long x1, .long x3] z z Z Z X X (some (.long r)) := by
  refine ct_of (by decide) (Nat.le_of_ble_eq_true rfl) ?_
  intro p e s m args below meth c hC hr hin hav
  have j6 : ∀ (n : Nat), ∀ (x5 : Int64) (x7 : Int64), fX12_divisor_6 n x5 x7 X = some r → WW p l e (rmX 1 0 0) s m args below meth c 11 (MQ below (XQ E w z Z X (some (.long r))) args s 0 0 (A0 E)) E w 0 0 z Z 6 [(5, .long x5), (7, .long x7)] [] X := by
    intro n
    induction n with
    | zero =>
      intro x5 x7 h
      cases (show none = some r from h)
    | succ n ih =>
      intro x5 x7 h
      rw [fX12_divisor_6_s] at h
      refine ww_lload (pc := 6) hC dX12_divisor_6 1 rfl ?_
      refine ww_lconst (pc := 8) hC (v := (0 : Int64)) dX12_divisor_8 (by decide) ?_
      refine ww_lcmp (pc := 9) hC dX12_divisor_9 ?_
      refine ww_if_eq (pc := 10) hC h 31 dX12_divisor_10 (by decide) (fun h => ?_) (fun h => ?_)
      · refine ww_lload (pc := 31) hC dX12_divisor_31 0 rfl ?_
        exact ww_lret (pc := 33) hC hr (ret_r h) dX12_divisor_33
      · refine ww_lload (pc := 13) hC dX12_divisor_13 0 rfl ?_
        refine ww_lload (pc := 15) hC dX12_divisor_15 1 rfl ?_
        obtain ⟨hz1, h⟩ := gnzl_i h
        refine ww_lrem (pc := 17) hC dX12_divisor_17 hz1 ?_
        obtain ⟨y2, ey2⟩ : ∃ q, q = x5 - x5 / x7 * x7 := ⟨_, rfl⟩
        replace h := nm_i h ey2
        refine ww_nml ey2 ?_
        refine ww_lstore (pc := 18) hC [(9, .long y2), (5, .long x5), (7, .long x7)] dX12_divisor_18  (by decide) rfl ?_
        refine ww_lload (pc := 20) hC dX12_divisor_20 2 rfl ?_
        refine ww_lstore (pc := 22) hC [(5, .long x7), (9, .long y2), (7, .long x7)] dX12_divisor_22  (by decide) rfl ?_
        refine ww_lload (pc := 24) hC dX12_divisor_24 1 rfl ?_
        refine ww_lstore (pc := 26) hC [(7, .long y2), (5, .long x7), (9, .long y2)] dX12_divisor_26  (by decide) rfl ?_
        refine ww_goto (pc := 28) hC 6 dX12_divisor_28 (by decide) ?_
        refine ww_sub [1, 0] rfl ?_
        exact ih _ _ h
  unfold fX12_divisor at h
  refine ww_lv (lv' := [(0, .ref (w.1 0)), (1, .long x1), (3, .long x3)]) rfl ?_
  refine ww_lload_n (pc := 0) hC dX12_divisor_0 1 rfl ?_
  refine ww_lstore (pc := 1) hC [(5, .long x1), (0, .ref (w.1 0)), (1, .long x1), (3, .long x3)] dX12_divisor_1  (by decide) rfl ?_
  refine ww_lload_n (pc := 3) hC dX12_divisor_3 3 rfl ?_
  refine ww_lstore (pc := 4) hC [(7, .long x3), (5, .long x1), (0, .ref (w.1 0)), (1, .long x1), (3, .long x3)] dX12_divisor_4  (by decide) rfl ?_
  refine ww_sub [1, 0] rfl ?_
  exact j6 _ _ _ h
noncomputable def fX12_lowest (x1 : Int64) (x3 : Int64) (x5 : Int32) (X : XD) : Option Int64 := bnd (fX12_divisor x1 x3 X) (fun r2 => if x5 = 0 then gnzl r2 (some (x1 / r2)) else gnzl r2 (some (x3 / r2)))
set_option maxHeartbeats 40000000 in
set_option maxRecDepth 100000 in
theorem ceX12_lowest {l : Launch} {E : XE} {w : XW} {z : Nat} {Z : XS} (hL : LayM Z) {x1 : Int64} {x3 : Int64} {x5 : Int32} {X : XD} {r : Int64} (h : fX12_lowest x1 x3 x5 X = some r) : Ct l E w yX12_lowest (wsM yX12_lowest cX12_lowest 8 (some .long)) (rmX 2 0 0) 0 0 [.ref (w.1 0), .long x1, .long x3, .int x5] z z Z Z X X (some (.long r)) := by
  refine ct_of (by decide) (Nat.le_of_ble_eq_true rfl) ?_
  intro p e s m args below meth c hC hr hin hav
  unfold fX12_lowest at h
  refine ww_lv (lv' := [(0, .ref (w.1 0)), (1, .long x1), (3, .long x3), (5, .int x5)]) rfl ?_
  refine ww_aload_n (pc := 0) hC dX12_lowest_0 0 rfl ?_
  refine ww_lload_n (pc := 1) hC dX12_lowest_1 1 rfl ?_
  refine ww_lload_n (pc := 2) hC dX12_lowest_2 2 rfl ?_
  obtain ⟨r2, h1, h⟩ := bnd_i h
  refine ww_callVl (pc := 3) hC [.long x1, .long x3] hL.1.1 hL.1.2 (by decide) (ceX12_divisor hL h1) ql_X12_347 qi_X12_divisor qs_X12_X12_divisor qn_X12 qc_X12_divisor rfl ⟨by decide, by decide, rfl⟩ rfl ⟨Nat.le_of_ble_eq_true rfl, Nat.le_of_ble_eq_true rfl⟩ (by decide) (rest := []) (Nat.le_of_ble_eq_true rfl) dX12_lowest_3 ⟨Nat.le_of_ble_eq_true rfl, Nat.le_of_ble_eq_true rfl⟩ rfl ?_
  refine ww_lstore (pc := 6) hC [(6, .long r2), (0, .ref (w.1 0)), (1, .long x1), (3, .long x3), (5, .int x5)] dX12_lowest_6  (by decide) rfl ?_
  refine ww_iload (pc := 8) hC dX12_lowest_8 4 rfl ?_
  refine ww_if_ne (pc := 10) hC h 20 dX12_lowest_10 (by decide) (fun h => ?_) (fun h => ?_)
  · refine ww_lload_n (pc := 20) hC dX12_lowest_20 3 rfl ?_
    refine ww_lload (pc := 21) hC dX12_lowest_21 0 rfl ?_
    obtain ⟨hz3, h⟩ := gnzl_i h
    refine ww_ldiv (pc := 23) hC dX12_lowest_23 hz3 ?_
    exact ww_lret (pc := 24) hC hr (ret_r h) dX12_lowest_24
  · refine ww_lload_n (pc := 13) hC dX12_lowest_13 2 rfl ?_
    refine ww_lload (pc := 14) hC dX12_lowest_14 0 rfl ?_
    obtain ⟨hz4, h⟩ := gnzl_i h
    refine ww_ldiv (pc := 16) hC dX12_lowest_16 hz4 ?_
    refine ww_goto (pc := 17) hC 24 dX12_lowest_17 (by decide) ?_
    exact ww_lret (pc := 24) hC hr (ret_r h) dX12_lowest_24
noncomputable def fX12_likely (x1 : Int32) (x2 : Int32) (X : XD) : Option (Int64 × XD) := bnd (fX12_in x1 ((0 : Int32)) ((4 : Int32)) X) (fun r2 => if r2 = 0 then some ((-9223372036854775808 : Int64), X) else bnd (fX12_in x2 ((0 : Int32)) ((1 : Int32)) X) (fun r4 => if r4 = 0 then some ((-9223372036854775808 : Int64), X) else bnw (fX12_layInOrder X) (fun _ X_7 => gin x1 5 (bnd (fX12_hundreds (X_7.1 0 32) X_7) (fun r9 => bnd (fX12_lowest (X_7.2 23 (x1).toNatClampNeg) r9 x2 X_7) (fun r11 => some (r11, X_7)))))))
set_option maxHeartbeats 40000000 in
set_option maxRecDepth 100000 in
theorem ceX12_likely {l : Launch} {E : XE} {w : XW} {z : Nat} {Z : XS} (hL : LayM Z) {x1 : Int32} {x2 : Int32} {X X1 : XD} {r : Int64} (h : fX12_likely x1 x2 X = some (r, X1)) : Ct l E w yX12_likely (wsM yX12_likely cX12_likely 3 (some .long)) (rmX 10 0 0) 0 0 [.ref (w.1 0), .int x1, .int x2] z z Z Z X X1 (some (.long r)) := by
  refine ct_of (by decide) (Nat.le_of_ble_eq_true rfl) ?_
  intro p e s m args below meth c hC hr hin hav
  unfold fX12_likely at h
  refine ww_lv (lv' := [(0, .ref (w.1 0)), (1, .int x1), (2, .int x2)]) rfl ?_
  refine ww_aload_n (pc := 0) hC dX12_likely_0 0 rfl ?_
  refine ww_iload_n (pc := 1) hC dX12_likely_1 1 rfl ?_
  refine ww_iconst (pc := 2) hC (v := (0 : Int32)) dX12_likely_2 (by decide) ?_
  refine ww_iconst (pc := 3) hC (v := (4 : Int32)) dX12_likely_3 (by decide) ?_
  obtain ⟨r2, h1, h⟩ := bnd_i h
  refine ww_callVi (pc := 4) hC [.int x1, .int ((0 : Int32)), .int ((4 : Int32))] hL.1.1 hL.1.2 (by decide) (ceX12_in hL h1) ql_X12_215 qi_X12_in qs_X12_X12_in qn_X12 qc_X12_in rfl ⟨by decide, by decide, rfl⟩ rfl ⟨Nat.le_of_ble_eq_true rfl, Nat.le_of_ble_eq_true rfl⟩ (by decide) (rest := []) (Nat.le_of_ble_eq_true rfl) dX12_likely_4 ⟨Nat.le_of_ble_eq_true rfl, Nat.le_of_ble_eq_true rfl⟩ rfl ?_
  refine ww_if_eq (pc := 7) hC h 20 dX12_likely_7 (by decide) (fun h => ?_) (fun h => ?_)
  · refine ww_ldc2 (pc := 20) hC (v := (-9223372036854775808 : Int64)) dX12_likely_20 qg_X12_351 ?_
    exact ww_lret (pc := 23) hC hr h dX12_likely_23
  · refine ww_aload_n (pc := 10) hC dX12_likely_10 0 rfl ?_
    refine ww_iload_n (pc := 11) hC dX12_likely_11 2 rfl ?_
    refine ww_iconst (pc := 12) hC (v := (0 : Int32)) dX12_likely_12 (by decide) ?_
    refine ww_iconst (pc := 13) hC (v := (1 : Int32)) dX12_likely_13 (by decide) ?_
    obtain ⟨r4, h3, h⟩ := bnd_i h
    refine ww_callVi (pc := 14) hC [.int x2, .int ((0 : Int32)), .int ((1 : Int32))] hL.1.1 hL.1.2 (by decide) (ceX12_in hL h3) ql_X12_215 qi_X12_in qs_X12_X12_in qn_X12 qc_X12_in rfl ⟨by decide, by decide, rfl⟩ rfl ⟨Nat.le_of_ble_eq_true rfl, Nat.le_of_ble_eq_true rfl⟩ (by decide) (rest := []) (Nat.le_of_ble_eq_true rfl) dX12_likely_14 ⟨Nat.le_of_ble_eq_true rfl, Nat.le_of_ble_eq_true rfl⟩ rfl ?_
    refine ww_if_ne (pc := 17) hC h 24 dX12_likely_17 (by decide) (fun h => ?_) (fun h => ?_)
    · refine ww_aload_n (pc := 24) hC dX12_likely_24 0 rfl ?_
      obtain ⟨_, X_7, h5, h⟩ := bnw_i h
      refine ww_callVv (pc := 25) hC [] hL.1.1 hL.1.2 (by decide) (ceX12_layInOrder hL h5) ql_X12_353 qi_X12_layInOrder qs_X12_X12_layInOrder qn_X12 qc_X12_layInOrder rfl ⟨by decide, by decide, rfl⟩ rfl ⟨Nat.le_of_ble_eq_true rfl, Nat.le_of_ble_eq_true rfl⟩ (by decide) (rest := []) (Nat.le_of_ble_eq_true rfl) dX12_likely_25 ⟨Nat.le_of_ble_eq_true rfl, Nat.le_of_ble_eq_true rfl⟩ rfl ?_
      refine ww_aload_n (pc := 28) hC dX12_likely_28 0 rfl ?_
      refine ww_aload_n (pc := 29) hC dX12_likely_29 0 rfl ?_
      refine ww_getR (pc := 30) hC 12 36 23 hL.1 RX12 (by decide) (by decide) rfl (lay_12_36 hL).1 qf_X12_120 rfl dX12_likely_30 ?_
      refine ww_iload_n (pc := 33) hC dX12_likely_33 1 rfl ?_
      refine ww_lald (pc := 34) hC ((lay_12_36 hL).2) h dX12_likely_34 (fun h => ?_)
      refine ww_aload_n (pc := 35) hC dX12_likely_35 0 rfl ?_
      refine ww_aload_n (pc := 36) hC dX12_likely_36 0 rfl ?_
      refine ww_getI (pc := 37) hC 12 32 hL.1 RX12 (by decide) (by decide) rfl qf_X12_108 (Or.inl rfl) dX12_likely_37 ?_
      obtain ⟨r9, h8, h⟩ := bnd_i h
      refine ww_callVl (pc := 40) hC [.int (X_7.1 0 32)] hL.1.1 hL.1.2 (by decide) (ceX12_hundreds hL h8) ql_X12_356 qi_X12_hundreds qs_X12_X12_hundreds qn_X12 qc_X12_hundreds rfl ⟨by decide, by decide, rfl⟩ rfl ⟨Nat.le_of_ble_eq_true rfl, Nat.le_of_ble_eq_true rfl⟩ (by decide) (rest := [.long (X_7.2 23 (x1).toNatClampNeg), .ref (w.1 0)]) (Nat.le_of_ble_eq_true rfl) dX12_likely_40 ⟨Nat.le_of_ble_eq_true rfl, Nat.le_of_ble_eq_true rfl⟩ rfl ?_
      refine ww_iload_n (pc := 43) hC dX12_likely_43 2 rfl ?_
      obtain ⟨r11, h10, h⟩ := bnd_i h
      refine ww_callVl (pc := 44) hC [.long (X_7.2 23 (x1).toNatClampNeg), .long r9, .int x2] hL.1.1 hL.1.2 (by decide) (ceX12_lowest hL h10) ql_X12_360 qi_X12_lowest qs_X12_X12_lowest qn_X12 qc_X12_lowest rfl ⟨by decide, by decide, rfl⟩ rfl ⟨Nat.le_of_ble_eq_true rfl, Nat.le_of_ble_eq_true rfl⟩ (by decide) (rest := []) (Nat.le_of_ble_eq_true rfl) dX12_likely_44 ⟨Nat.le_of_ble_eq_true rfl, Nat.le_of_ble_eq_true rfl⟩ rfl ?_
      exact ww_lret (pc := 47) hC hr h dX12_likely_47
    · refine ww_ldc2 (pc := 20) hC (v := (-9223372036854775808 : Int64)) dX12_likely_20 qg_X12_351 ?_
      exact ww_lret (pc := 23) hC hr h dX12_likely_23
noncomputable def fX12_layOrder_110 (k44 : Int32 → Int32 → Int32 → Int32 → XD → Option (Int32 × XD)) (k78 : Int32 → Int32 → Int32 → Int32 → Int32 → Int32 → XD → Option (Int32 × XD)) (x2 : Int32) (x3 : Int32) (x4 : Int32) (x5 : Int32) (x7 : Int32) (s0 : Int32) (s1 : Int32) (X : XD) : Option (Int32 × XD) := nm (s1 - s0) (fun y17 => nm (x7 + (1 : Int32)) (fun y18 => k78 x2 x3 x4 x5 y17 y18 X))
noncomputable def fX12_layOrder_93 (k44 : Int32 → Int32 → Int32 → Int32 → XD → Option (Int32 × XD)) (k78 : Int32 → Int32 → Int32 → Int32 → Int32 → Int32 → XD → Option (Int32 × XD)) (x2 : Int32) (x3 : Int32) (x4 : Int32) (x5 : Int32) (x6 : Int32) (x7 : Int32) (X : XD) : Option (Int32 × XD) := bnd (fX12_has x3 x7 X) (fun r16 => if r16 = 0 then fX12_layOrder_110 k44 k78 x2 x3 x4 x5 x7 ((0 : Int32)) x6 X else fX12_layOrder_110 k44 k78 x2 x3 x4 x5 x7 ((1 : Int32)) x6 X)
noncomputable def fX12_layOrder_78 (k44 : Int32 → Int32 → Int32 → Int32 → XD → Option (Int32 × XD)) (n : Nat) : Int32 → Int32 → Int32 → Int32 → Int32 → Int32 → XD → Option (Int32 × XD) := Nat.rec (motive := fun _ => Int32 → Int32 → Int32 → Int32 → Int32 → Int32 → XD → Option (Int32 × XD)) (fun _ _ _ _ _ _ _ => none) (fun _ f => fun x2 x3 x4 x5 x6 x7 X => bnd (fX12_has x3 x7 X) (fun r11 => if r11 = 0 then fX12_layOrder_93 k44 (f) x2 x3 x4 x5 x6 x7 X else if x6 ≤ 0 then gin x5 4 (nm (wI X 21 (x5).toNatClampNeg x7) (fun X_12 => nm (x3 &&& ((((1 : Int32)) <<< (x7 &&& 31)) ^^^ ((-1 : Int32)))) (fun y13 => nm (x5 + (1 : Int32)) (fun y14 => k44 x2 y13 x4 y14 X_12)))) else fX12_layOrder_93 k44 (f) x2 x3 x4 x5 x6 x7 X)) n
theorem fX12_layOrder_78_s (k44 : Int32 → Int32 → Int32 → Int32 → XD → Option (Int32 × XD)) (n : Nat) (x2 : Int32) (x3 : Int32) (x4 : Int32) (x5 : Int32) (x6 : Int32) (x7 : Int32) (X : XD) : fX12_layOrder_78 k44 (n + 1) x2 x3 x4 x5 x6 x7 X = bnd (fX12_has x3 x7 X) (fun r11 => if r11 = 0 then fX12_layOrder_93 k44 ((fX12_layOrder_78 k44 n)) x2 x3 x4 x5 x6 x7 X else if x6 ≤ 0 then gin x5 4 (nm (wI X 21 (x5).toNatClampNeg x7) (fun X_12 => nm (x3 &&& ((((1 : Int32)) <<< (x7 &&& 31)) ^^^ ((-1 : Int32)))) (fun y13 => nm (x5 + (1 : Int32)) (fun y14 => k44 x2 y13 x4 y14 X_12)))) else fX12_layOrder_93 k44 ((fX12_layOrder_78 k44 n)) x2 x3 x4 x5 x6 x7 X) := rfl
noncomputable def fX12_layOrder_44 (n : Nat) : Int32 → Int32 → Int32 → Int32 → XD → Option (Int32 × XD) := Nat.rec (motive := fun _ => Int32 → Int32 → Int32 → Int32 → XD → Option (Int32 × XD)) (fun _ _ _ _ _ => none) (fun _ f => fun x2 x3 x4 x5 X => if (X.1 0 32) ≤ x5 then some ((1 : Int32), X) else gnz ((X.1 0 32) - x5) (nm (x2 / ((X.1 0 32) - x5)) (fun y5 => gnz y5 (nm (x4 / y5) (fun y7 => gnz y5 (nm (x4 - x4 / y5 * y5) (fun y9 => fX12_layOrder_78 (f) FU y5 x3 y9 x5 y7 ((0 : Int32)) X))))))) n
theorem fX12_layOrder_44_s (n : Nat) (x2 : Int32) (x3 : Int32) (x4 : Int32) (x5 : Int32) (X : XD) : fX12_layOrder_44 (n + 1) x2 x3 x4 x5 X = if (X.1 0 32) ≤ x5 then some ((1 : Int32), X) else gnz ((X.1 0 32) - x5) (nm (x2 / ((X.1 0 32) - x5)) (fun y5 => gnz y5 (nm (x4 / y5) (fun y7 => gnz y5 (nm (x4 - x4 / y5 * y5) (fun y9 => fX12_layOrder_78 ((fX12_layOrder_44 n)) FU y5 x3 y9 x5 y7 ((0 : Int32)) X)))))) := rfl
noncomputable def fX12_layOrder_4 (n : Nat) : Int32 → Int32 → Int32 → XD → Option (Int32 × XD) := Nat.rec (motive := fun _ => Int32 → Int32 → Int32 → XD → Option (Int32 × XD)) (fun _ _ _ _ => none) (fun _ f => fun x1 x2 x3 X => if (X.1 0 32) < x3 then if x1 < x2 then nm ((((1 : Int32)) <<< ((X.1 0 32) &&& 31)) - ((1 : Int32))) (fun y1 => fX12_layOrder_44 FU x2 y1 x1 ((0 : Int32)) X) else some ((0 : Int32), X) else nm (x2 * x3) (fun y2 => nm (x3 + (1 : Int32)) (fun y3 => f x1 y2 y3 X))) n
theorem fX12_layOrder_4_s (n : Nat) (x1 : Int32) (x2 : Int32) (x3 : Int32) (X : XD) : fX12_layOrder_4 (n + 1) x1 x2 x3 X = if (X.1 0 32) < x3 then if x1 < x2 then nm ((((1 : Int32)) <<< ((X.1 0 32) &&& 31)) - ((1 : Int32))) (fun y1 => fX12_layOrder_44 FU x2 y1 x1 ((0 : Int32)) X) else some ((0 : Int32), X) else nm (x2 * x3) (fun y2 => nm (x3 + (1 : Int32)) (fun y3 => (fX12_layOrder_4 n) x1 y2 y3 X)) := rfl
noncomputable def fX12_layOrder (x1 : Int32) (X : XD) : Option (Int32 × XD) := fX12_layOrder_4 FU x1 ((1 : Int32)) ((2 : Int32)) X
set_option maxHeartbeats 40000000 in
set_option maxRecDepth 100000 in
theorem ceX12_layOrder {l : Launch} {E : XE} {w : XW} {z : Nat} {Z : XS} (hL : LayM Z) {x1 : Int32} {X X1 : XD} {r : Int32} (h : fX12_layOrder x1 X = some (r, X1)) : Ct l E w yX12_layOrder (wsM yX12_layOrder cX12_layOrder 8 (some .boolean)) (rmX 2 0 0) 0 0 [.ref (w.1 0), .int x1] z z Z Z X X1 (some (.int r)) := by
  refine ct_of (by decide) (Nat.le_of_ble_eq_true rfl) ?_
  intro p e s m args below meth c hC hr hin hav
  have j110 : ∀ (k44 : Int32 → Int32 → Int32 → Int32 → XD → Option (Int32 × XD)) (hk44 : ∀ (x2 : Int32) (x3 : Int32) (x4 : Int32) (x5 : Int32) (X : XD), k44 x2 x3 x4 x5 X = some (r, X1) → WW p l e (rmX 2 0 0) s m args below meth c 8 (MQ below (XQ E w z Z X1 (some (.int r))) args s 0 0 (A0 E)) E w 0 0 z Z 44 [(0, .ref (w.1 0)), (2, .int x2), (3, .int x3), (4, .int x4), (5, .int x5)] [] X) (k78 : Int32 → Int32 → Int32 → Int32 → Int32 → Int32 → XD → Option (Int32 × XD)) (hk78 : ∀ (x2 : Int32) (x3 : Int32) (x4 : Int32) (x5 : Int32) (x6 : Int32) (x7 : Int32) (X : XD), k78 x2 x3 x4 x5 x6 x7 X = some (r, X1) → WW p l e (rmX 2 0 0) s m args below meth c 8 (MQ below (XQ E w z Z X1 (some (.int r))) args s 0 0 (A0 E)) E w 0 0 z Z 78 [(0, .ref (w.1 0)), (2, .int x2), (3, .int x3), (4, .int x4), (5, .int x5), (6, .int x6), (7, .int x7)] [] X), ∀ (x2 : Int32) (x3 : Int32) (x4 : Int32) (x5 : Int32) (x7 : Int32) (s0 : Int32) (s1 : Int32) (X : XD), fX12_layOrder_110 k44 k78 x2 x3 x4 x5 x7 s0 s1 X = some (r, X1) → WW p l e (rmX 2 0 0) s m args below meth c 8 (MQ below (XQ E w z Z X1 (some (.int r))) args s 0 0 (A0 E)) E w 0 0 z Z 110 [(0, .ref (w.1 0)), (2, .int x2), (3, .int x3), (4, .int x4), (5, .int x5), (7, .int x7)] [.int s0, .int s1] X := by
    intro k44 hk44 k78 hk78 x2 x3 x4 x5 x7 s0 s1 X h
    unfold fX12_layOrder_110 at h
    refine ww_isub (pc := 110) hC dX12_layOrder_110 ?_
    obtain ⟨y17, ey17⟩ : ∃ q, q = s1 - s0 := ⟨_, rfl⟩
    replace h := nm_i h ey17
    refine ww_nmi ey17 ?_
    refine ww_istore (pc := 111) hC [(6, .int y17), (0, .ref (w.1 0)), (2, .int x2), (3, .int x3), (4, .int x4), (5, .int x5), (7, .int x7)] dX12_layOrder_111  (by decide) rfl ?_
    obtain ⟨y18, ey18⟩ : ∃ q, q = x7 + (1 : Int32) := ⟨_, rfl⟩
    replace h := nm_i h ey18
    refine ww_iinc (pc := 113) hC y18 [(7, .int y18), (6, .int y17), (0, .ref (w.1 0)), (2, .int x2), (3, .int x3), (4, .int x4), (5, .int x5)] dX12_layOrder_113 6 rfl (by rw [ey18]; rfl) (by decide) rfl ?_
    refine ww_goto (pc := 116) hC 78 dX12_layOrder_116 (by decide) ?_
    refine ww_sub [2, 3, 4, 5, 6, 1, 0] rfl ?_
    exact hk78 _ _ _ _ _ _ _ h
  have j93 : ∀ (k44 : Int32 → Int32 → Int32 → Int32 → XD → Option (Int32 × XD)) (hk44 : ∀ (x2 : Int32) (x3 : Int32) (x4 : Int32) (x5 : Int32) (X : XD), k44 x2 x3 x4 x5 X = some (r, X1) → WW p l e (rmX 2 0 0) s m args below meth c 8 (MQ below (XQ E w z Z X1 (some (.int r))) args s 0 0 (A0 E)) E w 0 0 z Z 44 [(0, .ref (w.1 0)), (2, .int x2), (3, .int x3), (4, .int x4), (5, .int x5)] [] X) (k78 : Int32 → Int32 → Int32 → Int32 → Int32 → Int32 → XD → Option (Int32 × XD)) (hk78 : ∀ (x2 : Int32) (x3 : Int32) (x4 : Int32) (x5 : Int32) (x6 : Int32) (x7 : Int32) (X : XD), k78 x2 x3 x4 x5 x6 x7 X = some (r, X1) → WW p l e (rmX 2 0 0) s m args below meth c 8 (MQ below (XQ E w z Z X1 (some (.int r))) args s 0 0 (A0 E)) E w 0 0 z Z 78 [(0, .ref (w.1 0)), (2, .int x2), (3, .int x3), (4, .int x4), (5, .int x5), (6, .int x6), (7, .int x7)] [] X), ∀ (x2 : Int32) (x3 : Int32) (x4 : Int32) (x5 : Int32) (x6 : Int32) (x7 : Int32) (X : XD), fX12_layOrder_93 k44 k78 x2 x3 x4 x5 x6 x7 X = some (r, X1) → WW p l e (rmX 2 0 0) s m args below meth c 8 (MQ below (XQ E w z Z X1 (some (.int r))) args s 0 0 (A0 E)) E w 0 0 z Z 93 [(0, .ref (w.1 0)), (2, .int x2), (3, .int x3), (4, .int x4), (5, .int x5), (6, .int x6), (7, .int x7)] [] X := by
    intro k44 hk44 k78 hk78 x2 x3 x4 x5 x6 x7 X h
    unfold fX12_layOrder_93 at h
    refine ww_iload (pc := 93) hC dX12_layOrder_93 5 rfl ?_
    refine ww_aload_n (pc := 95) hC dX12_layOrder_95 0 rfl ?_
    refine ww_iload_n (pc := 96) hC dX12_layOrder_96 2 rfl ?_
    refine ww_iload (pc := 97) hC dX12_layOrder_97 6 rfl ?_
    obtain ⟨r16, h15, h⟩ := bnd_i h
    refine ww_callVi (pc := 99) hC [.int x3, .int x7] hL.1.1 hL.1.2 (by decide) (ceX12_has hL h15) ql_X12_336 qi_X12_has qs_X12_X12_has qn_X12 qc_X12_has rfl ⟨by decide, by decide, rfl⟩ rfl ⟨Nat.le_of_ble_eq_true rfl, Nat.le_of_ble_eq_true rfl⟩ (by decide) (rest := [.int x6]) (Nat.le_of_ble_eq_true rfl) dX12_layOrder_99 ⟨Nat.le_of_ble_eq_true rfl, Nat.le_of_ble_eq_true rfl⟩ rfl ?_
    refine ww_if_eq (pc := 102) hC h 109 dX12_layOrder_102 (by decide) (fun h => ?_) (fun h => ?_)
    · refine ww_iconst (pc := 109) hC (v := (0 : Int32)) dX12_layOrder_109 (by decide) ?_
      refine ww_sub [0, 1, 2, 3, 4, 6] rfl ?_
      exact j110 _ hk44 _ hk78 _ _ _ _ _ _ _ _ h
    · refine ww_iconst (pc := 105) hC (v := (1 : Int32)) dX12_layOrder_105 (by decide) ?_
      refine ww_goto (pc := 106) hC 110 dX12_layOrder_106 (by decide) ?_
      refine ww_sub [0, 1, 2, 3, 4, 6] rfl ?_
      exact j110 _ hk44 _ hk78 _ _ _ _ _ _ _ _ h
  have j78 : ∀ (k44 : Int32 → Int32 → Int32 → Int32 → XD → Option (Int32 × XD)) (hk44 : ∀ (x2 : Int32) (x3 : Int32) (x4 : Int32) (x5 : Int32) (X : XD), k44 x2 x3 x4 x5 X = some (r, X1) → WW p l e (rmX 2 0 0) s m args below meth c 8 (MQ below (XQ E w z Z X1 (some (.int r))) args s 0 0 (A0 E)) E w 0 0 z Z 44 [(0, .ref (w.1 0)), (2, .int x2), (3, .int x3), (4, .int x4), (5, .int x5)] [] X) (n : Nat), ∀ (x2 : Int32) (x3 : Int32) (x4 : Int32) (x5 : Int32) (x6 : Int32) (x7 : Int32) (X : XD), fX12_layOrder_78 k44 n x2 x3 x4 x5 x6 x7 X = some (r, X1) → WW p l e (rmX 2 0 0) s m args below meth c 8 (MQ below (XQ E w z Z X1 (some (.int r))) args s 0 0 (A0 E)) E w 0 0 z Z 78 [(0, .ref (w.1 0)), (2, .int x2), (3, .int x3), (4, .int x4), (5, .int x5), (6, .int x6), (7, .int x7)] [] X := by
    intro k44 hk44
    intro n
    induction n with
    | zero =>
      intro x2 x3 x4 x5 x6 x7 X h
      cases (show none = some (r, X1) from h)
    | succ n ih =>
      intro x2 x3 x4 x5 x6 x7 X h
      rw [fX12_layOrder_78_s] at h
      refine ww_aload_n (pc := 78) hC dX12_layOrder_78 0 rfl ?_
      refine ww_iload_n (pc := 79) hC dX12_layOrder_79 2 rfl ?_
      refine ww_iload (pc := 80) hC dX12_layOrder_80 6 rfl ?_
      obtain ⟨r11, h10, h⟩ := bnd_i h
      refine ww_callVi (pc := 82) hC [.int x3, .int x7] hL.1.1 hL.1.2 (by decide) (ceX12_has hL h10) ql_X12_336 qi_X12_has qs_X12_X12_has qn_X12 qc_X12_has rfl ⟨by decide, by decide, rfl⟩ rfl ⟨Nat.le_of_ble_eq_true rfl, Nat.le_of_ble_eq_true rfl⟩ (by decide) (rest := []) (Nat.le_of_ble_eq_true rfl) dX12_layOrder_82 ⟨Nat.le_of_ble_eq_true rfl, Nat.le_of_ble_eq_true rfl⟩ rfl ?_
      refine ww_if_eq (pc := 85) hC h 93 dX12_layOrder_85 (by decide) (fun h => ?_) (fun h => ?_)
      · refine ww_sub [0, 1, 2, 3, 4, 5, 6] rfl ?_
        exact j93 _ hk44 _ ih _ _ _ _ _ _ _ h
      · refine ww_iload (pc := 88) hC dX12_layOrder_88 5 rfl ?_
        refine ww_if_le (pc := 90) hC h 119 dX12_layOrder_90 (by decide) (fun h => ?_) (fun h => ?_)
        · refine ww_aload_n (pc := 119) hC dX12_layOrder_119 0 rfl ?_
          refine ww_getR (pc := 120) hC 12 34 21 hL.1 RX12 (by decide) (by decide) rfl (lay_12_34 hL).1 qf_X12_114 rfl dX12_layOrder_120 ?_
          refine ww_iload (pc := 123) hC dX12_layOrder_123 4 rfl ?_
          refine ww_iload (pc := 125) hC dX12_layOrder_125 6 rfl ?_
          refine ww_iast (pc := 127) hC ((lay_12_34 hL).2) h dX12_layOrder_127 (fun h => ?_)
          obtain ⟨X_12, eX_12⟩ : ∃ q, q = wI X 21 (x5).toNatClampNeg x7 := ⟨_, rfl⟩
          replace h := nm_i h eX_12
          refine ww_nmX eX_12 ?_
          refine ww_iload_n (pc := 128) hC dX12_layOrder_128 2 rfl ?_
          refine ww_iconst (pc := 129) hC (v := (1 : Int32)) dX12_layOrder_129 (by decide) ?_
          refine ww_iload (pc := 130) hC dX12_layOrder_130 6 rfl ?_
          refine ww_ishl (pc := 132) hC dX12_layOrder_132 ?_
          refine ww_iconst (pc := 133) hC (v := (-1 : Int32)) dX12_layOrder_133 (by decide) ?_
          refine ww_ixor (pc := 134) hC dX12_layOrder_134 ?_
          refine ww_iand (pc := 135) hC dX12_layOrder_135 ?_
          obtain ⟨y13, ey13⟩ : ∃ q, q = x3 &&& ((((1 : Int32)) <<< (x7 &&& 31)) ^^^ ((-1 : Int32))) := ⟨_, rfl⟩
          replace h := nm_i h ey13
          refine ww_nmi ey13 ?_
          refine ww_istore_n (pc := 136) hC [(3, .int y13), (0, .ref (w.1 0)), (2, .int x2), (4, .int x4), (5, .int x5), (6, .int x6), (7, .int x7)] dX12_layOrder_136 rfl (by decide) rfl ?_
          obtain ⟨y14, ey14⟩ : ∃ q, q = x5 + (1 : Int32) := ⟨_, rfl⟩
          replace h := nm_i h ey14
          refine ww_iinc (pc := 137) hC y14 [(5, .int y14), (3, .int y13), (0, .ref (w.1 0)), (2, .int x2), (4, .int x4), (6, .int x6), (7, .int x7)] dX12_layOrder_137 4 rfl (by rw [ey14]; rfl) (by decide) rfl ?_
          refine ww_goto (pc := 140) hC 44 dX12_layOrder_140 (by decide) ?_
          refine ww_sub [2, 3, 1, 4, 0] rfl ?_
          exact hk44 _ _ _ _ _ h
        · refine ww_sub [0, 1, 2, 3, 4, 5, 6] rfl ?_
          exact j93 _ hk44 _ ih _ _ _ _ _ _ _ h
  have j44 : ∀ (n : Nat), ∀ (x2 : Int32) (x3 : Int32) (x4 : Int32) (x5 : Int32) (X : XD), fX12_layOrder_44 n x2 x3 x4 x5 X = some (r, X1) → WW p l e (rmX 2 0 0) s m args below meth c 8 (MQ below (XQ E w z Z X1 (some (.int r))) args s 0 0 (A0 E)) E w 0 0 z Z 44 [(0, .ref (w.1 0)), (2, .int x2), (3, .int x3), (4, .int x4), (5, .int x5)] [] X := by
    intro n
    induction n with
    | zero =>
      intro x2 x3 x4 x5 X h
      cases (show none = some (r, X1) from h)
    | succ n ih =>
      intro x2 x3 x4 x5 X h
      rw [fX12_layOrder_44_s] at h
      refine ww_iload (pc := 44) hC dX12_layOrder_44 4 rfl ?_
      refine ww_aload_n (pc := 46) hC dX12_layOrder_46 0 rfl ?_
      refine ww_getI (pc := 47) hC 12 32 hL.1 RX12 (by decide) (by decide) rfl qf_X12_108 (Or.inl rfl) dX12_layOrder_47 ?_
      refine ww_icmp_ge (pc := 50) hC h 143 dX12_layOrder_50 (by decide) (fun h => ?_) (fun h => ?_)
      · refine ww_iconst (pc := 143) hC (v := (1 : Int32)) dX12_layOrder_143 (by decide) ?_
        exact ww_zret (pc := 144) hC hr rfl h dX12_layOrder_144
      · refine ww_iload_n (pc := 53) hC dX12_layOrder_53 1 rfl ?_
        refine ww_aload_n (pc := 54) hC dX12_layOrder_54 0 rfl ?_
        refine ww_getI (pc := 55) hC 12 32 hL.1 RX12 (by decide) (by decide) rfl qf_X12_108 (Or.inl rfl) dX12_layOrder_55 ?_
        refine ww_iload (pc := 58) hC dX12_layOrder_58 4 rfl ?_
        refine ww_isub (pc := 60) hC dX12_layOrder_60 ?_
        obtain ⟨hz4, h⟩ := gnz_i h
        refine ww_idiv (pc := 61) hC dX12_layOrder_61 hz4 ?_
        obtain ⟨y5, ey5⟩ : ∃ q, q = x2 / ((X.1 0 32) - x5) := ⟨_, rfl⟩
        replace h := nm_i h ey5
        refine ww_nmi ey5 ?_
        refine ww_istore_n (pc := 62) hC [(2, .int y5), (0, .ref (w.1 0)), (3, .int x3), (4, .int x4), (5, .int x5)] dX12_layOrder_62 rfl (by decide) rfl ?_
        refine ww_iload (pc := 63) hC dX12_layOrder_63 3 rfl ?_
        refine ww_iload_n (pc := 65) hC dX12_layOrder_65 0 rfl ?_
        obtain ⟨hz6, h⟩ := gnz_i h
        refine ww_idiv (pc := 66) hC dX12_layOrder_66 hz6 ?_
        obtain ⟨y7, ey7⟩ : ∃ q, q = x4 / y5 := ⟨_, rfl⟩
        replace h := nm_i h ey7
        refine ww_nmi ey7 ?_
        refine ww_istore (pc := 67) hC [(6, .int y7), (2, .int y5), (0, .ref (w.1 0)), (3, .int x3), (4, .int x4), (5, .int x5)] dX12_layOrder_67  (by decide) rfl ?_
        refine ww_iload (pc := 69) hC dX12_layOrder_69 4 rfl ?_
        refine ww_iload_n (pc := 71) hC dX12_layOrder_71 1 rfl ?_
        obtain ⟨hz8, h⟩ := gnz_i h
        refine ww_irem (pc := 72) hC dX12_layOrder_72 hz8 ?_
        obtain ⟨y9, ey9⟩ : ∃ q, q = x4 - x4 / y5 * y5 := ⟨_, rfl⟩
        replace h := nm_i h ey9
        refine ww_nmi ey9 ?_
        refine ww_istore (pc := 73) hC [(4, .int y9), (6, .int y7), (2, .int y5), (0, .ref (w.1 0)), (3, .int x3), (5, .int x5)] dX12_layOrder_73  (by decide) rfl ?_
        refine ww_iconst (pc := 75) hC (v := (0 : Int32)) dX12_layOrder_75 (by decide) ?_
        refine ww_istore (pc := 76) hC [(7, .int ((0 : Int32))), (4, .int y9), (6, .int y7), (2, .int y5), (0, .ref (w.1 0)), (3, .int x3), (5, .int x5)] dX12_layOrder_76  (by decide) rfl ?_
        refine ww_sub [4, 3, 5, 1, 6, 2, 0] rfl ?_
        exact j78 _ ih _ _ _ _ _ _ _ _ h
  have j4 : ∀ (n : Nat), ∀ (x1 : Int32) (x2 : Int32) (x3 : Int32) (X : XD), fX12_layOrder_4 n x1 x2 x3 X = some (r, X1) → WW p l e (rmX 2 0 0) s m args below meth c 8 (MQ below (XQ E w z Z X1 (some (.int r))) args s 0 0 (A0 E)) E w 0 0 z Z 4 [(0, .ref (w.1 0)), (1, .int x1), (2, .int x2), (3, .int x3)] [] X := by
    intro n
    induction n with
    | zero =>
      intro x1 x2 x3 X h
      cases (show none = some (r, X1) from h)
    | succ n ih =>
      intro x1 x2 x3 X h
      rw [fX12_layOrder_4_s] at h
      refine ww_iload_n (pc := 4) hC dX12_layOrder_4 3 rfl ?_
      refine ww_aload_n (pc := 5) hC dX12_layOrder_5 0 rfl ?_
      refine ww_getI (pc := 6) hC 12 32 hL.1 RX12 (by decide) (by decide) rfl qf_X12_108 (Or.inl rfl) dX12_layOrder_6 ?_
      refine ww_icmp_gt (pc := 9) hC h 22 dX12_layOrder_9 (by decide) (fun h => ?_) (fun h => ?_)
      · refine ww_iload_n (pc := 22) hC dX12_layOrder_22 1 rfl ?_
        refine ww_iload_n (pc := 23) hC dX12_layOrder_23 2 rfl ?_
        refine ww_icmp_lt (pc := 24) hC h 29 dX12_layOrder_24 (by decide) (fun h => ?_) (fun h => ?_)
        · refine ww_iconst (pc := 29) hC (v := (1 : Int32)) dX12_layOrder_29 (by decide) ?_
          refine ww_aload_n (pc := 30) hC dX12_layOrder_30 0 rfl ?_
          refine ww_getI (pc := 31) hC 12 32 hL.1 RX12 (by decide) (by decide) rfl qf_X12_108 (Or.inl rfl) dX12_layOrder_31 ?_
          refine ww_ishl (pc := 34) hC dX12_layOrder_34 ?_
          refine ww_iconst (pc := 35) hC (v := (1 : Int32)) dX12_layOrder_35 (by decide) ?_
          refine ww_isub (pc := 36) hC dX12_layOrder_36 ?_
          obtain ⟨y1, ey1⟩ : ∃ q, q = (((1 : Int32)) <<< ((X.1 0 32) &&& 31)) - ((1 : Int32)) := ⟨_, rfl⟩
          replace h := nm_i h ey1
          refine ww_nmi ey1 ?_
          refine ww_istore_n (pc := 37) hC [(3, .int y1), (0, .ref (w.1 0)), (1, .int x1), (2, .int x2)] dX12_layOrder_37 rfl (by decide) rfl ?_
          refine ww_iload_n (pc := 38) hC dX12_layOrder_38 2 rfl ?_
          refine ww_istore (pc := 39) hC [(4, .int x1), (3, .int y1), (0, .ref (w.1 0)), (1, .int x1), (2, .int x2)] dX12_layOrder_39  (by decide) rfl ?_
          refine ww_iconst (pc := 41) hC (v := (0 : Int32)) dX12_layOrder_41 (by decide) ?_
          refine ww_istore (pc := 42) hC [(5, .int ((0 : Int32))), (4, .int x1), (3, .int y1), (0, .ref (w.1 0)), (1, .int x1), (2, .int x2)] dX12_layOrder_42  (by decide) rfl ?_
          refine ww_sub [3, 5, 2, 1, 0] rfl ?_
          exact j44 _ _ _ _ _ _ h
        · refine ww_iconst (pc := 27) hC (v := (0 : Int32)) dX12_layOrder_27 (by decide) ?_
          exact ww_zret (pc := 28) hC hr rfl h dX12_layOrder_28
      · refine ww_iload_n (pc := 12) hC dX12_layOrder_12 2 rfl ?_
        refine ww_iload_n (pc := 13) hC dX12_layOrder_13 3 rfl ?_
        refine ww_imul (pc := 14) hC dX12_layOrder_14 ?_
        obtain ⟨y2, ey2⟩ : ∃ q, q = x2 * x3 := ⟨_, rfl⟩
        replace h := nm_i h ey2
        refine ww_nmi ey2 ?_
        refine ww_istore_n (pc := 15) hC [(2, .int y2), (0, .ref (w.1 0)), (1, .int x1), (3, .int x3)] dX12_layOrder_15 rfl (by decide) rfl ?_
        obtain ⟨y3, ey3⟩ : ∃ q, q = x3 + (1 : Int32) := ⟨_, rfl⟩
        replace h := nm_i h ey3
        refine ww_iinc (pc := 16) hC y3 [(3, .int y3), (2, .int y2), (0, .ref (w.1 0)), (1, .int x1)] dX12_layOrder_16 3 rfl (by rw [ey3]; rfl) (by decide) rfl ?_
        refine ww_goto (pc := 19) hC 4 dX12_layOrder_19 (by decide) ?_
        refine ww_sub [2, 3, 1, 0] rfl ?_
        exact ih _ _ _ _ h
  unfold fX12_layOrder at h
  refine ww_lv (lv' := [(0, .ref (w.1 0)), (1, .int x1)]) rfl ?_
  refine ww_iconst (pc := 0) hC (v := (1 : Int32)) dX12_layOrder_0 (by decide) ?_
  refine ww_istore_n (pc := 1) hC [(2, .int ((1 : Int32))), (0, .ref (w.1 0)), (1, .int x1)] dX12_layOrder_1 rfl (by decide) rfl ?_
  refine ww_iconst (pc := 2) hC (v := (2 : Int32)) dX12_layOrder_2 (by decide) ?_
  refine ww_istore_n (pc := 3) hC [(3, .int ((2 : Int32))), (2, .int ((1 : Int32))), (0, .ref (w.1 0)), (1, .int x1)] dX12_layOrder_3 rfl (by decide) rfl ?_
  refine ww_sub [2, 3, 1, 0] rfl ?_
  exact j4 _ _ _ _ _ h
noncomputable def fX12_order_82 (k30 : Int32 → Int64 → Int32 → XD → Option (Int32 × XD)) (k49 : Int32 → Int64 → Int32 → Int64 → Int32 → XD → Option (Int32 × XD)) (x1 : Int32) (x2 : Int64) (x4 : Int32) (x7 : Int32) (s0 : Int64) (s1 : Int64) (X : XD) : Option (Int32 × XD) := nm (s1 + s0) (fun y12 => nm (x7 + (1 : Int32)) (fun y13 => k49 x1 x2 x4 y12 y13 X))
noncomputable def fX12_order_133 (k30 : Int32 → Int64 → Int32 → XD → Option (Int32 × XD)) (x1 : Int32) (x2 : Int64) (x4 : Int32) (X : XD) : Option (Int32 × XD) := nm (x4 + (1 : Int32)) (fun y11 => k30 x1 x2 y11 X)
noncomputable def fX12_order_107 (k30 : Int32 → Int64 → Int32 → XD → Option (Int32 × XD)) (n : Nat) : Int32 → Int64 → Int32 → Int32 → XD → Option (Int32 × XD) := Nat.rec (motive := fun _ => Int32 → Int64 → Int32 → Int32 → XD → Option (Int32 × XD)) (fun _ _ _ _ _ => none) (fun _ f => fun x1 x2 x4 x7 X => if ((4 : Int32)) ≤ x7 then fX12_order_133 k30 x1 x2 x4 X else gin x7 4 (gin x7 4 (nm (wI X 22 (x7).toNatClampNeg (X.1 21 (x7).toNatClampNeg)) (fun X_9 => nm (x7 + (1 : Int32)) (fun y10 => f x1 x2 x4 y10 X_9))))) n
theorem fX12_order_107_s (k30 : Int32 → Int64 → Int32 → XD → Option (Int32 × XD)) (n : Nat) (x1 : Int32) (x2 : Int64) (x4 : Int32) (x7 : Int32) (X : XD) : fX12_order_107 k30 (n + 1) x1 x2 x4 x7 X = if ((4 : Int32)) ≤ x7 then fX12_order_133 k30 x1 x2 x4 X else gin x7 4 (gin x7 4 (nm (wI X 22 (x7).toNatClampNeg (X.1 21 (x7).toNatClampNeg)) (fun X_9 => nm (x7 + (1 : Int32)) (fun y10 => (fX12_order_107 k30 n) x1 x2 x4 y10 X_9)))) := rfl
noncomputable def fX12_order_49 (k30 : Int32 → Int64 → Int32 → XD → Option (Int32 × XD)) (n : Nat) : Int32 → Int64 → Int32 → Int64 → Int32 → XD → Option (Int32 × XD) := Nat.rec (motive := fun _ => Int32 → Int64 → Int32 → Int64 → Int32 → XD → Option (Int32 × XD)) (fun _ _ _ _ _ _ => none) (fun _ f => fun x1 x2 x4 x5 x7 X => if (X.1 0 32) < x7 then if 0 < (lg_cmp x5 x2) then fX12_order_107 k30 FU x1 x5 x4 ((0 : Int32)) X else fX12_order_133 k30 x1 x2 x4 X else if (((2 : Int32)) * x7) ≤ (X.1 0 32) then fX12_order_82 k30 (f) x1 x2 x4 x7 ((0 : Int64)) x5 X else gin x7 5 (fX12_order_82 k30 (f) x1 x2 x4 x7 (X.2 23 (x7).toNatClampNeg) x5 X)) n
theorem fX12_order_49_s (k30 : Int32 → Int64 → Int32 → XD → Option (Int32 × XD)) (n : Nat) (x1 : Int32) (x2 : Int64) (x4 : Int32) (x5 : Int64) (x7 : Int32) (X : XD) : fX12_order_49 k30 (n + 1) x1 x2 x4 x5 x7 X = if (X.1 0 32) < x7 then if 0 < (lg_cmp x5 x2) then fX12_order_107 k30 FU x1 x5 x4 ((0 : Int32)) X else fX12_order_133 k30 x1 x2 x4 X else if (((2 : Int32)) * x7) ≤ (X.1 0 32) then fX12_order_82 k30 ((fX12_order_49 k30 n)) x1 x2 x4 x7 ((0 : Int64)) x5 X else gin x7 5 (fX12_order_82 k30 ((fX12_order_49 k30 n)) x1 x2 x4 x7 (X.2 23 (x7).toNatClampNeg) x5 X) := rfl
noncomputable def fX12_order_30 (n : Nat) : Int32 → Int64 → Int32 → XD → Option (Int32 × XD) := Nat.rec (motive := fun _ => Int32 → Int64 → Int32 → XD → Option (Int32 × XD)) (fun _ _ _ _ => none) (fun _ f => fun x1 x2 x4 X => bnw (fX12_layOrder x4 X) (fun r4 X_5 => if r4 = 0 then gin x1 4 (some (X_5.1 22 (x1).toNatClampNeg, X_5)) else bnw (fX12_layParts X_5) (fun _ X_8 => fX12_order_49 (f) FU x1 x2 x4 ((0 : Int64)) ((0 : Int32)) X_8))) n
theorem fX12_order_30_s (n : Nat) (x1 : Int32) (x2 : Int64) (x4 : Int32) (X : XD) : fX12_order_30 (n + 1) x1 x2 x4 X = bnw (fX12_layOrder x4 X) (fun r4 X_5 => if r4 = 0 then gin x1 4 (some (X_5.1 22 (x1).toNatClampNeg, X_5)) else bnw (fX12_layParts X_5) (fun _ X_8 => fX12_order_49 ((fX12_order_30 n)) FU x1 x2 x4 ((0 : Int64)) ((0 : Int32)) X_8)) := rfl
noncomputable def fX12_order (x1 : Int32) (X : XD) : Option (Int32 × XD) := bnd (fX12_in x1 ((0 : Int32)) ((3 : Int32)) X) (fun r2 => if r2 = 0 then some ((-1 : Int32), X) else if x1 < (X.1 0 32) then fX12_order_30 FU x1 ((-1 : Int64)) ((0 : Int32)) X else some ((-5 : Int32), X))
set_option maxHeartbeats 40000000 in
set_option maxRecDepth 100000 in
theorem ceX12_order {l : Launch} {E : XE} {w : XW} {z : Nat} {Z : XS} (hL : LayM Z) {x1 : Int32} {X X1 : XD} {r : Int32} (h : fX12_order x1 X = some (r, X1)) : Ct l E w yX12_order (wsM yX12_order cX12_order 8 (some .int)) (rmX 9 0 0) 0 0 [.ref (w.1 0), .int x1] z z Z Z X X1 (some (.int r)) := by
  refine ct_of (by decide) (Nat.le_of_ble_eq_true rfl) ?_
  intro p e s m args below meth c hC hr hin hav
  have j82 : ∀ (k30 : Int32 → Int64 → Int32 → XD → Option (Int32 × XD)) (hk30 : ∀ (x1 : Int32) (x2 : Int64) (x4 : Int32) (X : XD), k30 x1 x2 x4 X = some (r, X1) → WW p l e (rmX 9 0 0) s m args below meth c 8 (MQ below (XQ E w z Z X1 (some (.int r))) args s 0 0 (A0 E)) E w 0 0 z Z 30 [(0, .ref (w.1 0)), (1, .int x1), (2, .long x2), (4, .int x4)] [] X) (k49 : Int32 → Int64 → Int32 → Int64 → Int32 → XD → Option (Int32 × XD)) (hk49 : ∀ (x1 : Int32) (x2 : Int64) (x4 : Int32) (x5 : Int64) (x7 : Int32) (X : XD), k49 x1 x2 x4 x5 x7 X = some (r, X1) → WW p l e (rmX 9 0 0) s m args below meth c 8 (MQ below (XQ E w z Z X1 (some (.int r))) args s 0 0 (A0 E)) E w 0 0 z Z 49 [(0, .ref (w.1 0)), (1, .int x1), (2, .long x2), (4, .int x4), (5, .long x5), (7, .int x7)] [] X), ∀ (x1 : Int32) (x2 : Int64) (x4 : Int32) (x7 : Int32) (s0 : Int64) (s1 : Int64) (X : XD), fX12_order_82 k30 k49 x1 x2 x4 x7 s0 s1 X = some (r, X1) → WW p l e (rmX 9 0 0) s m args below meth c 8 (MQ below (XQ E w z Z X1 (some (.int r))) args s 0 0 (A0 E)) E w 0 0 z Z 82 [(0, .ref (w.1 0)), (1, .int x1), (2, .long x2), (4, .int x4), (7, .int x7)] [.long s0, .long s1] X := by
    intro k30 hk30 k49 hk49 x1 x2 x4 x7 s0 s1 X h
    unfold fX12_order_82 at h
    refine ww_ladd (pc := 82) hC dX12_order_82 ?_
    obtain ⟨y12, ey12⟩ : ∃ q, q = s1 + s0 := ⟨_, rfl⟩
    replace h := nm_i h ey12
    refine ww_nml ey12 ?_
    refine ww_lstore (pc := 83) hC [(5, .long y12), (0, .ref (w.1 0)), (1, .int x1), (2, .long x2), (4, .int x4), (7, .int x7)] dX12_order_83  (by decide) rfl ?_
    obtain ⟨y13, ey13⟩ : ∃ q, q = x7 + (1 : Int32) := ⟨_, rfl⟩
    replace h := nm_i h ey13
    refine ww_iinc (pc := 85) hC y13 [(7, .int y13), (5, .long y12), (0, .ref (w.1 0)), (1, .int x1), (2, .long x2), (4, .int x4)] dX12_order_85 5 rfl (by rw [ey13]; rfl) (by decide) rfl ?_
    refine ww_goto (pc := 88) hC 49 dX12_order_88 (by decide) ?_
    refine ww_sub [2, 3, 4, 5, 1, 0] rfl ?_
    exact hk49 _ _ _ _ _ _ h
  have j133 : ∀ (k30 : Int32 → Int64 → Int32 → XD → Option (Int32 × XD)) (hk30 : ∀ (x1 : Int32) (x2 : Int64) (x4 : Int32) (X : XD), k30 x1 x2 x4 X = some (r, X1) → WW p l e (rmX 9 0 0) s m args below meth c 8 (MQ below (XQ E w z Z X1 (some (.int r))) args s 0 0 (A0 E)) E w 0 0 z Z 30 [(0, .ref (w.1 0)), (1, .int x1), (2, .long x2), (4, .int x4)] [] X), ∀ (x1 : Int32) (x2 : Int64) (x4 : Int32) (X : XD), fX12_order_133 k30 x1 x2 x4 X = some (r, X1) → WW p l e (rmX 9 0 0) s m args below meth c 8 (MQ below (XQ E w z Z X1 (some (.int r))) args s 0 0 (A0 E)) E w 0 0 z Z 133 [(0, .ref (w.1 0)), (1, .int x1), (2, .long x2), (4, .int x4)] [] X := by
    intro k30 hk30 x1 x2 x4 X h
    unfold fX12_order_133 at h
    obtain ⟨y11, ey11⟩ : ∃ q, q = x4 + (1 : Int32) := ⟨_, rfl⟩
    replace h := nm_i h ey11
    refine ww_iinc (pc := 133) hC y11 [(4, .int y11), (0, .ref (w.1 0)), (1, .int x1), (2, .long x2)] dX12_order_133 3 rfl (by rw [ey11]; rfl) (by decide) rfl ?_
    refine ww_goto (pc := 136) hC 30 dX12_order_136 (by decide) ?_
    refine ww_sub [1, 2, 3, 0] rfl ?_
    exact hk30 _ _ _ _ h
  have j107 : ∀ (k30 : Int32 → Int64 → Int32 → XD → Option (Int32 × XD)) (hk30 : ∀ (x1 : Int32) (x2 : Int64) (x4 : Int32) (X : XD), k30 x1 x2 x4 X = some (r, X1) → WW p l e (rmX 9 0 0) s m args below meth c 8 (MQ below (XQ E w z Z X1 (some (.int r))) args s 0 0 (A0 E)) E w 0 0 z Z 30 [(0, .ref (w.1 0)), (1, .int x1), (2, .long x2), (4, .int x4)] [] X) (n : Nat), ∀ (x1 : Int32) (x2 : Int64) (x4 : Int32) (x7 : Int32) (X : XD), fX12_order_107 k30 n x1 x2 x4 x7 X = some (r, X1) → WW p l e (rmX 9 0 0) s m args below meth c 8 (MQ below (XQ E w z Z X1 (some (.int r))) args s 0 0 (A0 E)) E w 0 0 z Z 107 [(0, .ref (w.1 0)), (1, .int x1), (2, .long x2), (4, .int x4), (7, .int x7)] [] X := by
    intro k30 hk30
    intro n
    induction n with
    | zero =>
      intro x1 x2 x4 x7 X h
      cases (show none = some (r, X1) from h)
    | succ n ih =>
      intro x1 x2 x4 x7 X h
      rw [fX12_order_107_s] at h
      refine ww_iload (pc := 107) hC dX12_order_107 4 rfl ?_
      refine ww_iconst (pc := 109) hC (v := (4 : Int32)) dX12_order_109 (by decide) ?_
      refine ww_icmp_ge (pc := 110) hC h 133 dX12_order_110 (by decide) (fun h => ?_) (fun h => ?_)
      · refine ww_sub [0, 1, 2, 3] rfl ?_
        exact j133 _ hk30 _ _ _ _ h
      · refine ww_aload_n (pc := 113) hC dX12_order_113 0 rfl ?_
        refine ww_getR (pc := 114) hC 12 35 22 hL.1 RX12 (by decide) (by decide) rfl (lay_12_35 hL).1 qf_X12_117 rfl dX12_order_114 ?_
        refine ww_iload (pc := 117) hC dX12_order_117 4 rfl ?_
        refine ww_aload_n (pc := 119) hC dX12_order_119 0 rfl ?_
        refine ww_getR (pc := 120) hC 12 34 21 hL.1 RX12 (by decide) (by decide) rfl (lay_12_34 hL).1 qf_X12_114 rfl dX12_order_120 ?_
        refine ww_iload (pc := 123) hC dX12_order_123 4 rfl ?_
        refine ww_iald (pc := 125) hC ((lay_12_34 hL).2) h dX12_order_125 (fun h => ?_)
        refine ww_iast (pc := 126) hC ((lay_12_35 hL).2) h dX12_order_126 (fun h => ?_)
        obtain ⟨X_9, eX_9⟩ : ∃ q, q = wI X 22 (x7).toNatClampNeg (X.1 21 (x7).toNatClampNeg) := ⟨_, rfl⟩
        replace h := nm_i h eX_9
        refine ww_nmX eX_9 ?_
        obtain ⟨y10, ey10⟩ : ∃ q, q = x7 + (1 : Int32) := ⟨_, rfl⟩
        replace h := nm_i h ey10
        refine ww_iinc (pc := 127) hC y10 [(7, .int y10), (0, .ref (w.1 0)), (1, .int x1), (2, .long x2), (4, .int x4)] dX12_order_127 4 rfl (by rw [ey10]; rfl) (by decide) rfl ?_
        refine ww_goto (pc := 130) hC 107 dX12_order_130 (by decide) ?_
        refine ww_sub [1, 2, 3, 4, 0] rfl ?_
        exact ih _ _ _ _ _ h
  have j49 : ∀ (k30 : Int32 → Int64 → Int32 → XD → Option (Int32 × XD)) (hk30 : ∀ (x1 : Int32) (x2 : Int64) (x4 : Int32) (X : XD), k30 x1 x2 x4 X = some (r, X1) → WW p l e (rmX 9 0 0) s m args below meth c 8 (MQ below (XQ E w z Z X1 (some (.int r))) args s 0 0 (A0 E)) E w 0 0 z Z 30 [(0, .ref (w.1 0)), (1, .int x1), (2, .long x2), (4, .int x4)] [] X) (n : Nat), ∀ (x1 : Int32) (x2 : Int64) (x4 : Int32) (x5 : Int64) (x7 : Int32) (X : XD), fX12_order_49 k30 n x1 x2 x4 x5 x7 X = some (r, X1) → WW p l e (rmX 9 0 0) s m args below meth c 8 (MQ below (XQ E w z Z X1 (some (.int r))) args s 0 0 (A0 E)) E w 0 0 z Z 49 [(0, .ref (w.1 0)), (1, .int x1), (2, .long x2), (4, .int x4), (5, .long x5), (7, .int x7)] [] X := by
    intro k30 hk30
    intro n
    induction n with
    | zero =>
      intro x1 x2 x4 x5 x7 X h
      cases (show none = some (r, X1) from h)
    | succ n ih =>
      intro x1 x2 x4 x5 x7 X h
      rw [fX12_order_49_s] at h
      refine ww_iload (pc := 49) hC dX12_order_49 5 rfl ?_
      refine ww_aload_n (pc := 51) hC dX12_order_51 0 rfl ?_
      refine ww_getI (pc := 52) hC 12 32 hL.1 RX12 (by decide) (by decide) rfl qf_X12_108 (Or.inl rfl) dX12_order_52 ?_
      refine ww_icmp_gt (pc := 55) hC h 91 dX12_order_55 (by decide) (fun h => ?_) (fun h => ?_)
      · refine ww_lload (pc := 91) hC dX12_order_91 4 rfl ?_
        refine ww_lload_n (pc := 93) hC dX12_order_93 2 rfl ?_
        refine ww_lcmp (pc := 94) hC dX12_order_94 ?_
        refine ww_if_gt (pc := 95) hC h 101 dX12_order_95 (by decide) (fun h => ?_) (fun h => ?_)
        · refine ww_lload (pc := 101) hC dX12_order_101 4 rfl ?_
          refine ww_lstore_n (pc := 103) hC [(2, .long x5), (0, .ref (w.1 0)), (1, .int x1), (4, .int x4), (5, .long x5), (7, .int x7)] dX12_order_103 rfl (by decide) rfl ?_
          refine ww_iconst (pc := 104) hC (v := (0 : Int32)) dX12_order_104 (by decide) ?_
          refine ww_istore (pc := 105) hC [(7, .int ((0 : Int32))), (2, .long x5), (0, .ref (w.1 0)), (1, .int x1), (4, .int x4), (5, .long x5)] dX12_order_105  (by decide) rfl ?_
          refine ww_sub [2, 3, 1, 4, 0] rfl ?_
          exact j107 _ hk30 _ _ _ _ _ _ h
        · refine ww_goto (pc := 98) hC 133 dX12_order_98 (by decide) ?_
          refine ww_sub [0, 1, 2, 3] rfl ?_
          exact j133 _ hk30 _ _ _ _ h
      · refine ww_lload (pc := 58) hC dX12_order_58 4 rfl ?_
        refine ww_iconst (pc := 60) hC (v := (2 : Int32)) dX12_order_60 (by decide) ?_
        refine ww_iload (pc := 61) hC dX12_order_61 5 rfl ?_
        refine ww_imul (pc := 63) hC dX12_order_63 ?_
        refine ww_aload_n (pc := 64) hC dX12_order_64 0 rfl ?_
        refine ww_getI (pc := 65) hC 12 32 hL.1 RX12 (by decide) (by decide) rfl qf_X12_108 (Or.inl rfl) dX12_order_65 ?_
        refine ww_icmp_le (pc := 68) hC h 81 dX12_order_68 (by decide) (fun h => ?_) (fun h => ?_)
        · refine ww_lconst (pc := 81) hC (v := (0 : Int64)) dX12_order_81 (by decide) ?_
          refine ww_sub [0, 1, 2, 3, 5] rfl ?_
          exact j82 _ hk30 _ ih _ _ _ _ _ _ _ h
        · refine ww_aload_n (pc := 71) hC dX12_order_71 0 rfl ?_
          refine ww_getR (pc := 72) hC 12 36 23 hL.1 RX12 (by decide) (by decide) rfl (lay_12_36 hL).1 qf_X12_120 rfl dX12_order_72 ?_
          refine ww_iload (pc := 75) hC dX12_order_75 5 rfl ?_
          refine ww_lald (pc := 77) hC ((lay_12_36 hL).2) h dX12_order_77 (fun h => ?_)
          refine ww_goto (pc := 78) hC 82 dX12_order_78 (by decide) ?_
          refine ww_sub [0, 1, 2, 3, 5] rfl ?_
          exact j82 _ hk30 _ ih _ _ _ _ _ _ _ h
  have j30 : ∀ (n : Nat), ∀ (x1 : Int32) (x2 : Int64) (x4 : Int32) (X : XD), fX12_order_30 n x1 x2 x4 X = some (r, X1) → WW p l e (rmX 9 0 0) s m args below meth c 8 (MQ below (XQ E w z Z X1 (some (.int r))) args s 0 0 (A0 E)) E w 0 0 z Z 30 [(0, .ref (w.1 0)), (1, .int x1), (2, .long x2), (4, .int x4)] [] X := by
    intro n
    induction n with
    | zero =>
      intro x1 x2 x4 X h
      cases (show none = some (r, X1) from h)
    | succ n ih =>
      intro x1 x2 x4 X h
      rw [fX12_order_30_s] at h
      refine ww_aload_n (pc := 30) hC dX12_order_30 0 rfl ?_
      refine ww_iload (pc := 31) hC dX12_order_31 3 rfl ?_
      obtain ⟨r4, X_5, h3, h⟩ := bnw_i h
      refine ww_callVi (pc := 33) hC [.int x4] hL.1.1 hL.1.2 (by decide) (ceX12_layOrder hL h3) ql_X12_366 qi_X12_layOrder qs_X12_X12_layOrder qn_X12 qc_X12_layOrder rfl ⟨by decide, by decide, rfl⟩ rfl ⟨Nat.le_of_ble_eq_true rfl, Nat.le_of_ble_eq_true rfl⟩ (by decide) (rest := []) (Nat.le_of_ble_eq_true rfl) dX12_order_33 ⟨Nat.le_of_ble_eq_true rfl, Nat.le_of_ble_eq_true rfl⟩ rfl ?_
      refine ww_if_eq (pc := 36) hC h 139 dX12_order_36 (by decide) (fun h => ?_) (fun h => ?_)
      · refine ww_aload_n (pc := 139) hC dX12_order_139 0 rfl ?_
        refine ww_getR (pc := 140) hC 12 35 22 hL.1 RX12 (by decide) (by decide) rfl (lay_12_35 hL).1 qf_X12_117 rfl dX12_order_140 ?_
        refine ww_iload_n (pc := 143) hC dX12_order_143 1 rfl ?_
        refine ww_iald (pc := 144) hC ((lay_12_35 hL).2) h dX12_order_144 (fun h => ?_)
        exact ww_iret (pc := 145) hC hr h dX12_order_145
      · refine ww_aload_n (pc := 39) hC dX12_order_39 0 rfl ?_
        obtain ⟨_, X_8, h6, h⟩ := bnw_i h
        refine ww_callVv (pc := 40) hC [] hL.1.1 hL.1.2 (by decide) (ceX12_layParts hL h6) ql_X12_342 qi_X12_layParts qs_X12_X12_layParts qn_X12 qc_X12_layParts rfl ⟨by decide, by decide, rfl⟩ rfl ⟨Nat.le_of_ble_eq_true rfl, Nat.le_of_ble_eq_true rfl⟩ (by decide) (rest := []) (Nat.le_of_ble_eq_true rfl) dX12_order_40 ⟨Nat.le_of_ble_eq_true rfl, Nat.le_of_ble_eq_true rfl⟩ rfl ?_
        refine ww_lconst (pc := 43) hC (v := (0 : Int64)) dX12_order_43 (by decide) ?_
        refine ww_lstore (pc := 44) hC [(5, .long ((0 : Int64))), (0, .ref (w.1 0)), (1, .int x1), (2, .long x2), (4, .int x4)] dX12_order_44  (by decide) rfl ?_
        refine ww_iconst (pc := 46) hC (v := (0 : Int32)) dX12_order_46 (by decide) ?_
        refine ww_istore (pc := 47) hC [(7, .int ((0 : Int32))), (5, .long ((0 : Int64))), (0, .ref (w.1 0)), (1, .int x1), (2, .long x2), (4, .int x4)] dX12_order_47  (by decide) rfl ?_
        refine ww_sub [2, 3, 4, 5, 1, 0] rfl ?_
        exact j49 _ ih _ _ _ _ _ _ _ h
  unfold fX12_order at h
  refine ww_lv (lv' := [(0, .ref (w.1 0)), (1, .int x1)]) rfl ?_
  refine ww_aload_n (pc := 0) hC dX12_order_0 0 rfl ?_
  refine ww_iload_n (pc := 1) hC dX12_order_1 1 rfl ?_
  refine ww_iconst (pc := 2) hC (v := (0 : Int32)) dX12_order_2 (by decide) ?_
  refine ww_iconst (pc := 3) hC (v := (3 : Int32)) dX12_order_3 (by decide) ?_
  obtain ⟨r2, h1, h⟩ := bnd_i h
  refine ww_callVi (pc := 4) hC [.int x1, .int ((0 : Int32)), .int ((3 : Int32))] hL.1.1 hL.1.2 (by decide) (ceX12_in hL h1) ql_X12_215 qi_X12_in qs_X12_X12_in qn_X12 qc_X12_in rfl ⟨by decide, by decide, rfl⟩ rfl ⟨Nat.le_of_ble_eq_true rfl, Nat.le_of_ble_eq_true rfl⟩ (by decide) (rest := []) (Nat.le_of_ble_eq_true rfl) dX12_order_4 ⟨Nat.le_of_ble_eq_true rfl, Nat.le_of_ble_eq_true rfl⟩ rfl ?_
  refine ww_if_ne (pc := 7) hC h 12 dX12_order_7 (by decide) (fun h => ?_) (fun h => ?_)
  · refine ww_iload_n (pc := 12) hC dX12_order_12 1 rfl ?_
    refine ww_aload_n (pc := 13) hC dX12_order_13 0 rfl ?_
    refine ww_getI (pc := 14) hC 12 32 hL.1 RX12 (by decide) (by decide) rfl qf_X12_108 (Or.inl rfl) dX12_order_14 ?_
    refine ww_icmp_lt (pc := 17) hC h 23 dX12_order_17 (by decide) (fun h => ?_) (fun h => ?_)
    · refine ww_ldc2 (pc := 23) hC (v := (-1 : Int64)) dX12_order_23 qg_X12_364 ?_
      refine ww_lstore_n (pc := 26) hC [(2, .long ((-1 : Int64))), (0, .ref (w.1 0)), (1, .int x1)] dX12_order_26 rfl (by decide) rfl ?_
      refine ww_iconst (pc := 27) hC (v := (0 : Int32)) dX12_order_27 (by decide) ?_
      refine ww_istore (pc := 28) hC [(4, .int ((0 : Int32))), (2, .long ((-1 : Int64))), (0, .ref (w.1 0)), (1, .int x1)] dX12_order_28  (by decide) rfl ?_
      refine ww_sub [2, 3, 1, 0] rfl ?_
      exact j30 _ _ _ _ _ h
    · refine ww_bipush (pc := 20) hC (v := (-5 : Int32)) dX12_order_20 (by decide) ?_
      exact ww_iret (pc := 22) hC hr h dX12_order_22
  · refine ww_iconst (pc := 10) hC (v := (-1 : Int32)) dX12_order_10 (by decide) ?_
    exact ww_iret (pc := 11) hC hr h dX12_order_11
noncomputable def fX12_layOthers_21 (k2 : Int32 → Int32 → XD → Option (Unit × XD)) (x1 : Int32) (x2 : Int32) (s0 : Int64) (s1 : Int32) (X : XD) : Option (Unit × XD) := gin s1 5 (nm (wJ X 24 (s1).toNatClampNeg s0) (fun X_1 => nm (x2 + (1 : Int32)) (fun y2 => k2 x1 y2 X_1)))
noncomputable def fX12_layOthers_80 (k30 : Int32 → Int32 → XD → Option (Unit × XD)) (k40 : Int32 → Int32 → Int32 → XD → Option (Unit × XD)) (x1 : Int32) (x2 : Int32) (x3 : Int32) (s0 : Int64) (s1 : Int64) (s2 : Int32) (X : XD) : Option (Unit × XD) := gin s2 5 (nm (wJ X 24 (s2).toNatClampNeg (s1 + s0)) (fun X_4 => nm (x3 + (-1 : Int32)) (fun y5 => k40 x1 x2 y5 X_4)))
noncomputable def fX12_layOthers_40 (k30 : Int32 → Int32 → XD → Option (Unit × XD)) (n : Nat) : Int32 → Int32 → Int32 → XD → Option (Unit × XD) := Nat.rec (motive := fun _ => Int32 → Int32 → Int32 → XD → Option (Unit × XD)) (fun _ _ _ _ => none) (fun _ f => fun x1 x2 x3 X => if x3 < 0 then nm (x2 + (1 : Int32)) (fun y3 => k30 x1 y3 X) else gin x3 5 (if x3 = 0 then fX12_layOthers_80 k30 (f) x1 x2 x3 ((0 : Int64)) ((X.2 24 (x3).toNatClampNeg) * ((((100 : Int32)) - x1).toInt64)) x3 X else gin (x3 - ((1 : Int32))) 5 (fX12_layOthers_80 k30 (f) x1 x2 x3 ((X.2 24 (x3 - ((1 : Int32))).toNatClampNeg) * x1.toInt64) ((X.2 24 (x3).toNatClampNeg) * ((((100 : Int32)) - x1).toInt64)) x3 X))) n
theorem fX12_layOthers_40_s (k30 : Int32 → Int32 → XD → Option (Unit × XD)) (n : Nat) (x1 : Int32) (x2 : Int32) (x3 : Int32) (X : XD) : fX12_layOthers_40 k30 (n + 1) x1 x2 x3 X = if x3 < 0 then nm (x2 + (1 : Int32)) (fun y3 => k30 x1 y3 X) else gin x3 5 (if x3 = 0 then fX12_layOthers_80 k30 ((fX12_layOthers_40 k30 n)) x1 x2 x3 ((0 : Int64)) ((X.2 24 (x3).toNatClampNeg) * ((((100 : Int32)) - x1).toInt64)) x3 X else gin (x3 - ((1 : Int32))) 5 (fX12_layOthers_80 k30 ((fX12_layOthers_40 k30 n)) x1 x2 x3 ((X.2 24 (x3 - ((1 : Int32))).toNatClampNeg) * x1.toInt64) ((X.2 24 (x3).toNatClampNeg) * ((((100 : Int32)) - x1).toInt64)) x3 X)) := rfl
noncomputable def fX12_layOthers_30 (n : Nat) : Int32 → Int32 → XD → Option (Unit × XD) := Nat.rec (motive := fun _ => Int32 → Int32 → XD → Option (Unit × XD)) (fun _ _ _ => none) (fun _ f => fun x1 x2 X => if (X.1 0 32) ≤ x2 then some ((), X) else fX12_layOthers_40 (f) FU x1 x2 ((4 : Int32)) X) n
theorem fX12_layOthers_30_s (n : Nat) (x1 : Int32) (x2 : Int32) (X : XD) : fX12_layOthers_30 (n + 1) x1 x2 X = if (X.1 0 32) ≤ x2 then some ((), X) else fX12_layOthers_40 ((fX12_layOthers_30 n)) FU x1 x2 ((4 : Int32)) X := rfl
noncomputable def fX12_layOthers_2 (n : Nat) : Int32 → Int32 → XD → Option (Unit × XD) := Nat.rec (motive := fun _ => Int32 → Int32 → XD → Option (Unit × XD)) (fun _ _ _ => none) (fun _ f => fun x1 x2 X => if ((5 : Int32)) ≤ x2 then fX12_layOthers_30 FU x1 ((0 : Int32)) X else if x2 = 0 then fX12_layOthers_21 (f) x1 x2 ((1 : Int64)) x2 X else fX12_layOthers_21 (f) x1 x2 ((0 : Int64)) x2 X) n
theorem fX12_layOthers_2_s (n : Nat) (x1 : Int32) (x2 : Int32) (X : XD) : fX12_layOthers_2 (n + 1) x1 x2 X = if ((5 : Int32)) ≤ x2 then fX12_layOthers_30 FU x1 ((0 : Int32)) X else if x2 = 0 then fX12_layOthers_21 ((fX12_layOthers_2 n)) x1 x2 ((1 : Int64)) x2 X else fX12_layOthers_21 ((fX12_layOthers_2 n)) x1 x2 ((0 : Int64)) x2 X := rfl
noncomputable def fX12_layOthers (x1 : Int32) (X : XD) : Option (Unit × XD) := fX12_layOthers_2 FU x1 ((0 : Int32)) X
set_option maxHeartbeats 40000000 in
set_option maxRecDepth 100000 in
theorem ceX12_layOthers {l : Launch} {E : XE} {w : XW} {z : Nat} {Z : XS} (hL : LayM Z) {x1 : Int32} {X X1 : XD} {r : Unit} (h : fX12_layOthers x1 X = some (r, X1)) : Ct l E w yX12_layOthers (wsM yX12_layOthers cX12_layOthers 4 none) (rmX 1 0 0) 0 0 [.ref (w.1 0), .int x1] z z Z Z X X1 none := by
  refine ct_of (by decide) (Nat.le_of_ble_eq_true rfl) ?_
  intro p e s m args below meth c hC hr hin hav
  have j21 : ∀ (k2 : Int32 → Int32 → XD → Option (Unit × XD)) (hk2 : ∀ (x1 : Int32) (x2 : Int32) (X : XD), k2 x1 x2 X = some (r, X1) → WW p l e (rmX 1 0 0) s m args below meth c 4 (MQ below (XQ E w z Z X1 none) args s 0 0 (A0 E)) E w 0 0 z Z 2 [(0, .ref (w.1 0)), (1, .int x1), (2, .int x2)] [] X), ∀ (x1 : Int32) (x2 : Int32) (s0 : Int64) (s1 : Int32) (X : XD), fX12_layOthers_21 k2 x1 x2 s0 s1 X = some (r, X1) → WW p l e (rmX 1 0 0) s m args below meth c 4 (MQ below (XQ E w z Z X1 none) args s 0 0 (A0 E)) E w 0 0 z Z 21 [(0, .ref (w.1 0)), (1, .int x1), (2, .int x2)] [.long s0, .int s1, .ref (w.1 24)] X := by
    intro k2 hk2 x1 x2 s0 s1 X h
    unfold fX12_layOthers_21 at h
    refine ww_last (pc := 21) hC ((lay_12_37 hL).2) h dX12_layOthers_21 (fun h => ?_)
    obtain ⟨X_1, eX_1⟩ : ∃ q, q = wJ X 24 (s1).toNatClampNeg s0 := ⟨_, rfl⟩
    replace h := nm_i h eX_1
    refine ww_nmX eX_1 ?_
    obtain ⟨y2, ey2⟩ : ∃ q, q = x2 + (1 : Int32) := ⟨_, rfl⟩
    replace h := nm_i h ey2
    refine ww_iinc (pc := 22) hC y2 [(2, .int y2), (0, .ref (w.1 0)), (1, .int x1)] dX12_layOthers_22 2 rfl (by rw [ey2]; rfl) (by decide) rfl ?_
    refine ww_goto (pc := 25) hC 2 dX12_layOthers_25 (by decide) ?_
    refine ww_sub [1, 2, 0] rfl ?_
    exact hk2 _ _ _ h
  have j80 : ∀ (k30 : Int32 → Int32 → XD → Option (Unit × XD)) (hk30 : ∀ (x1 : Int32) (x2 : Int32) (X : XD), k30 x1 x2 X = some (r, X1) → WW p l e (rmX 1 0 0) s m args below meth c 4 (MQ below (XQ E w z Z X1 none) args s 0 0 (A0 E)) E w 0 0 z Z 30 [(0, .ref (w.1 0)), (1, .int x1), (2, .int x2)] [] X) (k40 : Int32 → Int32 → Int32 → XD → Option (Unit × XD)) (hk40 : ∀ (x1 : Int32) (x2 : Int32) (x3 : Int32) (X : XD), k40 x1 x2 x3 X = some (r, X1) → WW p l e (rmX 1 0 0) s m args below meth c 4 (MQ below (XQ E w z Z X1 none) args s 0 0 (A0 E)) E w 0 0 z Z 40 [(0, .ref (w.1 0)), (1, .int x1), (2, .int x2), (3, .int x3)] [] X), ∀ (x1 : Int32) (x2 : Int32) (x3 : Int32) (s0 : Int64) (s1 : Int64) (s2 : Int32) (X : XD), fX12_layOthers_80 k30 k40 x1 x2 x3 s0 s1 s2 X = some (r, X1) → WW p l e (rmX 1 0 0) s m args below meth c 4 (MQ below (XQ E w z Z X1 none) args s 0 0 (A0 E)) E w 0 0 z Z 80 [(0, .ref (w.1 0)), (1, .int x1), (2, .int x2), (3, .int x3)] [.long s0, .long s1, .int s2, .ref (w.1 24)] X := by
    intro k30 hk30 k40 hk40 x1 x2 x3 s0 s1 s2 X h
    unfold fX12_layOthers_80 at h
    refine ww_ladd (pc := 80) hC dX12_layOthers_80 ?_
    refine ww_last (pc := 81) hC ((lay_12_37 hL).2) h dX12_layOthers_81 (fun h => ?_)
    obtain ⟨X_4, eX_4⟩ : ∃ q, q = wJ X 24 (s2).toNatClampNeg (s1 + s0) := ⟨_, rfl⟩
    replace h := nm_i h eX_4
    refine ww_nmX eX_4 ?_
    obtain ⟨y5, ey5⟩ : ∃ q, q = x3 + (-1 : Int32) := ⟨_, rfl⟩
    replace h := nm_i h ey5
    refine ww_iinc (pc := 82) hC y5 [(3, .int y5), (0, .ref (w.1 0)), (1, .int x1), (2, .int x2)] dX12_layOthers_82 3 rfl (by rw [ey5]; rfl) (by decide) rfl ?_
    refine ww_goto (pc := 85) hC 40 dX12_layOthers_85 (by decide) ?_
    refine ww_sub [1, 2, 3, 0] rfl ?_
    exact hk40 _ _ _ _ h
  have j40 : ∀ (k30 : Int32 → Int32 → XD → Option (Unit × XD)) (hk30 : ∀ (x1 : Int32) (x2 : Int32) (X : XD), k30 x1 x2 X = some (r, X1) → WW p l e (rmX 1 0 0) s m args below meth c 4 (MQ below (XQ E w z Z X1 none) args s 0 0 (A0 E)) E w 0 0 z Z 30 [(0, .ref (w.1 0)), (1, .int x1), (2, .int x2)] [] X) (n : Nat), ∀ (x1 : Int32) (x2 : Int32) (x3 : Int32) (X : XD), fX12_layOthers_40 k30 n x1 x2 x3 X = some (r, X1) → WW p l e (rmX 1 0 0) s m args below meth c 4 (MQ below (XQ E w z Z X1 none) args s 0 0 (A0 E)) E w 0 0 z Z 40 [(0, .ref (w.1 0)), (1, .int x1), (2, .int x2), (3, .int x3)] [] X := by
    intro k30 hk30
    intro n
    induction n with
    | zero =>
      intro x1 x2 x3 X h
      cases (show none = some (r, X1) from h)
    | succ n ih =>
      intro x1 x2 x3 X h
      rw [fX12_layOthers_40_s] at h
      refine ww_iload_n (pc := 40) hC dX12_layOthers_40 3 rfl ?_
      refine ww_if_lt (pc := 41) hC h 88 dX12_layOthers_41 (by decide) (fun h => ?_) (fun h => ?_)
      · obtain ⟨y3, ey3⟩ : ∃ q, q = x2 + (1 : Int32) := ⟨_, rfl⟩
        replace h := nm_i h ey3
        refine ww_iinc (pc := 88) hC y3 [(2, .int y3), (0, .ref (w.1 0)), (1, .int x1), (3, .int x3)] dX12_layOthers_88 2 rfl (by rw [ey3]; rfl) (by decide) rfl ?_
        refine ww_goto (pc := 91) hC 30 dX12_layOthers_91 (by decide) ?_
        refine ww_sub [1, 2, 0] rfl ?_
        exact hk30 _ _ _ h
      · refine ww_aload_n (pc := 44) hC dX12_layOthers_44 0 rfl ?_
        refine ww_getR (pc := 45) hC 12 37 24 hL.1 RX12 (by decide) (by decide) rfl (lay_12_37 hL).1 qf_X12_124 rfl dX12_layOthers_45 ?_
        refine ww_iload_n (pc := 48) hC dX12_layOthers_48 3 rfl ?_
        refine ww_aload_n (pc := 49) hC dX12_layOthers_49 0 rfl ?_
        refine ww_getR (pc := 50) hC 12 37 24 hL.1 RX12 (by decide) (by decide) rfl (lay_12_37 hL).1 qf_X12_124 rfl dX12_layOthers_50 ?_
        refine ww_iload_n (pc := 53) hC dX12_layOthers_53 3 rfl ?_
        refine ww_lald (pc := 54) hC ((lay_12_37 hL).2) h dX12_layOthers_54 (fun h => ?_)
        refine ww_bipush (pc := 55) hC (v := (100 : Int32)) dX12_layOthers_55 (by decide) ?_
        refine ww_iload_n (pc := 57) hC dX12_layOthers_57 1 rfl ?_
        refine ww_isub (pc := 58) hC dX12_layOthers_58 ?_
        refine ww_i2l (pc := 59) hC dX12_layOthers_59 ?_
        refine ww_lmul (pc := 60) hC dX12_layOthers_60 ?_
        refine ww_iload_n (pc := 61) hC dX12_layOthers_61 3 rfl ?_
        refine ww_if_ne (pc := 62) hC h 69 dX12_layOthers_62 (by decide) (fun h => ?_) (fun h => ?_)
        · refine ww_aload_n (pc := 69) hC dX12_layOthers_69 0 rfl ?_
          refine ww_getR (pc := 70) hC 12 37 24 hL.1 RX12 (by decide) (by decide) rfl (lay_12_37 hL).1 qf_X12_124 rfl dX12_layOthers_70 ?_
          refine ww_iload_n (pc := 73) hC dX12_layOthers_73 3 rfl ?_
          refine ww_iconst (pc := 74) hC (v := (1 : Int32)) dX12_layOthers_74 (by decide) ?_
          refine ww_isub (pc := 75) hC dX12_layOthers_75 ?_
          refine ww_lald (pc := 76) hC ((lay_12_37 hL).2) h dX12_layOthers_76 (fun h => ?_)
          refine ww_iload_n (pc := 77) hC dX12_layOthers_77 1 rfl ?_
          refine ww_i2l (pc := 78) hC dX12_layOthers_78 ?_
          refine ww_lmul (pc := 79) hC dX12_layOthers_79 ?_
          refine ww_sub [0, 1, 2, 3] rfl ?_
          exact j80 _ hk30 _ ih _ _ _ _ _ _ _ h
        · refine ww_lconst (pc := 65) hC (v := (0 : Int64)) dX12_layOthers_65 (by decide) ?_
          refine ww_goto (pc := 66) hC 80 dX12_layOthers_66 (by decide) ?_
          refine ww_sub [0, 1, 2, 3] rfl ?_
          exact j80 _ hk30 _ ih _ _ _ _ _ _ _ h
  have j30 : ∀ (n : Nat), ∀ (x1 : Int32) (x2 : Int32) (X : XD), fX12_layOthers_30 n x1 x2 X = some (r, X1) → WW p l e (rmX 1 0 0) s m args below meth c 4 (MQ below (XQ E w z Z X1 none) args s 0 0 (A0 E)) E w 0 0 z Z 30 [(0, .ref (w.1 0)), (1, .int x1), (2, .int x2)] [] X := by
    intro n
    induction n with
    | zero =>
      intro x1 x2 X h
      cases (show none = some (r, X1) from h)
    | succ n ih =>
      intro x1 x2 X h
      rw [fX12_layOthers_30_s] at h
      refine ww_iload_n (pc := 30) hC dX12_layOthers_30 2 rfl ?_
      refine ww_aload_n (pc := 31) hC dX12_layOthers_31 0 rfl ?_
      refine ww_getI (pc := 32) hC 12 32 hL.1 RX12 (by decide) (by decide) rfl qf_X12_108 (Or.inl rfl) dX12_layOthers_32 ?_
      refine ww_icmp_ge (pc := 35) hC h 94 dX12_layOthers_35 (by decide) (fun h => ?_) (fun h => ?_)
      · exact ww_vret (pc := 94) hC hr h dX12_layOthers_94
      · refine ww_iconst (pc := 38) hC (v := (4 : Int32)) dX12_layOthers_38 (by decide) ?_
        refine ww_istore_n (pc := 39) hC [(3, .int ((4 : Int32))), (0, .ref (w.1 0)), (1, .int x1), (2, .int x2)] dX12_layOthers_39 rfl (by decide) rfl ?_
        refine ww_sub [1, 2, 3, 0] rfl ?_
        exact j40 _ ih _ _ _ _ _ h
  have j2 : ∀ (n : Nat), ∀ (x1 : Int32) (x2 : Int32) (X : XD), fX12_layOthers_2 n x1 x2 X = some (r, X1) → WW p l e (rmX 1 0 0) s m args below meth c 4 (MQ below (XQ E w z Z X1 none) args s 0 0 (A0 E)) E w 0 0 z Z 2 [(0, .ref (w.1 0)), (1, .int x1), (2, .int x2)] [] X := by
    intro n
    induction n with
    | zero =>
      intro x1 x2 X h
      cases (show none = some (r, X1) from h)
    | succ n ih =>
      intro x1 x2 X h
      rw [fX12_layOthers_2_s] at h
      refine ww_iload_n (pc := 2) hC dX12_layOthers_2 2 rfl ?_
      refine ww_iconst (pc := 3) hC (v := (5 : Int32)) dX12_layOthers_3 (by decide) ?_
      refine ww_icmp_ge (pc := 4) hC h 28 dX12_layOthers_4 (by decide) (fun h => ?_) (fun h => ?_)
      · refine ww_iconst (pc := 28) hC (v := (0 : Int32)) dX12_layOthers_28 (by decide) ?_
        refine ww_istore_n (pc := 29) hC [(2, .int ((0 : Int32))), (0, .ref (w.1 0)), (1, .int x1)] dX12_layOthers_29 rfl (by decide) rfl ?_
        refine ww_sub [1, 2, 0] rfl ?_
        exact j30 _ _ _ _ h
      · refine ww_aload_n (pc := 7) hC dX12_layOthers_7 0 rfl ?_
        refine ww_getR (pc := 8) hC 12 37 24 hL.1 RX12 (by decide) (by decide) rfl (lay_12_37 hL).1 qf_X12_124 rfl dX12_layOthers_8 ?_
        refine ww_iload_n (pc := 11) hC dX12_layOthers_11 2 rfl ?_
        refine ww_iload_n (pc := 12) hC dX12_layOthers_12 2 rfl ?_
        refine ww_if_ne (pc := 13) hC h 20 dX12_layOthers_13 (by decide) (fun h => ?_) (fun h => ?_)
        · refine ww_lconst (pc := 20) hC (v := (0 : Int64)) dX12_layOthers_20 (by decide) ?_
          refine ww_sub [0, 1, 2] rfl ?_
          exact j21 _ ih _ _ _ _ _ h
        · refine ww_lconst (pc := 16) hC (v := (1 : Int64)) dX12_layOthers_16 (by decide) ?_
          refine ww_goto (pc := 17) hC 21 dX12_layOthers_17 (by decide) ?_
          refine ww_sub [0, 1, 2] rfl ?_
          exact j21 _ ih _ _ _ _ _ h
  unfold fX12_layOthers at h
  refine ww_lv (lv' := [(0, .ref (w.1 0)), (1, .int x1)]) rfl ?_
  refine ww_iconst (pc := 0) hC (v := (0 : Int32)) dX12_layOthers_0 (by decide) ?_
  refine ww_istore_n (pc := 1) hC [(2, .int ((0 : Int32))), (0, .ref (w.1 0)), (1, .int x1)] dX12_layOthers_1 rfl (by decide) rfl ?_
  refine ww_sub [1, 2, 0] rfl ?_
  exact j2 _ _ _ _ h
noncomputable def fX12_win_115 (k50 : Int32 → Int32 → Int64 → Int32 → XD → Option (Int64 × XD)) (k62 : Int32 → Int32 → Int64 → Int32 → Int32 → XD → Option (Int64 × XD)) (x2 : Int32) (x3 : Int32) (x6 : Int32) (x7 : Int32) (s0 : Int64) (s1 : Int64) (X : XD) : Option (Int64 × XD) := nm (s1 + s0) (fun y18 => nm (x7 + (1 : Int32)) (fun y19 => k62 x2 x3 y18 x6 y19 X))
noncomputable def fX12_win_96 (k50 : Int32 → Int32 → Int64 → Int32 → XD → Option (Int64 × XD)) (k62 : Int32 → Int32 → Int64 → Int32 → Int32 → XD → Option (Int64 × XD)) (x2 : Int32) (x3 : Int32) (x6 : Int32) (x7 : Int32) (s0 : Int64) (X : XD) : Option (Int64 × XD) := gin x6 5 (gin x7 5 (fX12_win_115 k50 k62 x2 x3 x6 x7 ((X.2 23 (x6).toNatClampNeg) * (X.2 24 (x7).toNatClampNeg)) s0 X))
noncomputable def fX12_win_114 (k50 : Int32 → Int32 → Int64 → Int32 → XD → Option (Int64 × XD)) (k62 : Int32 → Int32 → Int64 → Int32 → Int32 → XD → Option (Int64 × XD)) (x2 : Int32) (x3 : Int32) (x6 : Int32) (x7 : Int32) (s0 : Int64) (X : XD) : Option (Int64 × XD) := fX12_win_115 k50 k62 x2 x3 x6 x7 ((0 : Int64)) s0 X
noncomputable def fX12_win_84 (k50 : Int32 → Int32 → Int64 → Int32 → XD → Option (Int64 × XD)) (k62 : Int32 → Int32 → Int64 → Int32 → Int32 → XD → Option (Int64 × XD)) (x2 : Int32) (x3 : Int32) (x6 : Int32) (x7 : Int32) (s0 : Int64) (X : XD) : Option (Int64 × XD) := if x2 = ((1 : Int32)) then if x6 = x7 then fX12_win_96 k50 k62 x2 x3 x6 x7 s0 X else fX12_win_114 k50 k62 x2 x3 x6 x7 s0 X else fX12_win_114 k50 k62 x2 x3 x6 x7 s0 X
noncomputable def fX12_win_62 (k50 : Int32 → Int32 → Int64 → Int32 → XD → Option (Int64 × XD)) (n : Nat) : Int32 → Int32 → Int64 → Int32 → Int32 → XD → Option (Int64 × XD) := Nat.rec (motive := fun _ => Int32 → Int32 → Int64 → Int32 → Int32 → XD → Option (Int64 × XD)) (fun _ _ _ _ _ _ => none) (fun _ f => fun x2 x3 x4 x6 x7 X => if (X.1 0 32) < x7 then nm (x6 + (1 : Int32)) (fun y17 => k50 x2 x3 x4 y17 X) else if x2 = 0 then if x7 < x6 then fX12_win_96 k50 (f) x2 x3 x6 x7 x4 X else fX12_win_84 k50 (f) x2 x3 x6 x7 x4 X else fX12_win_84 k50 (f) x2 x3 x6 x7 x4 X) n
theorem fX12_win_62_s (k50 : Int32 → Int32 → Int64 → Int32 → XD → Option (Int64 × XD)) (n : Nat) (x2 : Int32) (x3 : Int32) (x4 : Int64) (x6 : Int32) (x7 : Int32) (X : XD) : fX12_win_62 k50 (n + 1) x2 x3 x4 x6 x7 X = if (X.1 0 32) < x7 then nm (x6 + (1 : Int32)) (fun y17 => k50 x2 x3 x4 y17 X) else if x2 = 0 then if x7 < x6 then fX12_win_96 k50 ((fX12_win_62 k50 n)) x2 x3 x6 x7 x4 X else fX12_win_84 k50 ((fX12_win_62 k50 n)) x2 x3 x6 x7 x4 X else fX12_win_84 k50 ((fX12_win_62 k50 n)) x2 x3 x6 x7 x4 X := rfl
noncomputable def fX12_win_50 (n : Nat) : Int32 → Int32 → Int64 → Int32 → XD → Option (Int64 × XD) := Nat.rec (motive := fun _ => Int32 → Int32 → Int64 → Int32 → XD → Option (Int64 × XD)) (fun _ _ _ _ _ => none) (fun _ f => fun x2 x3 x4 x6 X => if (X.1 0 32) < x6 then bnd (fX12_hundreds (((2 : Int32)) * (X.1 0 32)) X) (fun r14 => bnd (fX12_lowest x4 r14 x3 X) (fun r16 => some (r16, X))) else fX12_win_62 (f) FU x2 x3 x4 x6 ((0 : Int32)) X) n
theorem fX12_win_50_s (n : Nat) (x2 : Int32) (x3 : Int32) (x4 : Int64) (x6 : Int32) (X : XD) : fX12_win_50 (n + 1) x2 x3 x4 x6 X = if (X.1 0 32) < x6 then bnd (fX12_hundreds (((2 : Int32)) * (X.1 0 32)) X) (fun r14 => bnd (fX12_lowest x4 r14 x3 X) (fun r16 => some (r16, X))) else fX12_win_62 ((fX12_win_50 n)) FU x2 x3 x4 x6 ((0 : Int32)) X := rfl
noncomputable def fX12_win (x1 : Int32) (x2 : Int32) (x3 : Int32) (X : XD) : Option (Int64 × XD) := bnd (fX12_in x1 ((0 : Int32)) ((100 : Int32)) X) (fun r2 => if r2 = 0 then some ((-9223372036854775808 : Int64), X) else bnd (fX12_in x2 ((0 : Int32)) ((1 : Int32)) X) (fun r4 => if r4 = 0 then some ((-9223372036854775808 : Int64), X) else bnd (fX12_in x3 ((0 : Int32)) ((1 : Int32)) X) (fun r6 => if r6 = 0 then some ((-9223372036854775808 : Int64), X) else bnw (fX12_layInOrder X) (fun _ X_9 => bnw (fX12_layOthers x1 X_9) (fun _ X_12 => fX12_win_50 FU x2 x3 ((0 : Int64)) ((0 : Int32)) X_12)))))
set_option maxHeartbeats 40000000 in
set_option maxRecDepth 100000 in
theorem ceX12_win {l : Launch} {E : XE} {w : XW} {z : Nat} {Z : XS} (hL : LayM Z) {x1 : Int32} {x2 : Int32} {x3 : Int32} {X X1 : XD} {r : Int64} (h : fX12_win x1 x2 x3 X = some (r, X1)) : Ct l E w yX12_win (wsM yX12_win cX12_win 8 (some .long)) (rmX 10 0 0) 0 0 [.ref (w.1 0), .int x1, .int x2, .int x3] z z Z Z X X1 (some (.long r)) := by
  refine ct_of (by decide) (Nat.le_of_ble_eq_true rfl) ?_
  intro p e s m args below meth c hC hr hin hav
  have j115 : ∀ (k50 : Int32 → Int32 → Int64 → Int32 → XD → Option (Int64 × XD)) (hk50 : ∀ (x2 : Int32) (x3 : Int32) (x4 : Int64) (x6 : Int32) (X : XD), k50 x2 x3 x4 x6 X = some (r, X1) → WW p l e (rmX 10 0 0) s m args below meth c 8 (MQ below (XQ E w z Z X1 (some (.long r))) args s 0 0 (A0 E)) E w 0 0 z Z 50 [(0, .ref (w.1 0)), (2, .int x2), (3, .int x3), (4, .long x4), (6, .int x6)] [] X) (k62 : Int32 → Int32 → Int64 → Int32 → Int32 → XD → Option (Int64 × XD)) (hk62 : ∀ (x2 : Int32) (x3 : Int32) (x4 : Int64) (x6 : Int32) (x7 : Int32) (X : XD), k62 x2 x3 x4 x6 x7 X = some (r, X1) → WW p l e (rmX 10 0 0) s m args below meth c 8 (MQ below (XQ E w z Z X1 (some (.long r))) args s 0 0 (A0 E)) E w 0 0 z Z 62 [(0, .ref (w.1 0)), (2, .int x2), (3, .int x3), (4, .long x4), (6, .int x6), (7, .int x7)] [] X), ∀ (x2 : Int32) (x3 : Int32) (x6 : Int32) (x7 : Int32) (s0 : Int64) (s1 : Int64) (X : XD), fX12_win_115 k50 k62 x2 x3 x6 x7 s0 s1 X = some (r, X1) → WW p l e (rmX 10 0 0) s m args below meth c 8 (MQ below (XQ E w z Z X1 (some (.long r))) args s 0 0 (A0 E)) E w 0 0 z Z 115 [(0, .ref (w.1 0)), (2, .int x2), (3, .int x3), (6, .int x6), (7, .int x7)] [.long s0, .long s1] X := by
    intro k50 hk50 k62 hk62 x2 x3 x6 x7 s0 s1 X h
    unfold fX12_win_115 at h
    refine ww_ladd (pc := 115) hC dX12_win_115 ?_
    obtain ⟨y18, ey18⟩ : ∃ q, q = s1 + s0 := ⟨_, rfl⟩
    replace h := nm_i h ey18
    refine ww_nml ey18 ?_
    refine ww_lstore (pc := 116) hC [(4, .long y18), (0, .ref (w.1 0)), (2, .int x2), (3, .int x3), (6, .int x6), (7, .int x7)] dX12_win_116  (by decide) rfl ?_
    obtain ⟨y19, ey19⟩ : ∃ q, q = x7 + (1 : Int32) := ⟨_, rfl⟩
    replace h := nm_i h ey19
    refine ww_iinc (pc := 118) hC y19 [(7, .int y19), (4, .long y18), (0, .ref (w.1 0)), (2, .int x2), (3, .int x3), (6, .int x6)] dX12_win_118 5 rfl (by rw [ey19]; rfl) (by decide) rfl ?_
    refine ww_goto (pc := 121) hC 62 dX12_win_121 (by decide) ?_
    refine ww_sub [2, 3, 4, 1, 5, 0] rfl ?_
    exact hk62 _ _ _ _ _ _ h
  have j96 : ∀ (k50 : Int32 → Int32 → Int64 → Int32 → XD → Option (Int64 × XD)) (hk50 : ∀ (x2 : Int32) (x3 : Int32) (x4 : Int64) (x6 : Int32) (X : XD), k50 x2 x3 x4 x6 X = some (r, X1) → WW p l e (rmX 10 0 0) s m args below meth c 8 (MQ below (XQ E w z Z X1 (some (.long r))) args s 0 0 (A0 E)) E w 0 0 z Z 50 [(0, .ref (w.1 0)), (2, .int x2), (3, .int x3), (4, .long x4), (6, .int x6)] [] X) (k62 : Int32 → Int32 → Int64 → Int32 → Int32 → XD → Option (Int64 × XD)) (hk62 : ∀ (x2 : Int32) (x3 : Int32) (x4 : Int64) (x6 : Int32) (x7 : Int32) (X : XD), k62 x2 x3 x4 x6 x7 X = some (r, X1) → WW p l e (rmX 10 0 0) s m args below meth c 8 (MQ below (XQ E w z Z X1 (some (.long r))) args s 0 0 (A0 E)) E w 0 0 z Z 62 [(0, .ref (w.1 0)), (2, .int x2), (3, .int x3), (4, .long x4), (6, .int x6), (7, .int x7)] [] X), ∀ (x2 : Int32) (x3 : Int32) (x6 : Int32) (x7 : Int32) (s0 : Int64) (X : XD), fX12_win_96 k50 k62 x2 x3 x6 x7 s0 X = some (r, X1) → WW p l e (rmX 10 0 0) s m args below meth c 8 (MQ below (XQ E w z Z X1 (some (.long r))) args s 0 0 (A0 E)) E w 0 0 z Z 96 [(0, .ref (w.1 0)), (2, .int x2), (3, .int x3), (6, .int x6), (7, .int x7)] [.long s0] X := by
    intro k50 hk50 k62 hk62 x2 x3 x6 x7 s0 X h
    unfold fX12_win_96 at h
    refine ww_aload_n (pc := 96) hC dX12_win_96 0 rfl ?_
    refine ww_getR (pc := 97) hC 12 36 23 hL.1 RX12 (by decide) (by decide) rfl (lay_12_36 hL).1 qf_X12_120 rfl dX12_win_97 ?_
    refine ww_iload (pc := 100) hC dX12_win_100 3 rfl ?_
    refine ww_lald (pc := 102) hC ((lay_12_36 hL).2) h dX12_win_102 (fun h => ?_)
    refine ww_aload_n (pc := 103) hC dX12_win_103 0 rfl ?_
    refine ww_getR (pc := 104) hC 12 37 24 hL.1 RX12 (by decide) (by decide) rfl (lay_12_37 hL).1 qf_X12_124 rfl dX12_win_104 ?_
    refine ww_iload (pc := 107) hC dX12_win_107 4 rfl ?_
    refine ww_lald (pc := 109) hC ((lay_12_37 hL).2) h dX12_win_109 (fun h => ?_)
    refine ww_lmul (pc := 110) hC dX12_win_110 ?_
    refine ww_goto (pc := 111) hC 115 dX12_win_111 (by decide) ?_
    refine ww_sub [0, 1, 2, 3, 4] rfl ?_
    exact j115 _ hk50 _ hk62 _ _ _ _ _ _ _ h
  have j114 : ∀ (k50 : Int32 → Int32 → Int64 → Int32 → XD → Option (Int64 × XD)) (hk50 : ∀ (x2 : Int32) (x3 : Int32) (x4 : Int64) (x6 : Int32) (X : XD), k50 x2 x3 x4 x6 X = some (r, X1) → WW p l e (rmX 10 0 0) s m args below meth c 8 (MQ below (XQ E w z Z X1 (some (.long r))) args s 0 0 (A0 E)) E w 0 0 z Z 50 [(0, .ref (w.1 0)), (2, .int x2), (3, .int x3), (4, .long x4), (6, .int x6)] [] X) (k62 : Int32 → Int32 → Int64 → Int32 → Int32 → XD → Option (Int64 × XD)) (hk62 : ∀ (x2 : Int32) (x3 : Int32) (x4 : Int64) (x6 : Int32) (x7 : Int32) (X : XD), k62 x2 x3 x4 x6 x7 X = some (r, X1) → WW p l e (rmX 10 0 0) s m args below meth c 8 (MQ below (XQ E w z Z X1 (some (.long r))) args s 0 0 (A0 E)) E w 0 0 z Z 62 [(0, .ref (w.1 0)), (2, .int x2), (3, .int x3), (4, .long x4), (6, .int x6), (7, .int x7)] [] X), ∀ (x2 : Int32) (x3 : Int32) (x6 : Int32) (x7 : Int32) (s0 : Int64) (X : XD), fX12_win_114 k50 k62 x2 x3 x6 x7 s0 X = some (r, X1) → WW p l e (rmX 10 0 0) s m args below meth c 8 (MQ below (XQ E w z Z X1 (some (.long r))) args s 0 0 (A0 E)) E w 0 0 z Z 114 [(0, .ref (w.1 0)), (2, .int x2), (3, .int x3), (6, .int x6), (7, .int x7)] [.long s0] X := by
    intro k50 hk50 k62 hk62 x2 x3 x6 x7 s0 X h
    unfold fX12_win_114 at h
    refine ww_lconst (pc := 114) hC (v := (0 : Int64)) dX12_win_114 (by decide) ?_
    refine ww_sub [0, 1, 2, 3, 4] rfl ?_
    exact j115 _ hk50 _ hk62 _ _ _ _ _ _ _ h
  have j84 : ∀ (k50 : Int32 → Int32 → Int64 → Int32 → XD → Option (Int64 × XD)) (hk50 : ∀ (x2 : Int32) (x3 : Int32) (x4 : Int64) (x6 : Int32) (X : XD), k50 x2 x3 x4 x6 X = some (r, X1) → WW p l e (rmX 10 0 0) s m args below meth c 8 (MQ below (XQ E w z Z X1 (some (.long r))) args s 0 0 (A0 E)) E w 0 0 z Z 50 [(0, .ref (w.1 0)), (2, .int x2), (3, .int x3), (4, .long x4), (6, .int x6)] [] X) (k62 : Int32 → Int32 → Int64 → Int32 → Int32 → XD → Option (Int64 × XD)) (hk62 : ∀ (x2 : Int32) (x3 : Int32) (x4 : Int64) (x6 : Int32) (x7 : Int32) (X : XD), k62 x2 x3 x4 x6 x7 X = some (r, X1) → WW p l e (rmX 10 0 0) s m args below meth c 8 (MQ below (XQ E w z Z X1 (some (.long r))) args s 0 0 (A0 E)) E w 0 0 z Z 62 [(0, .ref (w.1 0)), (2, .int x2), (3, .int x3), (4, .long x4), (6, .int x6), (7, .int x7)] [] X), ∀ (x2 : Int32) (x3 : Int32) (x6 : Int32) (x7 : Int32) (s0 : Int64) (X : XD), fX12_win_84 k50 k62 x2 x3 x6 x7 s0 X = some (r, X1) → WW p l e (rmX 10 0 0) s m args below meth c 8 (MQ below (XQ E w z Z X1 (some (.long r))) args s 0 0 (A0 E)) E w 0 0 z Z 84 [(0, .ref (w.1 0)), (2, .int x2), (3, .int x3), (6, .int x6), (7, .int x7)] [.long s0] X := by
    intro k50 hk50 k62 hk62 x2 x3 x6 x7 s0 X h
    unfold fX12_win_84 at h
    refine ww_iload_n (pc := 84) hC dX12_win_84 1 rfl ?_
    refine ww_iconst (pc := 85) hC (v := (1 : Int32)) dX12_win_85 (by decide) ?_
    refine ww_icmp_ne (pc := 86) hC h 114 dX12_win_86 (by decide) (fun h => ?_) (fun h => ?_)
    · refine ww_sub [0, 1, 2, 3, 4] rfl ?_
      exact j114 _ hk50 _ hk62 _ _ _ _ _ _ h
    · refine ww_iload (pc := 89) hC dX12_win_89 3 rfl ?_
      refine ww_iload (pc := 91) hC dX12_win_91 4 rfl ?_
      refine ww_icmp_ne (pc := 93) hC h 114 dX12_win_93 (by decide) (fun h => ?_) (fun h => ?_)
      · refine ww_sub [0, 1, 2, 3, 4] rfl ?_
        exact j114 _ hk50 _ hk62 _ _ _ _ _ _ h
      · refine ww_sub [0, 1, 2, 3, 4] rfl ?_
        exact j96 _ hk50 _ hk62 _ _ _ _ _ _ h
  have j62 : ∀ (k50 : Int32 → Int32 → Int64 → Int32 → XD → Option (Int64 × XD)) (hk50 : ∀ (x2 : Int32) (x3 : Int32) (x4 : Int64) (x6 : Int32) (X : XD), k50 x2 x3 x4 x6 X = some (r, X1) → WW p l e (rmX 10 0 0) s m args below meth c 8 (MQ below (XQ E w z Z X1 (some (.long r))) args s 0 0 (A0 E)) E w 0 0 z Z 50 [(0, .ref (w.1 0)), (2, .int x2), (3, .int x3), (4, .long x4), (6, .int x6)] [] X) (n : Nat), ∀ (x2 : Int32) (x3 : Int32) (x4 : Int64) (x6 : Int32) (x7 : Int32) (X : XD), fX12_win_62 k50 n x2 x3 x4 x6 x7 X = some (r, X1) → WW p l e (rmX 10 0 0) s m args below meth c 8 (MQ below (XQ E w z Z X1 (some (.long r))) args s 0 0 (A0 E)) E w 0 0 z Z 62 [(0, .ref (w.1 0)), (2, .int x2), (3, .int x3), (4, .long x4), (6, .int x6), (7, .int x7)] [] X := by
    intro k50 hk50
    intro n
    induction n with
    | zero =>
      intro x2 x3 x4 x6 x7 X h
      cases (show none = some (r, X1) from h)
    | succ n ih =>
      intro x2 x3 x4 x6 x7 X h
      rw [fX12_win_62_s] at h
      refine ww_iload (pc := 62) hC dX12_win_62 5 rfl ?_
      refine ww_aload_n (pc := 64) hC dX12_win_64 0 rfl ?_
      refine ww_getI (pc := 65) hC 12 32 hL.1 RX12 (by decide) (by decide) rfl qf_X12_108 (Or.inl rfl) dX12_win_65 ?_
      refine ww_icmp_gt (pc := 68) hC h 124 dX12_win_68 (by decide) (fun h => ?_) (fun h => ?_)
      · obtain ⟨y17, ey17⟩ : ∃ q, q = x6 + (1 : Int32) := ⟨_, rfl⟩
        replace h := nm_i h ey17
        refine ww_iinc (pc := 124) hC y17 [(6, .int y17), (0, .ref (w.1 0)), (2, .int x2), (3, .int x3), (4, .long x4), (7, .int x7)] dX12_win_124 4 rfl (by rw [ey17]; rfl) (by decide) rfl ?_
        refine ww_goto (pc := 127) hC 50 dX12_win_127 (by decide) ?_
        refine ww_sub [1, 2, 3, 4, 0] rfl ?_
        exact hk50 _ _ _ _ _ h
      · refine ww_lload (pc := 71) hC dX12_win_71 3 rfl ?_
        refine ww_iload_n (pc := 73) hC dX12_win_73 1 rfl ?_
        refine ww_if_ne (pc := 74) hC h 84 dX12_win_74 (by decide) (fun h => ?_) (fun h => ?_)
        · refine ww_sub [0, 1, 2, 4, 5] rfl ?_
          exact j84 _ hk50 _ ih _ _ _ _ _ _ h
        · refine ww_iload (pc := 77) hC dX12_win_77 4 rfl ?_
          refine ww_iload (pc := 79) hC dX12_win_79 5 rfl ?_
          refine ww_icmp_gt (pc := 81) hC h 96 dX12_win_81 (by decide) (fun h => ?_) (fun h => ?_)
          · refine ww_sub [0, 1, 2, 4, 5] rfl ?_
            exact j96 _ hk50 _ ih _ _ _ _ _ _ h
          · refine ww_sub [0, 1, 2, 4, 5] rfl ?_
            exact j84 _ hk50 _ ih _ _ _ _ _ _ h
  have j50 : ∀ (n : Nat), ∀ (x2 : Int32) (x3 : Int32) (x4 : Int64) (x6 : Int32) (X : XD), fX12_win_50 n x2 x3 x4 x6 X = some (r, X1) → WW p l e (rmX 10 0 0) s m args below meth c 8 (MQ below (XQ E w z Z X1 (some (.long r))) args s 0 0 (A0 E)) E w 0 0 z Z 50 [(0, .ref (w.1 0)), (2, .int x2), (3, .int x3), (4, .long x4), (6, .int x6)] [] X := by
    intro n
    induction n with
    | zero =>
      intro x2 x3 x4 x6 X h
      cases (show none = some (r, X1) from h)
    | succ n ih =>
      intro x2 x3 x4 x6 X h
      rw [fX12_win_50_s] at h
      refine ww_iload (pc := 50) hC dX12_win_50 4 rfl ?_
      refine ww_aload_n (pc := 52) hC dX12_win_52 0 rfl ?_
      refine ww_getI (pc := 53) hC 12 32 hL.1 RX12 (by decide) (by decide) rfl qf_X12_108 (Or.inl rfl) dX12_win_53 ?_
      refine ww_icmp_gt (pc := 56) hC h 130 dX12_win_56 (by decide) (fun h => ?_) (fun h => ?_)
      · refine ww_aload_n (pc := 130) hC dX12_win_130 0 rfl ?_
        refine ww_lload (pc := 131) hC dX12_win_131 3 rfl ?_
        refine ww_aload_n (pc := 133) hC dX12_win_133 0 rfl ?_
        refine ww_iconst (pc := 134) hC (v := (2 : Int32)) dX12_win_134 (by decide) ?_
        refine ww_aload_n (pc := 135) hC dX12_win_135 0 rfl ?_
        refine ww_getI (pc := 136) hC 12 32 hL.1 RX12 (by decide) (by decide) rfl qf_X12_108 (Or.inl rfl) dX12_win_136 ?_
        refine ww_imul (pc := 139) hC dX12_win_139 ?_
        obtain ⟨r14, h13, h⟩ := bnd_i h
        refine ww_callVl (pc := 140) hC [.int (((2 : Int32)) * (X.1 0 32))] hL.1.1 hL.1.2 (by decide) (ceX12_hundreds hL h13) ql_X12_356 qi_X12_hundreds qs_X12_X12_hundreds qn_X12 qc_X12_hundreds rfl ⟨by decide, by decide, rfl⟩ rfl ⟨Nat.le_of_ble_eq_true rfl, Nat.le_of_ble_eq_true rfl⟩ (by decide) (rest := [.long x4, .ref (w.1 0)]) (Nat.le_of_ble_eq_true rfl) dX12_win_140 ⟨Nat.le_of_ble_eq_true rfl, Nat.le_of_ble_eq_true rfl⟩ rfl ?_
        refine ww_iload_n (pc := 143) hC dX12_win_143 2 rfl ?_
        obtain ⟨r16, h15, h⟩ := bnd_i h
        refine ww_callVl (pc := 144) hC [.long x4, .long r14, .int x3] hL.1.1 hL.1.2 (by decide) (ceX12_lowest hL h15) ql_X12_360 qi_X12_lowest qs_X12_X12_lowest qn_X12 qc_X12_lowest rfl ⟨by decide, by decide, rfl⟩ rfl ⟨Nat.le_of_ble_eq_true rfl, Nat.le_of_ble_eq_true rfl⟩ (by decide) (rest := []) (Nat.le_of_ble_eq_true rfl) dX12_win_144 ⟨Nat.le_of_ble_eq_true rfl, Nat.le_of_ble_eq_true rfl⟩ rfl ?_
        exact ww_lret (pc := 147) hC hr h dX12_win_147
      · refine ww_iconst (pc := 59) hC (v := (0 : Int32)) dX12_win_59 (by decide) ?_
        refine ww_istore (pc := 60) hC [(7, .int ((0 : Int32))), (0, .ref (w.1 0)), (2, .int x2), (3, .int x3), (4, .long x4), (6, .int x6)] dX12_win_60  (by decide) rfl ?_
        refine ww_sub [1, 2, 3, 4, 5, 0] rfl ?_
        exact j62 _ ih _ _ _ _ _ _ _ h
  unfold fX12_win at h
  refine ww_lv (lv' := [(0, .ref (w.1 0)), (1, .int x1), (2, .int x2), (3, .int x3)]) rfl ?_
  refine ww_aload_n (pc := 0) hC dX12_win_0 0 rfl ?_
  refine ww_iload_n (pc := 1) hC dX12_win_1 1 rfl ?_
  refine ww_iconst (pc := 2) hC (v := (0 : Int32)) dX12_win_2 (by decide) ?_
  refine ww_bipush (pc := 3) hC (v := (100 : Int32)) dX12_win_3 (by decide) ?_
  obtain ⟨r2, h1, h⟩ := bnd_i h
  refine ww_callVi (pc := 5) hC [.int x1, .int ((0 : Int32)), .int ((100 : Int32))] hL.1.1 hL.1.2 (by decide) (ceX12_in hL h1) ql_X12_215 qi_X12_in qs_X12_X12_in qn_X12 qc_X12_in rfl ⟨by decide, by decide, rfl⟩ rfl ⟨Nat.le_of_ble_eq_true rfl, Nat.le_of_ble_eq_true rfl⟩ (by decide) (rest := []) (Nat.le_of_ble_eq_true rfl) dX12_win_5 ⟨Nat.le_of_ble_eq_true rfl, Nat.le_of_ble_eq_true rfl⟩ rfl ?_
  refine ww_if_eq (pc := 8) hC h 31 dX12_win_8 (by decide) (fun h => ?_) (fun h => ?_)
  · refine ww_ldc2 (pc := 31) hC (v := (-9223372036854775808 : Int64)) dX12_win_31 qg_X12_351 ?_
    exact ww_lret (pc := 34) hC hr h dX12_win_34
  · refine ww_aload_n (pc := 11) hC dX12_win_11 0 rfl ?_
    refine ww_iload_n (pc := 12) hC dX12_win_12 2 rfl ?_
    refine ww_iconst (pc := 13) hC (v := (0 : Int32)) dX12_win_13 (by decide) ?_
    refine ww_iconst (pc := 14) hC (v := (1 : Int32)) dX12_win_14 (by decide) ?_
    obtain ⟨r4, h3, h⟩ := bnd_i h
    refine ww_callVi (pc := 15) hC [.int x2, .int ((0 : Int32)), .int ((1 : Int32))] hL.1.1 hL.1.2 (by decide) (ceX12_in hL h3) ql_X12_215 qi_X12_in qs_X12_X12_in qn_X12 qc_X12_in rfl ⟨by decide, by decide, rfl⟩ rfl ⟨Nat.le_of_ble_eq_true rfl, Nat.le_of_ble_eq_true rfl⟩ (by decide) (rest := []) (Nat.le_of_ble_eq_true rfl) dX12_win_15 ⟨Nat.le_of_ble_eq_true rfl, Nat.le_of_ble_eq_true rfl⟩ rfl ?_
    refine ww_if_eq (pc := 18) hC h 31 dX12_win_18 (by decide) (fun h => ?_) (fun h => ?_)
    · refine ww_ldc2 (pc := 31) hC (v := (-9223372036854775808 : Int64)) dX12_win_31 qg_X12_351 ?_
      exact ww_lret (pc := 34) hC hr h dX12_win_34
    · refine ww_aload_n (pc := 21) hC dX12_win_21 0 rfl ?_
      refine ww_iload_n (pc := 22) hC dX12_win_22 3 rfl ?_
      refine ww_iconst (pc := 23) hC (v := (0 : Int32)) dX12_win_23 (by decide) ?_
      refine ww_iconst (pc := 24) hC (v := (1 : Int32)) dX12_win_24 (by decide) ?_
      obtain ⟨r6, h5, h⟩ := bnd_i h
      refine ww_callVi (pc := 25) hC [.int x3, .int ((0 : Int32)), .int ((1 : Int32))] hL.1.1 hL.1.2 (by decide) (ceX12_in hL h5) ql_X12_215 qi_X12_in qs_X12_X12_in qn_X12 qc_X12_in rfl ⟨by decide, by decide, rfl⟩ rfl ⟨Nat.le_of_ble_eq_true rfl, Nat.le_of_ble_eq_true rfl⟩ (by decide) (rest := []) (Nat.le_of_ble_eq_true rfl) dX12_win_25 ⟨Nat.le_of_ble_eq_true rfl, Nat.le_of_ble_eq_true rfl⟩ rfl ?_
      refine ww_if_ne (pc := 28) hC h 35 dX12_win_28 (by decide) (fun h => ?_) (fun h => ?_)
      · refine ww_aload_n (pc := 35) hC dX12_win_35 0 rfl ?_
        obtain ⟨_, X_9, h7, h⟩ := bnw_i h
        refine ww_callVv (pc := 36) hC [] hL.1.1 hL.1.2 (by decide) (ceX12_layInOrder hL h7) ql_X12_353 qi_X12_layInOrder qs_X12_X12_layInOrder qn_X12 qc_X12_layInOrder rfl ⟨by decide, by decide, rfl⟩ rfl ⟨Nat.le_of_ble_eq_true rfl, Nat.le_of_ble_eq_true rfl⟩ (by decide) (rest := []) (Nat.le_of_ble_eq_true rfl) dX12_win_36 ⟨Nat.le_of_ble_eq_true rfl, Nat.le_of_ble_eq_true rfl⟩ rfl ?_
        refine ww_aload_n (pc := 39) hC dX12_win_39 0 rfl ?_
        refine ww_iload_n (pc := 40) hC dX12_win_40 1 rfl ?_
        obtain ⟨_, X_12, h10, h⟩ := bnw_i h
        refine ww_callVv (pc := 41) hC [.int x1] hL.1.1 hL.1.2 (by decide) (ceX12_layOthers hL h10) ql_X12_369 qi_X12_layOthers qs_X12_X12_layOthers qn_X12 qc_X12_layOthers rfl ⟨by decide, by decide, rfl⟩ rfl ⟨Nat.le_of_ble_eq_true rfl, Nat.le_of_ble_eq_true rfl⟩ (by decide) (rest := []) (Nat.le_of_ble_eq_true rfl) dX12_win_41 ⟨Nat.le_of_ble_eq_true rfl, Nat.le_of_ble_eq_true rfl⟩ rfl ?_
        refine ww_lconst (pc := 44) hC (v := (0 : Int64)) dX12_win_44 (by decide) ?_
        refine ww_lstore (pc := 45) hC [(4, .long ((0 : Int64))), (0, .ref (w.1 0)), (1, .int x1), (2, .int x2), (3, .int x3)] dX12_win_45  (by decide) rfl ?_
        refine ww_iconst (pc := 47) hC (v := (0 : Int32)) dX12_win_47 (by decide) ?_
        refine ww_istore (pc := 48) hC [(6, .int ((0 : Int32))), (4, .long ((0 : Int64))), (0, .ref (w.1 0)), (1, .int x1), (2, .int x2), (3, .int x3)] dX12_win_48  (by decide) rfl ?_
        refine ww_sub [2, 4, 5, 1, 0] rfl ?_
        exact j50 _ _ _ _ _ _ h
      · refine ww_ldc2 (pc := 31) hC (v := (-9223372036854775808 : Int64)) dX12_win_31 qg_X12_351 ?_
        exact ww_lret (pc := 34) hC hr h dX12_win_34
