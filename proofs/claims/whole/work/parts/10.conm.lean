theorem ct0 {w : XW} (hW : ∀ i : Nat, w.1 i = w.1 0 + i) (Z : XS) : CT w Z := by
  intro i
  rw [hW (sn Z + i), hW (sn Z)]
  omega
/-- nothing is made yet -/
def zE : XS := (0, fun _ => 0, fun _ => 0, fun _ _ => none)
def xE : XD := (fun _ _ => 0, fun _ _ => 0)
def cZ0 : XS := newO 0 zE 11
def cX0 : XD := zX xE 0
def mZ0 : XS := newO 0 zE 12
def mX0 : XD := zX xE 0
def mX1 : XD := wI mX0 0 0 (0 : Int32)
def mX2 : XD := wI mX1 0 1 (0 : Int32)
def mX3 : XD := wI mX2 0 2 (0 : Int32)
def mZ4 : XS := newA 1 mZ0 13 6
def mX5 : XD := zX mX3 1
def mZ6 : XS := stR mZ4 0 3 1
def mZ7 : XS := newA 2 mZ6 13 6
def mX8 : XD := zX mX5 2
def mZ9 : XS := stR mZ7 0 4 2
def mZ10 : XS := newA 3 mZ9 13 6
def mX11 : XD := zX mX8 3
def mZ12 : XS := stR mZ10 0 5 3
def mZ13 : XS := newA 4 mZ12 13 6
def mX14 : XD := zX mX11 4
def mZ15 : XS := stR mZ13 0 6 4
def mZ16 : XS := newA 5 mZ15 13 6
def mX17 : XD := zX mX14 5
def mZ18 : XS := stR mZ16 0 7 5
def mZ19 : XS := newA 6 mZ18 13 24
def mX20 : XD := zX mX17 6
def mZ21 : XS := stR mZ19 0 8 6
def mX22 : XD := wI mX20 0 9 (0 : Int32)
def mX23 : XD := wI mX22 0 10 (-1 : Int32)
def mX24 : XD := wI mX23 0 11 (0 : Int32)
def mX25 : XD := wI mX24 0 12 (0 : Int32)
def mX26 : XD := wI mX25 0 13 (0 : Int32)
def mZ27 : XS := newA 7 mZ21 13 100
def mX28 : XD := zX mX26 7
def mZ29 : XS := stR mZ27 0 14 7
def mZ30 : XS := newA 8 mZ29 13 6
def mX31 : XD := zX mX28 8
def mZ32 : XS := stR mZ30 0 15 8
def mZ33 : XS := newA 9 mZ32 13 60
def mX34 : XD := zX mX31 9
def mZ35 : XS := stR mZ33 0 16 9
def mZ36 : XS := newA 10 mZ35 13 60
def mX37 : XD := zX mX34 10
def mZ38 : XS := stR mZ36 0 17 10
def mZ39 : XS := newA 11 mZ38 13 60
def mX40 : XD := zX mX37 11
def mZ41 : XS := stR mZ39 0 18 11
def mZ42 : XS := newA 12 mZ41 13 60
def mX43 : XD := zX mX40 12
def mZ44 : XS := stR mZ42 0 19 12
def mZ45 : XS := newA 13 mZ44 13 600
def mX46 : XD := zX mX43 13
def mZ47 : XS := stR mZ45 0 20 13
def mZ48 : XS := newA 14 mZ47 13 101
def mX49 : XD := zX mX46 14
def mZ50 : XS := stR mZ48 0 21 14
def mX51 : XD := wI mX49 0 22 (0 : Int32)
def mX52 : XD := wI mX51 0 23 (0 : Int32)
def mX53 : XD := wI mX52 0 24 (0 : Int32)
def mZ54 : XS := newA 15 mZ50 13 19
def mX55 : XD := zX mX53 15
def mX56 : XD := wI mX55 15 0 (105 : Int32)
def mX57 : XD := wI mX56 15 1 (110 : Int32)
def mX58 : XD := wI mX57 15 2 (115 : Int32)
def mX59 : XD := wI mX58 15 3 (97 : Int32)
def mX60 : XD := wI mX59 15 4 (118 : Int32)
def mX61 : XD := wI mX60 15 5 (101 : Int32)
def mX62 : XD := wI mX61 15 6 (108 : Int32)
def mX63 : XD := wI mX62 15 7 (101 : Int32)
def mX64 : XD := wI mX63 15 8 (102 : Int32)
def mX65 : XD := wI mX64 15 9 (116 : Int32)
def mX66 : XD := wI mX65 15 10 (114 : Int32)
def mX67 : XD := wI mX66 15 11 (105 : Int32)
def mX68 : XD := wI mX67 15 12 (103 : Int32)
def mX69 : XD := wI mX68 15 13 (104 : Int32)
def mX70 : XD := wI mX69 15 14 (116 : Int32)
def mX71 : XD := wI mX70 15 15 (115 : Int32)
def mX72 : XD := wI mX71 15 16 (116 : Int32)
def mX73 : XD := wI mX72 15 17 (97 : Int32)
def mX74 : XD := wI mX73 15 18 (121 : Int32)
def mZ75 : XS := stR mZ54 0 25 15
def mZ76 : XS := newA 16 mZ75 15 100
def mX77 : XD := zX mX74 16
def mZ78 : XS := stR mZ76 0 26 16
def mX79 : XD := wI mX77 0 27 (0 : Int32)
def mX80 : XD := wI mX79 0 28 (0 : Int32)
def mZ81 : XS := newA 17 mZ78 13 6
def mX82 : XD := zX mX80 17
def mZ83 : XS := stR mZ81 0 29 17
def mZ84 : XS := newA 18 mZ83 13 6
def mX85 : XD := zX mX82 18
def mZ86 : XS := stR mZ84 0 30 18
def mZ87 : XS := newA 19 mZ86 13 6
def mX88 : XD := zX mX85 19
def mZ89 : XS := stR mZ87 0 31 19
def mX90 : XD := wI mX88 0 32 (0 : Int32)
def mZ91 : XS := newA 20 mZ89 13 4
def mX92 : XD := zX mX90 20
def mZ93 : XS := stR mZ91 0 33 20
def mZ94 : XS := newA 21 mZ93 13 4
def mX95 : XD := zX mX92 21
def mZ96 : XS := stR mZ94 0 34 21
def mZ97 : XS := newA 22 mZ96 13 4
def mX98 : XD := zX mX95 22
def mZ99 : XS := stR mZ97 0 35 22
def mZ100 : XS := newA 23 mZ99 14 5
def mX101 : XD := zX mX98 23
def mZ102 : XS := stR mZ100 0 36 23
def mZ103 : XS := newA 24 mZ102 14 5
def mX104 : XD := zX mX101 24
def mZ105 : XS := stR mZ103 0 37 24
def mX106 : XD := wI mX104 0 38 (0 : Int32)
def mZ107 : XS := newA 25 mZ105 13 6
def mX108 : XD := zX mX106 25
def mZ109 : XS := stR mZ107 0 39 25
def mX110 : XD := wI mX108 0 40 (0 : Int32)
def mZ111 : XS := newA 26 mZ109 13 10
def mX112 : XD := zX mX110 26
def mZ113 : XS := stR mZ111 0 41 26
def mZ114 : XS := newA 27 mZ113 13 10
def mX115 : XD := zX mX112 27
def mZ116 : XS := stR mZ114 0 42 27
def mX117 : XD := wI mX115 0 43 (0 : Int32)
def mX118 : XD := wI mX117 0 44 (-1 : Int32)
def mX119 : XD := wI mX118 0 45 (0 : Int32)
def mX120 : XD := wI mX119 0 46 (0 : Int32)
def mX121 : XD := wI mX120 0 47 (0 : Int32)
def mX122 : XD := wI mX121 0 48 (0 : Int32)
def mX123 : XD := wI mX122 0 49 (0 : Int32)
def mX124 : XD := wI mX123 0 50 (0 : Int32)
def mZ125 : XS := newA 28 mZ116 13 6
def mX126 : XD := zX mX124 28
def mZ127 : XS := stR mZ125 0 51 28
def mZ128 : XS := newA 29 mZ127 13 6
def mX129 : XD := zX mX126 29
def mZ130 : XS := stR mZ128 0 52 29
def mZ131 : XS := newA 30 mZ130 13 6
def mX132 : XD := zX mX129 30
def mZ133 : XS := stR mZ131 0 53 30
def mZ134 : XS := newA 31 mZ133 13 6
def mX135 : XD := zX mX132 31
def mZ136 : XS := stR mZ134 0 54 31
def mZ137 : XS := newA 32 mZ136 13 6
def mX138 : XD := zX mX135 32
def mZ139 : XS := stR mZ137 0 55 32
def mZ140 : XS := newA 33 mZ139 13 24
def mX141 : XD := zX mX138 33
def mZ142 : XS := stR mZ140 0 56 33
def mZ143 : XS := newA 34 mZ142 13 4
def mX144 : XD := zX mX141 34
def mZ145 : XS := stR mZ143 0 57 34
def mZ146 : XS := newA 35 mZ145 13 6
def mX147 : XD := zX mX144 35
def mZ148 : XS := stR mZ146 0 58 35
def mZ149 : XS := newA 36 mZ148 13 10
def mX150 : XD := zX mX147 36
def mZ151 : XS := stR mZ149 0 59 36
def mZ152 : XS := newA 37 mZ151 13 10
def mX153 : XD := zX mX150 37
def mZ154 : XS := stR mZ152 0 60 37
def mX155 : XD := wI mX153 0 61 (0 : Int32)
def mZ156 : XS := newA 38 mZ154 13 20
def mX157 : XD := zX mX155 38
def mZ158 : XS := stR mZ156 0 62 38
def mZ159 : XS := newA 39 mZ158 13 6
def mX160 : XD := zX mX157 39
def mX161 : XD := wI mX160 39 0 (-1 : Int32)
def mX162 : XD := wI mX161 39 1 (-1 : Int32)
def mX163 : XD := wI mX162 39 2 (-1 : Int32)
def mX164 : XD := wI mX163 39 3 (-1 : Int32)
def mX165 : XD := wI mX164 39 4 (-1 : Int32)
def mX166 : XD := wI mX165 39 5 (-1 : Int32)
def mZ167 : XS := stR mZ159 0 63 39
def mZ168 : XS := newA 40 mZ167 13 6
def mX169 : XD := zX mX166 40
def mZ170 : XS := stR mZ168 0 64 40
def mZ171 : XS := newA 41 mZ170 14 360
def mX172 : XD := zX mX169 41
def mZ173 : XS := stR mZ171 0 65 41
def mZ174 : XS := newA 42 mZ173 14 60
def mX175 : XD := zX mX172 42
def mZ176 : XS := stR mZ174 0 66 42
set_option maxHeartbeats 40000000 in
set_option maxRecDepth 100000 in
theorem ciX12_init_46 {l : Launch} {E : XE} {w : XW} (hW : ∀ i : Nat, w.1 i = w.1 0 + i) : Ct l E w yX12_init (wsM yX12_init cX12_init 1 none) (rmX 1 42 1822) 42 1822 [.ref (w.1 0)] (w.1 (sn mZ0)) (w.1 (sn mZ176)) mZ0 mZ176 mX0 mX175 none := by
  refine ct_of (by decide) (Nat.le_of_ble_eq_true rfl) ?_
  intro p e s m args below meth c hC hr hin hav
  refine ww_lv (lv' := [(0, .ref (w.1 0))]) rfl ?_
  refine ww_aload_n (pc := 0) hC dX12_init_0 0 rfl ?_
  refine ww_objInit (pc := 1) hC ql_X12_1 qi_java_lang_Object__init_ qc_java_lang_Object__init_ dX12_init_1 ⟨Nat.le_of_ble_eq_true rfl, Nat.le_of_ble_eq_true rfl⟩ (Nat.le_of_ble_eq_true rfl) ?_
  refine ww_aload_n (pc := 4) hC dX12_init_4 0 rfl ?_
  refine ww_iconst (pc := 5) hC (v := (0 : Int32)) dX12_init_5 (by decide) ?_
  refine ww_putI (pc := 6) hC (i := 0) 12 0 ⟨by decide +kernel, by decide +kernel⟩ RX12 (by decide) (by decide) rfl qf_X12_7 rfl rfl rfl rfl dX12_init_6 ?_
  refine ww_nmX (X' := mX1) rfl ?_
  refine ww_aload_n (pc := 9) hC dX12_init_9 0 rfl ?_
  refine ww_iconst (pc := 10) hC (v := (0 : Int32)) dX12_init_10 (by decide) ?_
  refine ww_putI (pc := 11) hC (i := 0) 12 1 ⟨by decide +kernel, by decide +kernel⟩ RX12 (by decide) (by decide) rfl qf_X12_13 rfl rfl rfl rfl dX12_init_11 ?_
  refine ww_nmX (X' := mX2) rfl ?_
  refine ww_aload_n (pc := 14) hC dX12_init_14 0 rfl ?_
  refine ww_iconst (pc := 15) hC (v := (0 : Int32)) dX12_init_15 (by decide) ?_
  refine ww_putI (pc := 16) hC (i := 0) 12 2 ⟨by decide +kernel, by decide +kernel⟩ RX12 (by decide) (by decide) rfl qf_X12_16 rfl rfl rfl rfl dX12_init_16 ?_
  refine ww_nmX (X' := mX3) rfl ?_
  refine ww_aload_n (pc := 19) hC dX12_init_19 0 rfl ?_
  refine ww_bipush (pc := 20) hC (v := (6 : Int32)) dX12_init_20 (by decide) ?_
  refine ww_newa (pc := 22) hC 13 (by decide) (by decide) rfl (ct0 hW _) (n := 1) (by decide +kernel) (by decide) (N := 6) (by decide) (Z' := mZ4) rfl (X' := mX5) rfl (by decide) qy_FieldType_int dX12_init_22 (Nat.le_of_ble_eq_true rfl) (Nat.le_of_ble_eq_true rfl) ?_
  refine ww_putR (pc := 24) hC (i := 0) (t := 1) 12 3 ⟨by decide +kernel, by decide +kernel⟩ RX12 (by decide) (by decide) rfl qf_X12_19 rfl hin rfl rfl rfl rfl (Z' := mZ6) rfl dX12_init_24 ?_
  refine ww_aload_n (pc := 27) hC dX12_init_27 0 rfl ?_
  refine ww_bipush (pc := 28) hC (v := (6 : Int32)) dX12_init_28 (by decide) ?_
  refine ww_newa (pc := 30) hC 13 (by decide) (by decide) rfl (ct0 hW _) (n := 2) (by decide +kernel) (by decide) (N := 6) (by decide) (Z' := mZ7) rfl (X' := mX8) rfl (by decide) qy_FieldType_int dX12_init_30 (Nat.le_of_ble_eq_true rfl) (Nat.le_of_ble_eq_true rfl) ?_
  refine ww_putR (pc := 32) hC (i := 0) (t := 2) 12 4 ⟨by decide +kernel, by decide +kernel⟩ RX12 (by decide) (by decide) rfl qf_X12_23 rfl hin rfl rfl rfl rfl (Z' := mZ9) rfl dX12_init_32 ?_
  refine ww_aload_n (pc := 35) hC dX12_init_35 0 rfl ?_
  refine ww_bipush (pc := 36) hC (v := (6 : Int32)) dX12_init_36 (by decide) ?_
  refine ww_newa (pc := 38) hC 13 (by decide) (by decide) rfl (ct0 hW _) (n := 3) (by decide +kernel) (by decide) (N := 6) (by decide) (Z' := mZ10) rfl (X' := mX11) rfl (by decide) qy_FieldType_int dX12_init_38 (Nat.le_of_ble_eq_true rfl) (Nat.le_of_ble_eq_true rfl) ?_
  refine ww_putR (pc := 40) hC (i := 0) (t := 3) 12 5 ⟨by decide +kernel, by decide +kernel⟩ RX12 (by decide) (by decide) rfl qf_X12_26 rfl hin rfl rfl rfl rfl (Z' := mZ12) rfl dX12_init_40 ?_
  refine ww_aload_n (pc := 43) hC dX12_init_43 0 rfl ?_
  refine ww_bipush (pc := 44) hC (v := (6 : Int32)) dX12_init_44 (by decide) ?_
  refine ww_newa (pc := 46) hC 13 (by decide) (by decide) rfl (ct0 hW _) (n := 4) (by decide +kernel) (by decide) (N := 6) (by decide) (Z' := mZ13) rfl (X' := mX14) rfl (by decide) qy_FieldType_int dX12_init_46 (Nat.le_of_ble_eq_true rfl) (Nat.le_of_ble_eq_true rfl) ?_
  refine ww_putR (pc := 48) hC (i := 0) (t := 4) 12 6 ⟨by decide +kernel, by decide +kernel⟩ RX12 (by decide) (by decide) rfl qf_X12_29 rfl hin rfl rfl rfl rfl (Z' := mZ15) rfl dX12_init_48 ?_
  refine ww_aload_n (pc := 51) hC dX12_init_51 0 rfl ?_
  refine ww_bipush (pc := 52) hC (v := (6 : Int32)) dX12_init_52 (by decide) ?_
  refine ww_newa (pc := 54) hC 13 (by decide) (by decide) rfl (ct0 hW _) (n := 5) (by decide +kernel) (by decide) (N := 6) (by decide) (Z' := mZ16) rfl (X' := mX17) rfl (by decide) qy_FieldType_int dX12_init_54 (Nat.le_of_ble_eq_true rfl) (Nat.le_of_ble_eq_true rfl) ?_
  refine ww_putR (pc := 56) hC (i := 0) (t := 5) 12 7 ⟨by decide +kernel, by decide +kernel⟩ RX12 (by decide) (by decide) rfl qf_X12_32 rfl hin rfl rfl rfl rfl (Z' := mZ18) rfl dX12_init_56 ?_
  refine ww_aload_n (pc := 59) hC dX12_init_59 0 rfl ?_
  refine ww_bipush (pc := 60) hC (v := (24 : Int32)) dX12_init_60 (by decide) ?_
  refine ww_newa (pc := 62) hC 13 (by decide) (by decide) rfl (ct0 hW _) (n := 6) (by decide +kernel) (by decide) (N := 24) (by decide) (Z' := mZ19) rfl (X' := mX20) rfl (by decide) qy_FieldType_int dX12_init_62 (Nat.le_of_ble_eq_true rfl) (Nat.le_of_ble_eq_true rfl) ?_
  refine ww_putR (pc := 64) hC (i := 0) (t := 6) 12 8 ⟨by decide +kernel, by decide +kernel⟩ RX12 (by decide) (by decide) rfl qf_X12_35 rfl hin rfl rfl rfl rfl (Z' := mZ21) rfl dX12_init_64 ?_
  refine ww_aload_n (pc := 67) hC dX12_init_67 0 rfl ?_
  refine ww_iconst (pc := 68) hC (v := (0 : Int32)) dX12_init_68 (by decide) ?_
  refine ww_putI (pc := 69) hC (i := 0) 12 9 ⟨by decide +kernel, by decide +kernel⟩ RX12 (by decide) (by decide) rfl qf_X12_38 rfl rfl rfl rfl dX12_init_69 ?_
  refine ww_nmX (X' := mX22) rfl ?_
  refine ww_aload_n (pc := 72) hC dX12_init_72 0 rfl ?_
  refine ww_iconst (pc := 73) hC (v := (-1 : Int32)) dX12_init_73 (by decide) ?_
  refine ww_putI (pc := 74) hC (i := 0) 12 10 ⟨by decide +kernel, by decide +kernel⟩ RX12 (by decide) (by decide) rfl qf_X12_41 rfl rfl rfl rfl dX12_init_74 ?_
  refine ww_nmX (X' := mX23) rfl ?_
  refine ww_aload_n (pc := 77) hC dX12_init_77 0 rfl ?_
  refine ww_iconst (pc := 78) hC (v := (0 : Int32)) dX12_init_78 (by decide) ?_
  refine ww_putI (pc := 79) hC (i := 0) 12 11 ⟨by decide +kernel, by decide +kernel⟩ RX12 (by decide) (by decide) rfl qf_X12_44 rfl rfl rfl rfl dX12_init_79 ?_
  refine ww_nmX (X' := mX24) rfl ?_
  refine ww_aload_n (pc := 82) hC dX12_init_82 0 rfl ?_
  refine ww_iconst (pc := 83) hC (v := (0 : Int32)) dX12_init_83 (by decide) ?_
  refine ww_putI (pc := 84) hC (i := 0) 12 12 ⟨by decide +kernel, by decide +kernel⟩ RX12 (by decide) (by decide) rfl qf_X12_47 rfl rfl rfl rfl dX12_init_84 ?_
  refine ww_nmX (X' := mX25) rfl ?_
  refine ww_aload_n (pc := 87) hC dX12_init_87 0 rfl ?_
  refine ww_iconst (pc := 88) hC (v := (0 : Int32)) dX12_init_88 (by decide) ?_
  refine ww_putI (pc := 89) hC (i := 0) 12 13 ⟨by decide +kernel, by decide +kernel⟩ RX12 (by decide) (by decide) rfl qf_X12_50 rfl rfl rfl rfl dX12_init_89 ?_
  refine ww_nmX (X' := mX26) rfl ?_
  refine ww_aload_n (pc := 92) hC dX12_init_92 0 rfl ?_
  refine ww_bipush (pc := 93) hC (v := (100 : Int32)) dX12_init_93 (by decide) ?_
  refine ww_newa (pc := 95) hC 13 (by decide) (by decide) rfl (ct0 hW _) (n := 7) (by decide +kernel) (by decide) (N := 100) (by decide) (Z' := mZ27) rfl (X' := mX28) rfl (by decide) qy_FieldType_int dX12_init_95 (Nat.le_of_ble_eq_true rfl) (Nat.le_of_ble_eq_true rfl) ?_
  refine ww_putR (pc := 97) hC (i := 0) (t := 7) 12 14 ⟨by decide +kernel, by decide +kernel⟩ RX12 (by decide) (by decide) rfl qf_X12_53 rfl hin rfl rfl rfl rfl (Z' := mZ29) rfl dX12_init_97 ?_
  refine ww_aload_n (pc := 100) hC dX12_init_100 0 rfl ?_
  refine ww_bipush (pc := 101) hC (v := (6 : Int32)) dX12_init_101 (by decide) ?_
  refine ww_newa (pc := 103) hC 13 (by decide) (by decide) rfl (ct0 hW _) (n := 8) (by decide +kernel) (by decide) (N := 6) (by decide) (Z' := mZ30) rfl (X' := mX31) rfl (by decide) qy_FieldType_int dX12_init_103 (Nat.le_of_ble_eq_true rfl) (Nat.le_of_ble_eq_true rfl) ?_
  refine ww_putR (pc := 105) hC (i := 0) (t := 8) 12 15 ⟨by decide +kernel, by decide +kernel⟩ RX12 (by decide) (by decide) rfl qf_X12_56 rfl hin rfl rfl rfl rfl (Z' := mZ32) rfl dX12_init_105 ?_
  refine ww_aload_n (pc := 108) hC dX12_init_108 0 rfl ?_
  refine ww_bipush (pc := 109) hC (v := (60 : Int32)) dX12_init_109 (by decide) ?_
  refine ww_newa (pc := 111) hC 13 (by decide) (by decide) rfl (ct0 hW _) (n := 9) (by decide +kernel) (by decide) (N := 60) (by decide) (Z' := mZ33) rfl (X' := mX34) rfl (by decide) qy_FieldType_int dX12_init_111 (Nat.le_of_ble_eq_true rfl) (Nat.le_of_ble_eq_true rfl) ?_
  refine ww_putR (pc := 113) hC (i := 0) (t := 9) 12 16 ⟨by decide +kernel, by decide +kernel⟩ RX12 (by decide) (by decide) rfl qf_X12_59 rfl hin rfl rfl rfl rfl (Z' := mZ35) rfl dX12_init_113 ?_
  refine ww_aload_n (pc := 116) hC dX12_init_116 0 rfl ?_
  refine ww_bipush (pc := 117) hC (v := (60 : Int32)) dX12_init_117 (by decide) ?_
  refine ww_newa (pc := 119) hC 13 (by decide) (by decide) rfl (ct0 hW _) (n := 10) (by decide +kernel) (by decide) (N := 60) (by decide) (Z' := mZ36) rfl (X' := mX37) rfl (by decide) qy_FieldType_int dX12_init_119 (Nat.le_of_ble_eq_true rfl) (Nat.le_of_ble_eq_true rfl) ?_
  refine ww_putR (pc := 121) hC (i := 0) (t := 10) 12 17 ⟨by decide +kernel, by decide +kernel⟩ RX12 (by decide) (by decide) rfl qf_X12_62 rfl hin rfl rfl rfl rfl (Z' := mZ38) rfl dX12_init_121 ?_
  refine ww_aload_n (pc := 124) hC dX12_init_124 0 rfl ?_
  refine ww_bipush (pc := 125) hC (v := (60 : Int32)) dX12_init_125 (by decide) ?_
  refine ww_newa (pc := 127) hC 13 (by decide) (by decide) rfl (ct0 hW _) (n := 11) (by decide +kernel) (by decide) (N := 60) (by decide) (Z' := mZ39) rfl (X' := mX40) rfl (by decide) qy_FieldType_int dX12_init_127 (Nat.le_of_ble_eq_true rfl) (Nat.le_of_ble_eq_true rfl) ?_
  refine ww_putR (pc := 129) hC (i := 0) (t := 11) 12 18 ⟨by decide +kernel, by decide +kernel⟩ RX12 (by decide) (by decide) rfl qf_X12_65 rfl hin rfl rfl rfl rfl (Z' := mZ41) rfl dX12_init_129 ?_
  refine ww_aload_n (pc := 132) hC dX12_init_132 0 rfl ?_
  refine ww_bipush (pc := 133) hC (v := (60 : Int32)) dX12_init_133 (by decide) ?_
  refine ww_newa (pc := 135) hC 13 (by decide) (by decide) rfl (ct0 hW _) (n := 12) (by decide +kernel) (by decide) (N := 60) (by decide) (Z' := mZ42) rfl (X' := mX43) rfl (by decide) qy_FieldType_int dX12_init_135 (Nat.le_of_ble_eq_true rfl) (Nat.le_of_ble_eq_true rfl) ?_
  refine ww_putR (pc := 137) hC (i := 0) (t := 12) 12 19 ⟨by decide +kernel, by decide +kernel⟩ RX12 (by decide) (by decide) rfl qf_X12_68 rfl hin rfl rfl rfl rfl (Z' := mZ44) rfl dX12_init_137 ?_
  refine ww_aload_n (pc := 140) hC dX12_init_140 0 rfl ?_
  refine ww_sipush (pc := 141) hC (v := (600 : Int32)) dX12_init_141 (by decide) ?_
  refine ww_newa (pc := 144) hC 13 (by decide) (by decide) rfl (ct0 hW _) (n := 13) (by decide +kernel) (by decide) (N := 600) (by decide) (Z' := mZ45) rfl (X' := mX46) rfl (by decide) qy_FieldType_int dX12_init_144 (Nat.le_of_ble_eq_true rfl) (Nat.le_of_ble_eq_true rfl) ?_
  refine ww_putR (pc := 146) hC (i := 0) (t := 13) 12 20 ⟨by decide +kernel, by decide +kernel⟩ RX12 (by decide) (by decide) rfl qf_X12_71 rfl hin rfl rfl rfl rfl (Z' := mZ47) rfl dX12_init_146 ?_
  refine ww_aload_n (pc := 149) hC dX12_init_149 0 rfl ?_
  refine ww_bipush (pc := 150) hC (v := (101 : Int32)) dX12_init_150 (by decide) ?_
  refine ww_newa (pc := 152) hC 13 (by decide) (by decide) rfl (ct0 hW _) (n := 14) (by decide +kernel) (by decide) (N := 101) (by decide) (Z' := mZ48) rfl (X' := mX49) rfl (by decide) qy_FieldType_int dX12_init_152 (Nat.le_of_ble_eq_true rfl) (Nat.le_of_ble_eq_true rfl) ?_
  refine ww_putR (pc := 154) hC (i := 0) (t := 14) 12 21 ⟨by decide +kernel, by decide +kernel⟩ RX12 (by decide) (by decide) rfl qf_X12_74 rfl hin rfl rfl rfl rfl (Z' := mZ50) rfl dX12_init_154 ?_
  refine ww_aload_n (pc := 157) hC dX12_init_157 0 rfl ?_
  refine ww_iconst (pc := 158) hC (v := (0 : Int32)) dX12_init_158 (by decide) ?_
  refine ww_putI (pc := 159) hC (i := 0) 12 22 ⟨by decide +kernel, by decide +kernel⟩ RX12 (by decide) (by decide) rfl qf_X12_77 rfl rfl rfl rfl dX12_init_159 ?_
  refine ww_nmX (X' := mX51) rfl ?_
  refine ww_aload_n (pc := 162) hC dX12_init_162 0 rfl ?_
  refine ww_iconst (pc := 163) hC (v := (0 : Int32)) dX12_init_163 (by decide) ?_
  refine ww_putI (pc := 164) hC (i := 0) 12 23 ⟨by decide +kernel, by decide +kernel⟩ RX12 (by decide) (by decide) rfl qf_X12_80 rfl rfl rfl rfl dX12_init_164 ?_
  refine ww_nmX (X' := mX52) rfl ?_
  refine ww_aload_n (pc := 167) hC dX12_init_167 0 rfl ?_
  refine ww_iconst (pc := 168) hC (v := (0 : Int32)) dX12_init_168 (by decide) ?_
  refine ww_putI (pc := 169) hC (i := 0) 12 24 ⟨by decide +kernel, by decide +kernel⟩ RX12 (by decide) (by decide) rfl qf_X12_83 rfl rfl rfl rfl dX12_init_169 ?_
  refine ww_nmX (X' := mX53) rfl ?_
  refine ww_aload_n (pc := 172) hC dX12_init_172 0 rfl ?_
  refine ww_bipush (pc := 173) hC (v := (19 : Int32)) dX12_init_173 (by decide) ?_
  refine ww_newa (pc := 175) hC 13 (by decide) (by decide) rfl (ct0 hW _) (n := 15) (by decide +kernel) (by decide) (N := 19) (by decide) (Z' := mZ54) rfl (X' := mX55) rfl (by decide) qy_FieldType_int dX12_init_175 (Nat.le_of_ble_eq_true rfl) (Nat.le_of_ble_eq_true rfl) ?_
  refine ww_dup (pc := 177) hC dX12_init_177 rfl ?_
  refine ww_iconst (pc := 178) hC (v := (0 : Int32)) dX12_init_178 (by decide) ?_
  refine ww_bipush (pc := 179) hC (v := (105 : Int32)) dX12_init_179 (by decide) ?_
  refine ww_iast (pc := 181) hC (i := 15) (n := 19) (α := Unit) (f := some ()) (r := ()) ⟨by decide +kernel, by decide +kernel, by decide +kernel⟩ (by decide) dX12_init_181 (fun _ => ?_)
  refine ww_nmX (X' := mX56) rfl ?_
  refine ww_dup (pc := 182) hC dX12_init_182 rfl ?_
  refine ww_iconst (pc := 183) hC (v := (1 : Int32)) dX12_init_183 (by decide) ?_
  refine ww_bipush (pc := 184) hC (v := (110 : Int32)) dX12_init_184 (by decide) ?_
  refine ww_iast (pc := 186) hC (i := 15) (n := 19) (α := Unit) (f := some ()) (r := ()) ⟨by decide +kernel, by decide +kernel, by decide +kernel⟩ (by decide) dX12_init_186 (fun _ => ?_)
  refine ww_nmX (X' := mX57) rfl ?_
  refine ww_dup (pc := 187) hC dX12_init_187 rfl ?_
  refine ww_iconst (pc := 188) hC (v := (2 : Int32)) dX12_init_188 (by decide) ?_
  refine ww_bipush (pc := 189) hC (v := (115 : Int32)) dX12_init_189 (by decide) ?_
  refine ww_iast (pc := 191) hC (i := 15) (n := 19) (α := Unit) (f := some ()) (r := ()) ⟨by decide +kernel, by decide +kernel, by decide +kernel⟩ (by decide) dX12_init_191 (fun _ => ?_)
  refine ww_nmX (X' := mX58) rfl ?_
  refine ww_dup (pc := 192) hC dX12_init_192 rfl ?_
  refine ww_iconst (pc := 193) hC (v := (3 : Int32)) dX12_init_193 (by decide) ?_
  refine ww_bipush (pc := 194) hC (v := (97 : Int32)) dX12_init_194 (by decide) ?_
  refine ww_iast (pc := 196) hC (i := 15) (n := 19) (α := Unit) (f := some ()) (r := ()) ⟨by decide +kernel, by decide +kernel, by decide +kernel⟩ (by decide) dX12_init_196 (fun _ => ?_)
  refine ww_nmX (X' := mX59) rfl ?_
  refine ww_dup (pc := 197) hC dX12_init_197 rfl ?_
  refine ww_iconst (pc := 198) hC (v := (4 : Int32)) dX12_init_198 (by decide) ?_
  refine ww_bipush (pc := 199) hC (v := (118 : Int32)) dX12_init_199 (by decide) ?_
  refine ww_iast (pc := 201) hC (i := 15) (n := 19) (α := Unit) (f := some ()) (r := ()) ⟨by decide +kernel, by decide +kernel, by decide +kernel⟩ (by decide) dX12_init_201 (fun _ => ?_)
  refine ww_nmX (X' := mX60) rfl ?_
  refine ww_dup (pc := 202) hC dX12_init_202 rfl ?_
  refine ww_iconst (pc := 203) hC (v := (5 : Int32)) dX12_init_203 (by decide) ?_
  refine ww_bipush (pc := 204) hC (v := (101 : Int32)) dX12_init_204 (by decide) ?_
  refine ww_iast (pc := 206) hC (i := 15) (n := 19) (α := Unit) (f := some ()) (r := ()) ⟨by decide +kernel, by decide +kernel, by decide +kernel⟩ (by decide) dX12_init_206 (fun _ => ?_)
  refine ww_nmX (X' := mX61) rfl ?_
  refine ww_dup (pc := 207) hC dX12_init_207 rfl ?_
  refine ww_bipush (pc := 208) hC (v := (6 : Int32)) dX12_init_208 (by decide) ?_
  refine ww_bipush (pc := 210) hC (v := (108 : Int32)) dX12_init_210 (by decide) ?_
  refine ww_iast (pc := 212) hC (i := 15) (n := 19) (α := Unit) (f := some ()) (r := ()) ⟨by decide +kernel, by decide +kernel, by decide +kernel⟩ (by decide) dX12_init_212 (fun _ => ?_)
  refine ww_nmX (X' := mX62) rfl ?_
  refine ww_dup (pc := 213) hC dX12_init_213 rfl ?_
  refine ww_bipush (pc := 214) hC (v := (7 : Int32)) dX12_init_214 (by decide) ?_
  refine ww_bipush (pc := 216) hC (v := (101 : Int32)) dX12_init_216 (by decide) ?_
  refine ww_iast (pc := 218) hC (i := 15) (n := 19) (α := Unit) (f := some ()) (r := ()) ⟨by decide +kernel, by decide +kernel, by decide +kernel⟩ (by decide) dX12_init_218 (fun _ => ?_)
  refine ww_nmX (X' := mX63) rfl ?_
  refine ww_dup (pc := 219) hC dX12_init_219 rfl ?_
  refine ww_bipush (pc := 220) hC (v := (8 : Int32)) dX12_init_220 (by decide) ?_
  refine ww_bipush (pc := 222) hC (v := (102 : Int32)) dX12_init_222 (by decide) ?_
  refine ww_iast (pc := 224) hC (i := 15) (n := 19) (α := Unit) (f := some ()) (r := ()) ⟨by decide +kernel, by decide +kernel, by decide +kernel⟩ (by decide) dX12_init_224 (fun _ => ?_)
  refine ww_nmX (X' := mX64) rfl ?_
  refine ww_dup (pc := 225) hC dX12_init_225 rfl ?_
  refine ww_bipush (pc := 226) hC (v := (9 : Int32)) dX12_init_226 (by decide) ?_
  refine ww_bipush (pc := 228) hC (v := (116 : Int32)) dX12_init_228 (by decide) ?_
  refine ww_iast (pc := 230) hC (i := 15) (n := 19) (α := Unit) (f := some ()) (r := ()) ⟨by decide +kernel, by decide +kernel, by decide +kernel⟩ (by decide) dX12_init_230 (fun _ => ?_)
  refine ww_nmX (X' := mX65) rfl ?_
  refine ww_dup (pc := 231) hC dX12_init_231 rfl ?_
  refine ww_bipush (pc := 232) hC (v := (10 : Int32)) dX12_init_232 (by decide) ?_
  refine ww_bipush (pc := 234) hC (v := (114 : Int32)) dX12_init_234 (by decide) ?_
  refine ww_iast (pc := 236) hC (i := 15) (n := 19) (α := Unit) (f := some ()) (r := ()) ⟨by decide +kernel, by decide +kernel, by decide +kernel⟩ (by decide) dX12_init_236 (fun _ => ?_)
  refine ww_nmX (X' := mX66) rfl ?_
  refine ww_dup (pc := 237) hC dX12_init_237 rfl ?_
  refine ww_bipush (pc := 238) hC (v := (11 : Int32)) dX12_init_238 (by decide) ?_
  refine ww_bipush (pc := 240) hC (v := (105 : Int32)) dX12_init_240 (by decide) ?_
  refine ww_iast (pc := 242) hC (i := 15) (n := 19) (α := Unit) (f := some ()) (r := ()) ⟨by decide +kernel, by decide +kernel, by decide +kernel⟩ (by decide) dX12_init_242 (fun _ => ?_)
  refine ww_nmX (X' := mX67) rfl ?_
  refine ww_dup (pc := 243) hC dX12_init_243 rfl ?_
  refine ww_bipush (pc := 244) hC (v := (12 : Int32)) dX12_init_244 (by decide) ?_
  refine ww_bipush (pc := 246) hC (v := (103 : Int32)) dX12_init_246 (by decide) ?_
  refine ww_iast (pc := 248) hC (i := 15) (n := 19) (α := Unit) (f := some ()) (r := ()) ⟨by decide +kernel, by decide +kernel, by decide +kernel⟩ (by decide) dX12_init_248 (fun _ => ?_)
  refine ww_nmX (X' := mX68) rfl ?_
  refine ww_dup (pc := 249) hC dX12_init_249 rfl ?_
  refine ww_bipush (pc := 250) hC (v := (13 : Int32)) dX12_init_250 (by decide) ?_
  refine ww_bipush (pc := 252) hC (v := (104 : Int32)) dX12_init_252 (by decide) ?_
  refine ww_iast (pc := 254) hC (i := 15) (n := 19) (α := Unit) (f := some ()) (r := ()) ⟨by decide +kernel, by decide +kernel, by decide +kernel⟩ (by decide) dX12_init_254 (fun _ => ?_)
  refine ww_nmX (X' := mX69) rfl ?_
  refine ww_dup (pc := 255) hC dX12_init_255 rfl ?_
  refine ww_bipush (pc := 256) hC (v := (14 : Int32)) dX12_init_256 (by decide) ?_
  refine ww_bipush (pc := 258) hC (v := (116 : Int32)) dX12_init_258 (by decide) ?_
  refine ww_iast (pc := 260) hC (i := 15) (n := 19) (α := Unit) (f := some ()) (r := ()) ⟨by decide +kernel, by decide +kernel, by decide +kernel⟩ (by decide) dX12_init_260 (fun _ => ?_)
  refine ww_nmX (X' := mX70) rfl ?_
  refine ww_dup (pc := 261) hC dX12_init_261 rfl ?_
  refine ww_bipush (pc := 262) hC (v := (15 : Int32)) dX12_init_262 (by decide) ?_
  refine ww_bipush (pc := 264) hC (v := (115 : Int32)) dX12_init_264 (by decide) ?_
  refine ww_iast (pc := 266) hC (i := 15) (n := 19) (α := Unit) (f := some ()) (r := ()) ⟨by decide +kernel, by decide +kernel, by decide +kernel⟩ (by decide) dX12_init_266 (fun _ => ?_)
  refine ww_nmX (X' := mX71) rfl ?_
  refine ww_dup (pc := 267) hC dX12_init_267 rfl ?_
  refine ww_bipush (pc := 268) hC (v := (16 : Int32)) dX12_init_268 (by decide) ?_
  refine ww_bipush (pc := 270) hC (v := (116 : Int32)) dX12_init_270 (by decide) ?_
  refine ww_iast (pc := 272) hC (i := 15) (n := 19) (α := Unit) (f := some ()) (r := ()) ⟨by decide +kernel, by decide +kernel, by decide +kernel⟩ (by decide) dX12_init_272 (fun _ => ?_)
  refine ww_nmX (X' := mX72) rfl ?_
  refine ww_dup (pc := 273) hC dX12_init_273 rfl ?_
  refine ww_bipush (pc := 274) hC (v := (17 : Int32)) dX12_init_274 (by decide) ?_
  refine ww_bipush (pc := 276) hC (v := (97 : Int32)) dX12_init_276 (by decide) ?_
  refine ww_iast (pc := 278) hC (i := 15) (n := 19) (α := Unit) (f := some ()) (r := ()) ⟨by decide +kernel, by decide +kernel, by decide +kernel⟩ (by decide) dX12_init_278 (fun _ => ?_)
  refine ww_nmX (X' := mX73) rfl ?_
  refine ww_dup (pc := 279) hC dX12_init_279 rfl ?_
  refine ww_bipush (pc := 280) hC (v := (18 : Int32)) dX12_init_280 (by decide) ?_
  refine ww_bipush (pc := 282) hC (v := (121 : Int32)) dX12_init_282 (by decide) ?_
  refine ww_iast (pc := 284) hC (i := 15) (n := 19) (α := Unit) (f := some ()) (r := ()) ⟨by decide +kernel, by decide +kernel, by decide +kernel⟩ (by decide) dX12_init_284 (fun _ => ?_)
  refine ww_nmX (X' := mX74) rfl ?_
  refine ww_putR (pc := 285) hC (i := 0) (t := 15) 12 25 ⟨by decide +kernel, by decide +kernel⟩ RX12 (by decide) (by decide) rfl qf_X12_86 rfl hin rfl rfl rfl rfl (Z' := mZ75) rfl dX12_init_285 ?_
  refine ww_aload_n (pc := 288) hC dX12_init_288 0 rfl ?_
  refine ww_bipush (pc := 289) hC (v := (100 : Int32)) dX12_init_289 (by decide) ?_
  refine ww_newa (pc := 291) hC 15 (by decide) (by decide) rfl (ct0 hW _) (n := 16) (by decide +kernel) (by decide) (N := 100) (by decide) (Z' := mZ76) rfl (X' := mX77) rfl (by decide) qy_FieldType_boolean dX12_init_291 (Nat.le_of_ble_eq_true rfl) (Nat.le_of_ble_eq_true rfl) ?_
  refine ww_putR (pc := 293) hC (i := 0) (t := 16) 12 26 ⟨by decide +kernel, by decide +kernel⟩ RX12 (by decide) (by decide) rfl qf_X12_89 rfl hin rfl rfl rfl rfl (Z' := mZ78) rfl dX12_init_293 ?_
  refine ww_aload_n (pc := 296) hC dX12_init_296 0 rfl ?_
  refine ww_iconst (pc := 297) hC (v := (0 : Int32)) dX12_init_297 (by decide) ?_
  refine ww_putI (pc := 298) hC (i := 0) 12 27 ⟨by decide +kernel, by decide +kernel⟩ RX12 (by decide) (by decide) rfl qf_X12_93 rfl rfl rfl rfl dX12_init_298 ?_
  refine ww_nmX (X' := mX79) rfl ?_
  refine ww_aload_n (pc := 301) hC dX12_init_301 0 rfl ?_
  refine ww_iconst (pc := 302) hC (v := (0 : Int32)) dX12_init_302 (by decide) ?_
  refine ww_putI (pc := 303) hC (i := 0) 12 28 ⟨by decide +kernel, by decide +kernel⟩ RX12 (by decide) (by decide) rfl qf_X12_96 rfl rfl rfl rfl dX12_init_303 ?_
  refine ww_nmX (X' := mX80) rfl ?_
  refine ww_aload_n (pc := 306) hC dX12_init_306 0 rfl ?_
  refine ww_bipush (pc := 307) hC (v := (6 : Int32)) dX12_init_307 (by decide) ?_
  refine ww_newa (pc := 309) hC 13 (by decide) (by decide) rfl (ct0 hW _) (n := 17) (by decide +kernel) (by decide) (N := 6) (by decide) (Z' := mZ81) rfl (X' := mX82) rfl (by decide) qy_FieldType_int dX12_init_309 (Nat.le_of_ble_eq_true rfl) (Nat.le_of_ble_eq_true rfl) ?_
  refine ww_putR (pc := 311) hC (i := 0) (t := 17) 12 29 ⟨by decide +kernel, by decide +kernel⟩ RX12 (by decide) (by decide) rfl qf_X12_99 rfl hin rfl rfl rfl rfl (Z' := mZ83) rfl dX12_init_311 ?_
  refine ww_aload_n (pc := 314) hC dX12_init_314 0 rfl ?_
  refine ww_bipush (pc := 315) hC (v := (6 : Int32)) dX12_init_315 (by decide) ?_
  refine ww_newa (pc := 317) hC 13 (by decide) (by decide) rfl (ct0 hW _) (n := 18) (by decide +kernel) (by decide) (N := 6) (by decide) (Z' := mZ84) rfl (X' := mX85) rfl (by decide) qy_FieldType_int dX12_init_317 (Nat.le_of_ble_eq_true rfl) (Nat.le_of_ble_eq_true rfl) ?_
  refine ww_putR (pc := 319) hC (i := 0) (t := 18) 12 30 ⟨by decide +kernel, by decide +kernel⟩ RX12 (by decide) (by decide) rfl qf_X12_102 rfl hin rfl rfl rfl rfl (Z' := mZ86) rfl dX12_init_319 ?_
  refine ww_aload_n (pc := 322) hC dX12_init_322 0 rfl ?_
  refine ww_bipush (pc := 323) hC (v := (6 : Int32)) dX12_init_323 (by decide) ?_
  refine ww_newa (pc := 325) hC 13 (by decide) (by decide) rfl (ct0 hW _) (n := 19) (by decide +kernel) (by decide) (N := 6) (by decide) (Z' := mZ87) rfl (X' := mX88) rfl (by decide) qy_FieldType_int dX12_init_325 (Nat.le_of_ble_eq_true rfl) (Nat.le_of_ble_eq_true rfl) ?_
  refine ww_putR (pc := 327) hC (i := 0) (t := 19) 12 31 ⟨by decide +kernel, by decide +kernel⟩ RX12 (by decide) (by decide) rfl qf_X12_105 rfl hin rfl rfl rfl rfl (Z' := mZ89) rfl dX12_init_327 ?_
  refine ww_aload_n (pc := 330) hC dX12_init_330 0 rfl ?_
  refine ww_iconst (pc := 331) hC (v := (0 : Int32)) dX12_init_331 (by decide) ?_
  refine ww_putI (pc := 332) hC (i := 0) 12 32 ⟨by decide +kernel, by decide +kernel⟩ RX12 (by decide) (by decide) rfl qf_X12_108 rfl rfl rfl rfl dX12_init_332 ?_
  refine ww_nmX (X' := mX90) rfl ?_
  refine ww_aload_n (pc := 335) hC dX12_init_335 0 rfl ?_
  refine ww_iconst (pc := 336) hC (v := (4 : Int32)) dX12_init_336 (by decide) ?_
  refine ww_newa (pc := 337) hC 13 (by decide) (by decide) rfl (ct0 hW _) (n := 20) (by decide +kernel) (by decide) (N := 4) (by decide) (Z' := mZ91) rfl (X' := mX92) rfl (by decide) qy_FieldType_int dX12_init_337 (Nat.le_of_ble_eq_true rfl) (Nat.le_of_ble_eq_true rfl) ?_
  refine ww_putR (pc := 339) hC (i := 0) (t := 20) 12 33 ⟨by decide +kernel, by decide +kernel⟩ RX12 (by decide) (by decide) rfl qf_X12_111 rfl hin rfl rfl rfl rfl (Z' := mZ93) rfl dX12_init_339 ?_
  refine ww_aload_n (pc := 342) hC dX12_init_342 0 rfl ?_
  refine ww_iconst (pc := 343) hC (v := (4 : Int32)) dX12_init_343 (by decide) ?_
  refine ww_newa (pc := 344) hC 13 (by decide) (by decide) rfl (ct0 hW _) (n := 21) (by decide +kernel) (by decide) (N := 4) (by decide) (Z' := mZ94) rfl (X' := mX95) rfl (by decide) qy_FieldType_int dX12_init_344 (Nat.le_of_ble_eq_true rfl) (Nat.le_of_ble_eq_true rfl) ?_
  refine ww_putR (pc := 346) hC (i := 0) (t := 21) 12 34 ⟨by decide +kernel, by decide +kernel⟩ RX12 (by decide) (by decide) rfl qf_X12_114 rfl hin rfl rfl rfl rfl (Z' := mZ96) rfl dX12_init_346 ?_
  refine ww_aload_n (pc := 349) hC dX12_init_349 0 rfl ?_
  refine ww_iconst (pc := 350) hC (v := (4 : Int32)) dX12_init_350 (by decide) ?_
  refine ww_newa (pc := 351) hC 13 (by decide) (by decide) rfl (ct0 hW _) (n := 22) (by decide +kernel) (by decide) (N := 4) (by decide) (Z' := mZ97) rfl (X' := mX98) rfl (by decide) qy_FieldType_int dX12_init_351 (Nat.le_of_ble_eq_true rfl) (Nat.le_of_ble_eq_true rfl) ?_
  refine ww_putR (pc := 353) hC (i := 0) (t := 22) 12 35 ⟨by decide +kernel, by decide +kernel⟩ RX12 (by decide) (by decide) rfl qf_X12_117 rfl hin rfl rfl rfl rfl (Z' := mZ99) rfl dX12_init_353 ?_
  refine ww_aload_n (pc := 356) hC dX12_init_356 0 rfl ?_
  refine ww_iconst (pc := 357) hC (v := (5 : Int32)) dX12_init_357 (by decide) ?_
  refine ww_newa (pc := 358) hC 14 (by decide) (by decide) rfl (ct0 hW _) (n := 23) (by decide +kernel) (by decide) (N := 5) (by decide) (Z' := mZ100) rfl (X' := mX101) rfl (by decide) qy_FieldType_long dX12_init_358 (Nat.le_of_ble_eq_true rfl) (Nat.le_of_ble_eq_true rfl) ?_
  refine ww_putR (pc := 360) hC (i := 0) (t := 23) 12 36 ⟨by decide +kernel, by decide +kernel⟩ RX12 (by decide) (by decide) rfl qf_X12_120 rfl hin rfl rfl rfl rfl (Z' := mZ102) rfl dX12_init_360 ?_
  refine ww_aload_n (pc := 363) hC dX12_init_363 0 rfl ?_
  refine ww_iconst (pc := 364) hC (v := (5 : Int32)) dX12_init_364 (by decide) ?_
  refine ww_newa (pc := 365) hC 14 (by decide) (by decide) rfl (ct0 hW _) (n := 24) (by decide +kernel) (by decide) (N := 5) (by decide) (Z' := mZ103) rfl (X' := mX104) rfl (by decide) qy_FieldType_long dX12_init_365 (Nat.le_of_ble_eq_true rfl) (Nat.le_of_ble_eq_true rfl) ?_
  refine ww_putR (pc := 367) hC (i := 0) (t := 24) 12 37 ⟨by decide +kernel, by decide +kernel⟩ RX12 (by decide) (by decide) rfl qf_X12_124 rfl hin rfl rfl rfl rfl (Z' := mZ105) rfl dX12_init_367 ?_
  refine ww_aload_n (pc := 370) hC dX12_init_370 0 rfl ?_
  refine ww_iconst (pc := 371) hC (v := (0 : Int32)) dX12_init_371 (by decide) ?_
  refine ww_putI (pc := 372) hC (i := 0) 12 38 ⟨by decide +kernel, by decide +kernel⟩ RX12 (by decide) (by decide) rfl qf_X12_127 rfl rfl rfl rfl dX12_init_372 ?_
  refine ww_nmX (X' := mX106) rfl ?_
  refine ww_aload_n (pc := 375) hC dX12_init_375 0 rfl ?_
  refine ww_bipush (pc := 376) hC (v := (6 : Int32)) dX12_init_376 (by decide) ?_
  refine ww_newa (pc := 378) hC 13 (by decide) (by decide) rfl (ct0 hW _) (n := 25) (by decide +kernel) (by decide) (N := 6) (by decide) (Z' := mZ107) rfl (X' := mX108) rfl (by decide) qy_FieldType_int dX12_init_378 (Nat.le_of_ble_eq_true rfl) (Nat.le_of_ble_eq_true rfl) ?_
  refine ww_putR (pc := 380) hC (i := 0) (t := 25) 12 39 ⟨by decide +kernel, by decide +kernel⟩ RX12 (by decide) (by decide) rfl qf_X12_130 rfl hin rfl rfl rfl rfl (Z' := mZ109) rfl dX12_init_380 ?_
  refine ww_aload_n (pc := 383) hC dX12_init_383 0 rfl ?_
  refine ww_iconst (pc := 384) hC (v := (0 : Int32)) dX12_init_384 (by decide) ?_
  refine ww_putI (pc := 385) hC (i := 0) 12 40 ⟨by decide +kernel, by decide +kernel⟩ RX12 (by decide) (by decide) rfl qf_X12_133 rfl rfl rfl rfl dX12_init_385 ?_
  refine ww_nmX (X' := mX110) rfl ?_
  refine ww_aload_n (pc := 388) hC dX12_init_388 0 rfl ?_
  refine ww_bipush (pc := 389) hC (v := (10 : Int32)) dX12_init_389 (by decide) ?_
  refine ww_newa (pc := 391) hC 13 (by decide) (by decide) rfl (ct0 hW _) (n := 26) (by decide +kernel) (by decide) (N := 10) (by decide) (Z' := mZ111) rfl (X' := mX112) rfl (by decide) qy_FieldType_int dX12_init_391 (Nat.le_of_ble_eq_true rfl) (Nat.le_of_ble_eq_true rfl) ?_
  refine ww_putR (pc := 393) hC (i := 0) (t := 26) 12 41 ⟨by decide +kernel, by decide +kernel⟩ RX12 (by decide) (by decide) rfl qf_X12_136 rfl hin rfl rfl rfl rfl (Z' := mZ113) rfl dX12_init_393 ?_
  refine ww_aload_n (pc := 396) hC dX12_init_396 0 rfl ?_
  refine ww_bipush (pc := 397) hC (v := (10 : Int32)) dX12_init_397 (by decide) ?_
  refine ww_newa (pc := 399) hC 13 (by decide) (by decide) rfl (ct0 hW _) (n := 27) (by decide +kernel) (by decide) (N := 10) (by decide) (Z' := mZ114) rfl (X' := mX115) rfl (by decide) qy_FieldType_int dX12_init_399 (Nat.le_of_ble_eq_true rfl) (Nat.le_of_ble_eq_true rfl) ?_
  refine ww_putR (pc := 401) hC (i := 0) (t := 27) 12 42 ⟨by decide +kernel, by decide +kernel⟩ RX12 (by decide) (by decide) rfl qf_X12_139 rfl hin rfl rfl rfl rfl (Z' := mZ116) rfl dX12_init_401 ?_
  refine ww_aload_n (pc := 404) hC dX12_init_404 0 rfl ?_
  refine ww_iconst (pc := 405) hC (v := (0 : Int32)) dX12_init_405 (by decide) ?_
  refine ww_putI (pc := 406) hC (i := 0) 12 43 ⟨by decide +kernel, by decide +kernel⟩ RX12 (by decide) (by decide) rfl qf_X12_142 rfl rfl rfl rfl dX12_init_406 ?_
  refine ww_nmX (X' := mX117) rfl ?_
  refine ww_aload_n (pc := 409) hC dX12_init_409 0 rfl ?_
  refine ww_iconst (pc := 410) hC (v := (-1 : Int32)) dX12_init_410 (by decide) ?_
  refine ww_putI (pc := 411) hC (i := 0) 12 44 ⟨by decide +kernel, by decide +kernel⟩ RX12 (by decide) (by decide) rfl qf_X12_146 rfl rfl rfl rfl dX12_init_411 ?_
  refine ww_nmX (X' := mX118) rfl ?_
  refine ww_aload_n (pc := 414) hC dX12_init_414 0 rfl ?_
  refine ww_iconst (pc := 415) hC (v := (0 : Int32)) dX12_init_415 (by decide) ?_
  refine ww_putI (pc := 416) hC (i := 0) 12 45 ⟨by decide +kernel, by decide +kernel⟩ RX12 (by decide) (by decide) rfl qf_X12_149 rfl rfl rfl rfl dX12_init_416 ?_
  refine ww_nmX (X' := mX119) rfl ?_
  refine ww_aload_n (pc := 419) hC dX12_init_419 0 rfl ?_
  refine ww_iconst (pc := 420) hC (v := (0 : Int32)) dX12_init_420 (by decide) ?_
  refine ww_putI (pc := 421) hC (i := 0) 12 46 ⟨by decide +kernel, by decide +kernel⟩ RX12 (by decide) (by decide) rfl qf_X12_152 rfl rfl rfl rfl dX12_init_421 ?_
  refine ww_nmX (X' := mX120) rfl ?_
  refine ww_aload_n (pc := 424) hC dX12_init_424 0 rfl ?_
  refine ww_iconst (pc := 425) hC (v := (0 : Int32)) dX12_init_425 (by decide) ?_
  refine ww_putI (pc := 426) hC (i := 0) 12 47 ⟨by decide +kernel, by decide +kernel⟩ RX12 (by decide) (by decide) rfl qf_X12_155 rfl rfl rfl rfl dX12_init_426 ?_
  refine ww_nmX (X' := mX121) rfl ?_
  refine ww_aload_n (pc := 429) hC dX12_init_429 0 rfl ?_
  refine ww_iconst (pc := 430) hC (v := (0 : Int32)) dX12_init_430 (by decide) ?_
  refine ww_putI (pc := 431) hC (i := 0) 12 48 ⟨by decide +kernel, by decide +kernel⟩ RX12 (by decide) (by decide) rfl qf_X12_158 rfl rfl rfl rfl dX12_init_431 ?_
  refine ww_nmX (X' := mX122) rfl ?_
  refine ww_aload_n (pc := 434) hC dX12_init_434 0 rfl ?_
  refine ww_iconst (pc := 435) hC (v := (0 : Int32)) dX12_init_435 (by decide) ?_
  refine ww_putI (pc := 436) hC (i := 0) 12 49 ⟨by decide +kernel, by decide +kernel⟩ RX12 (by decide) (by decide) rfl qf_X12_161 rfl rfl rfl rfl dX12_init_436 ?_
  refine ww_nmX (X' := mX123) rfl ?_
  refine ww_aload_n (pc := 439) hC dX12_init_439 0 rfl ?_
  refine ww_iconst (pc := 440) hC (v := (0 : Int32)) dX12_init_440 (by decide) ?_
  refine ww_putI (pc := 441) hC (i := 0) 12 50 ⟨by decide +kernel, by decide +kernel⟩ RX12 (by decide) (by decide) rfl qf_X12_164 rfl rfl rfl rfl dX12_init_441 ?_
  refine ww_nmX (X' := mX124) rfl ?_
  refine ww_aload_n (pc := 444) hC dX12_init_444 0 rfl ?_
  refine ww_bipush (pc := 445) hC (v := (6 : Int32)) dX12_init_445 (by decide) ?_
  refine ww_newa (pc := 447) hC 13 (by decide) (by decide) rfl (ct0 hW _) (n := 28) (by decide +kernel) (by decide) (N := 6) (by decide) (Z' := mZ125) rfl (X' := mX126) rfl (by decide) qy_FieldType_int dX12_init_447 (Nat.le_of_ble_eq_true rfl) (Nat.le_of_ble_eq_true rfl) ?_
  refine ww_putR (pc := 449) hC (i := 0) (t := 28) 12 51 ⟨by decide +kernel, by decide +kernel⟩ RX12 (by decide) (by decide) rfl qf_X12_167 rfl hin rfl rfl rfl rfl (Z' := mZ127) rfl dX12_init_449 ?_
  refine ww_aload_n (pc := 452) hC dX12_init_452 0 rfl ?_
  refine ww_bipush (pc := 453) hC (v := (6 : Int32)) dX12_init_453 (by decide) ?_
  refine ww_newa (pc := 455) hC 13 (by decide) (by decide) rfl (ct0 hW _) (n := 29) (by decide +kernel) (by decide) (N := 6) (by decide) (Z' := mZ128) rfl (X' := mX129) rfl (by decide) qy_FieldType_int dX12_init_455 (Nat.le_of_ble_eq_true rfl) (Nat.le_of_ble_eq_true rfl) ?_
  refine ww_putR (pc := 457) hC (i := 0) (t := 29) 12 52 ⟨by decide +kernel, by decide +kernel⟩ RX12 (by decide) (by decide) rfl qf_X12_170 rfl hin rfl rfl rfl rfl (Z' := mZ130) rfl dX12_init_457 ?_
  refine ww_aload_n (pc := 460) hC dX12_init_460 0 rfl ?_
  refine ww_bipush (pc := 461) hC (v := (6 : Int32)) dX12_init_461 (by decide) ?_
  refine ww_newa (pc := 463) hC 13 (by decide) (by decide) rfl (ct0 hW _) (n := 30) (by decide +kernel) (by decide) (N := 6) (by decide) (Z' := mZ131) rfl (X' := mX132) rfl (by decide) qy_FieldType_int dX12_init_463 (Nat.le_of_ble_eq_true rfl) (Nat.le_of_ble_eq_true rfl) ?_
  refine ww_putR (pc := 465) hC (i := 0) (t := 30) 12 53 ⟨by decide +kernel, by decide +kernel⟩ RX12 (by decide) (by decide) rfl qf_X12_173 rfl hin rfl rfl rfl rfl (Z' := mZ133) rfl dX12_init_465 ?_
  refine ww_aload_n (pc := 468) hC dX12_init_468 0 rfl ?_
  refine ww_bipush (pc := 469) hC (v := (6 : Int32)) dX12_init_469 (by decide) ?_
  refine ww_newa (pc := 471) hC 13 (by decide) (by decide) rfl (ct0 hW _) (n := 31) (by decide +kernel) (by decide) (N := 6) (by decide) (Z' := mZ134) rfl (X' := mX135) rfl (by decide) qy_FieldType_int dX12_init_471 (Nat.le_of_ble_eq_true rfl) (Nat.le_of_ble_eq_true rfl) ?_
  refine ww_putR (pc := 473) hC (i := 0) (t := 31) 12 54 ⟨by decide +kernel, by decide +kernel⟩ RX12 (by decide) (by decide) rfl qf_X12_176 rfl hin rfl rfl rfl rfl (Z' := mZ136) rfl dX12_init_473 ?_
  refine ww_aload_n (pc := 476) hC dX12_init_476 0 rfl ?_
  refine ww_bipush (pc := 477) hC (v := (6 : Int32)) dX12_init_477 (by decide) ?_
  refine ww_newa (pc := 479) hC 13 (by decide) (by decide) rfl (ct0 hW _) (n := 32) (by decide +kernel) (by decide) (N := 6) (by decide) (Z' := mZ137) rfl (X' := mX138) rfl (by decide) qy_FieldType_int dX12_init_479 (Nat.le_of_ble_eq_true rfl) (Nat.le_of_ble_eq_true rfl) ?_
  refine ww_putR (pc := 481) hC (i := 0) (t := 32) 12 55 ⟨by decide +kernel, by decide +kernel⟩ RX12 (by decide) (by decide) rfl qf_X12_179 rfl hin rfl rfl rfl rfl (Z' := mZ139) rfl dX12_init_481 ?_
  refine ww_aload_n (pc := 484) hC dX12_init_484 0 rfl ?_
  refine ww_bipush (pc := 485) hC (v := (24 : Int32)) dX12_init_485 (by decide) ?_
  refine ww_newa (pc := 487) hC 13 (by decide) (by decide) rfl (ct0 hW _) (n := 33) (by decide +kernel) (by decide) (N := 24) (by decide) (Z' := mZ140) rfl (X' := mX141) rfl (by decide) qy_FieldType_int dX12_init_487 (Nat.le_of_ble_eq_true rfl) (Nat.le_of_ble_eq_true rfl) ?_
  refine ww_putR (pc := 489) hC (i := 0) (t := 33) 12 56 ⟨by decide +kernel, by decide +kernel⟩ RX12 (by decide) (by decide) rfl qf_X12_182 rfl hin rfl rfl rfl rfl (Z' := mZ142) rfl dX12_init_489 ?_
  refine ww_aload_n (pc := 492) hC dX12_init_492 0 rfl ?_
  refine ww_iconst (pc := 493) hC (v := (4 : Int32)) dX12_init_493 (by decide) ?_
  refine ww_newa (pc := 494) hC 13 (by decide) (by decide) rfl (ct0 hW _) (n := 34) (by decide +kernel) (by decide) (N := 4) (by decide) (Z' := mZ143) rfl (X' := mX144) rfl (by decide) qy_FieldType_int dX12_init_494 (Nat.le_of_ble_eq_true rfl) (Nat.le_of_ble_eq_true rfl) ?_
  refine ww_putR (pc := 496) hC (i := 0) (t := 34) 12 57 ⟨by decide +kernel, by decide +kernel⟩ RX12 (by decide) (by decide) rfl qf_X12_185 rfl hin rfl rfl rfl rfl (Z' := mZ145) rfl dX12_init_496 ?_
  refine ww_aload_n (pc := 499) hC dX12_init_499 0 rfl ?_
  refine ww_bipush (pc := 500) hC (v := (6 : Int32)) dX12_init_500 (by decide) ?_
  refine ww_newa (pc := 502) hC 13 (by decide) (by decide) rfl (ct0 hW _) (n := 35) (by decide +kernel) (by decide) (N := 6) (by decide) (Z' := mZ146) rfl (X' := mX147) rfl (by decide) qy_FieldType_int dX12_init_502 (Nat.le_of_ble_eq_true rfl) (Nat.le_of_ble_eq_true rfl) ?_
  refine ww_putR (pc := 504) hC (i := 0) (t := 35) 12 58 ⟨by decide +kernel, by decide +kernel⟩ RX12 (by decide) (by decide) rfl qf_X12_188 rfl hin rfl rfl rfl rfl (Z' := mZ148) rfl dX12_init_504 ?_
  refine ww_aload_n (pc := 507) hC dX12_init_507 0 rfl ?_
  refine ww_bipush (pc := 508) hC (v := (10 : Int32)) dX12_init_508 (by decide) ?_
  refine ww_newa (pc := 510) hC 13 (by decide) (by decide) rfl (ct0 hW _) (n := 36) (by decide +kernel) (by decide) (N := 10) (by decide) (Z' := mZ149) rfl (X' := mX150) rfl (by decide) qy_FieldType_int dX12_init_510 (Nat.le_of_ble_eq_true rfl) (Nat.le_of_ble_eq_true rfl) ?_
  refine ww_putR (pc := 512) hC (i := 0) (t := 36) 12 59 ⟨by decide +kernel, by decide +kernel⟩ RX12 (by decide) (by decide) rfl qf_X12_191 rfl hin rfl rfl rfl rfl (Z' := mZ151) rfl dX12_init_512 ?_
  refine ww_aload_n (pc := 515) hC dX12_init_515 0 rfl ?_
  refine ww_bipush (pc := 516) hC (v := (10 : Int32)) dX12_init_516 (by decide) ?_
  refine ww_newa (pc := 518) hC 13 (by decide) (by decide) rfl (ct0 hW _) (n := 37) (by decide +kernel) (by decide) (N := 10) (by decide) (Z' := mZ152) rfl (X' := mX153) rfl (by decide) qy_FieldType_int dX12_init_518 (Nat.le_of_ble_eq_true rfl) (Nat.le_of_ble_eq_true rfl) ?_
  refine ww_putR (pc := 520) hC (i := 0) (t := 37) 12 60 ⟨by decide +kernel, by decide +kernel⟩ RX12 (by decide) (by decide) rfl qf_X12_194 rfl hin rfl rfl rfl rfl (Z' := mZ154) rfl dX12_init_520 ?_
  refine ww_aload_n (pc := 523) hC dX12_init_523 0 rfl ?_
  refine ww_iconst (pc := 524) hC (v := (0 : Int32)) dX12_init_524 (by decide) ?_
  refine ww_putI (pc := 525) hC (i := 0) 12 61 ⟨by decide +kernel, by decide +kernel⟩ RX12 (by decide) (by decide) rfl qf_X12_197 rfl rfl rfl rfl dX12_init_525 ?_
  refine ww_nmX (X' := mX155) rfl ?_
  refine ww_aload_n (pc := 528) hC dX12_init_528 0 rfl ?_
  refine ww_bipush (pc := 529) hC (v := (20 : Int32)) dX12_init_529 (by decide) ?_
  refine ww_newa (pc := 531) hC 13 (by decide) (by decide) rfl (ct0 hW _) (n := 38) (by decide +kernel) (by decide) (N := 20) (by decide) (Z' := mZ156) rfl (X' := mX157) rfl (by decide) qy_FieldType_int dX12_init_531 (Nat.le_of_ble_eq_true rfl) (Nat.le_of_ble_eq_true rfl) ?_
  refine ww_putR (pc := 533) hC (i := 0) (t := 38) 12 62 ⟨by decide +kernel, by decide +kernel⟩ RX12 (by decide) (by decide) rfl qf_X12_200 rfl hin rfl rfl rfl rfl (Z' := mZ158) rfl dX12_init_533 ?_
  refine ww_aload_n (pc := 536) hC dX12_init_536 0 rfl ?_
  refine ww_bipush (pc := 537) hC (v := (6 : Int32)) dX12_init_537 (by decide) ?_
  refine ww_newa (pc := 539) hC 13 (by decide) (by decide) rfl (ct0 hW _) (n := 39) (by decide +kernel) (by decide) (N := 6) (by decide) (Z' := mZ159) rfl (X' := mX160) rfl (by decide) qy_FieldType_int dX12_init_539 (Nat.le_of_ble_eq_true rfl) (Nat.le_of_ble_eq_true rfl) ?_
  refine ww_dup (pc := 541) hC dX12_init_541 rfl ?_
  refine ww_iconst (pc := 542) hC (v := (0 : Int32)) dX12_init_542 (by decide) ?_
  refine ww_iconst (pc := 543) hC (v := (-1 : Int32)) dX12_init_543 (by decide) ?_
  refine ww_iast (pc := 544) hC (i := 39) (n := 6) (α := Unit) (f := some ()) (r := ()) ⟨by decide +kernel, by decide +kernel, by decide +kernel⟩ (by decide) dX12_init_544 (fun _ => ?_)
  refine ww_nmX (X' := mX161) rfl ?_
  refine ww_dup (pc := 545) hC dX12_init_545 rfl ?_
  refine ww_iconst (pc := 546) hC (v := (1 : Int32)) dX12_init_546 (by decide) ?_
  refine ww_iconst (pc := 547) hC (v := (-1 : Int32)) dX12_init_547 (by decide) ?_
  refine ww_iast (pc := 548) hC (i := 39) (n := 6) (α := Unit) (f := some ()) (r := ()) ⟨by decide +kernel, by decide +kernel, by decide +kernel⟩ (by decide) dX12_init_548 (fun _ => ?_)
  refine ww_nmX (X' := mX162) rfl ?_
  refine ww_dup (pc := 549) hC dX12_init_549 rfl ?_
  refine ww_iconst (pc := 550) hC (v := (2 : Int32)) dX12_init_550 (by decide) ?_
  refine ww_iconst (pc := 551) hC (v := (-1 : Int32)) dX12_init_551 (by decide) ?_
  refine ww_iast (pc := 552) hC (i := 39) (n := 6) (α := Unit) (f := some ()) (r := ()) ⟨by decide +kernel, by decide +kernel, by decide +kernel⟩ (by decide) dX12_init_552 (fun _ => ?_)
  refine ww_nmX (X' := mX163) rfl ?_
  refine ww_dup (pc := 553) hC dX12_init_553 rfl ?_
  refine ww_iconst (pc := 554) hC (v := (3 : Int32)) dX12_init_554 (by decide) ?_
  refine ww_iconst (pc := 555) hC (v := (-1 : Int32)) dX12_init_555 (by decide) ?_
  refine ww_iast (pc := 556) hC (i := 39) (n := 6) (α := Unit) (f := some ()) (r := ()) ⟨by decide +kernel, by decide +kernel, by decide +kernel⟩ (by decide) dX12_init_556 (fun _ => ?_)
  refine ww_nmX (X' := mX164) rfl ?_
  refine ww_dup (pc := 557) hC dX12_init_557 rfl ?_
  refine ww_iconst (pc := 558) hC (v := (4 : Int32)) dX12_init_558 (by decide) ?_
  refine ww_iconst (pc := 559) hC (v := (-1 : Int32)) dX12_init_559 (by decide) ?_
  refine ww_iast (pc := 560) hC (i := 39) (n := 6) (α := Unit) (f := some ()) (r := ()) ⟨by decide +kernel, by decide +kernel, by decide +kernel⟩ (by decide) dX12_init_560 (fun _ => ?_)
  refine ww_nmX (X' := mX165) rfl ?_
  refine ww_dup (pc := 561) hC dX12_init_561 rfl ?_
  refine ww_iconst (pc := 562) hC (v := (5 : Int32)) dX12_init_562 (by decide) ?_
  refine ww_iconst (pc := 563) hC (v := (-1 : Int32)) dX12_init_563 (by decide) ?_
  refine ww_iast (pc := 564) hC (i := 39) (n := 6) (α := Unit) (f := some ()) (r := ()) ⟨by decide +kernel, by decide +kernel, by decide +kernel⟩ (by decide) dX12_init_564 (fun _ => ?_)
  refine ww_nmX (X' := mX166) rfl ?_
  refine ww_putR (pc := 565) hC (i := 0) (t := 39) 12 63 ⟨by decide +kernel, by decide +kernel⟩ RX12 (by decide) (by decide) rfl qf_X12_203 rfl hin rfl rfl rfl rfl (Z' := mZ167) rfl dX12_init_565 ?_
  refine ww_aload_n (pc := 568) hC dX12_init_568 0 rfl ?_
  refine ww_bipush (pc := 569) hC (v := (6 : Int32)) dX12_init_569 (by decide) ?_
  refine ww_newa (pc := 571) hC 13 (by decide) (by decide) rfl (ct0 hW _) (n := 40) (by decide +kernel) (by decide) (N := 6) (by decide) (Z' := mZ168) rfl (X' := mX169) rfl (by decide) qy_FieldType_int dX12_init_571 (Nat.le_of_ble_eq_true rfl) (Nat.le_of_ble_eq_true rfl) ?_
  refine ww_putR (pc := 573) hC (i := 0) (t := 40) 12 64 ⟨by decide +kernel, by decide +kernel⟩ RX12 (by decide) (by decide) rfl qf_X12_206 rfl hin rfl rfl rfl rfl (Z' := mZ170) rfl dX12_init_573 ?_
  refine ww_aload_n (pc := 576) hC dX12_init_576 0 rfl ?_
  refine ww_sipush (pc := 577) hC (v := (360 : Int32)) dX12_init_577 (by decide) ?_
  refine ww_newa (pc := 580) hC 14 (by decide) (by decide) rfl (ct0 hW _) (n := 41) (by decide +kernel) (by decide) (N := 360) (by decide) (Z' := mZ171) rfl (X' := mX172) rfl (by decide) qy_FieldType_long dX12_init_580 (Nat.le_of_ble_eq_true rfl) (Nat.le_of_ble_eq_true rfl) ?_
  refine ww_putR (pc := 582) hC (i := 0) (t := 41) 12 65 ⟨by decide +kernel, by decide +kernel⟩ RX12 (by decide) (by decide) rfl qf_X12_209 rfl hin rfl rfl rfl rfl (Z' := mZ173) rfl dX12_init_582 ?_
  refine ww_aload_n (pc := 585) hC dX12_init_585 0 rfl ?_
  refine ww_bipush (pc := 586) hC (v := (60 : Int32)) dX12_init_586 (by decide) ?_
  refine ww_newa (pc := 588) hC 14 (by decide) (by decide) rfl (ct0 hW _) (n := 42) (by decide +kernel) (by decide) (N := 60) (by decide) (Z' := mZ174) rfl (X' := mX175) rfl (by decide) qy_FieldType_long dX12_init_588 (Nat.le_of_ble_eq_true rfl) (Nat.le_of_ble_eq_true rfl) ?_
  refine ww_putR (pc := 590) hC (i := 0) (t := 42) 12 66 ⟨by decide +kernel, by decide +kernel⟩ RX12 (by decide) (by decide) rfl qf_X12_212 rfl hin rfl rfl rfl rfl (Z' := mZ176) rfl dX12_init_590 ?_
  exact ww_vret (pc := 593) hC hr (u := ()) (r := ()) rfl dX12_init_593
abbrev mZE : XS := mZ176
abbrev mXE : XD := mX175
