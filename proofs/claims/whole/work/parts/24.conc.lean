/-! data of a row filled with one number -/
def fillI (X : XD) (a n : Nat) (v : Int32) : XD := (fun q => if q = a then fun j => if j < n then v else X.1 a j else X.1 q, X.2)
theorem fillI_0 (X : XD) (a : Nat) (v : Int32) : fillI X a 0 v = X := by
  unfold fillI
  refine Prod.ext ?_ rfl
  funext q
  by_cases h : q = a
  · subst h; simp
  · simp [h]
theorem fillI_s (X : XD) (a k : Nat) (v : Int32) : wI (fillI X a k v) a k v = fillI X a (k + 1) v := by
  unfold fillI wI up2
  refine Prod.ext ?_ rfl
  funext q j
  by_cases h : q = a
  · subst h
    by_cases hj : j = k
    · subst hj; simp
    · by_cases hk : j < k
      · simp [hj, hk, show j < k + 1 by omega]
      · simp [hj, hk, show ¬ j < k + 1 by omega]
  · simp [h]
theorem i32n {k : Nat} (h : k < 2147483648) : (Int32.ofNat k).toNatClampNeg = k := by
  rw [Int32.toNatClampNeg, Int32.toInt_ofNat_of_lt (by omega)]; rfl
theorem fill_lp {Z : XS} {a n : Nat} {v : Int32} {X : XD} (hn : n ≤ 1000) (hl : sL Z a = n) : ∀ (d k m : Nat), k + d = n → d < m → fJ7_fill_53178_5 Z a m v (Int32.ofNat k) (Int32.ofNat n) (fillI X a k v) = some ((), fillI X a n v) := by
  intro d
  induction d with
  | zero =>
    intro k m h1 h2
    obtain ⟨m, rfl⟩ : ∃ q, m = q + 1 := ⟨m - 1, by omega⟩
    rw [fJ7_fill_53178_5_s, if_pos]
    · rw [show k = n by omega]
    · rw [show k = n by omega]; exact Int32.le_refl _
  | succ d ih =>
    intro k m h1 h2
    obtain ⟨m, rfl⟩ : ∃ q, m = q + 1 := ⟨m - 1, by omega⟩
    have e1 : (Int32.ofNat k).toInt = k := Int32.toInt_ofNat_of_lt (by omega)
    have e2 : (Int32.ofNat n).toInt = n := Int32.toInt_ofNat_of_lt (by omega)
    rw [fJ7_fill_53178_5_s, if_neg (by rw [Int32.le_iff_toInt_le, e1, e2]; omega)]
    unfold gin nm
    rw [hl, if_neg (by
      rw [Int32.lt_iff_toInt_lt, e1, i32n (by omega)]
      have : (0 : Int32).toInt = 0 := rfl
      omega)]
    rw [i32n (by omega), fillI_s, show Int32.ofNat k + 1 = Int32.ofNat (k + 1) from (Int32.ofNat_add k 1).symm]
    exact ih (k + 1) m (by omega) (by omega)
theorem fill_eq {Z : XS} {a n : Nat} {v : Int32} {X : XD} (hn : n ≤ 1000) (hl : sL Z a = n) : fJ7_fill_53178 Z a v X = some ((), fillI X a n v) := by
  unfold fJ7_fill_53178 nm
  rw [hl]
  have := fill_lp (v := v) (X := X) hn hl n 0 FU (by omega) (by unfold FU; omega)
  rw [fillI_0] at this
  exact this
def cZ1 : XS := newA 1 cZ0 17 6
def cX2 : XD := zX cX0 1
def cZ3 : XS := stR cZ1 0 0 1
def cZ4 : XS := newA 2 cZ3 16 6
def cX5 : XD := zX cX2 2
def cZ6 : XS := stR cZ4 0 1 2
def cZ7 : XS := newO 3 cZ6 1
def cX8 : XD := zX cX5 3
def cZ9 : XS := newA 4 cZ7 13 10
def cX10 : XD := zX cX8 4
def cZ11 : XS := stR cZ9 3 0 4
def cZ12 : XS := newA 5 cZ11 13 10
def cX13 : XD := zX cX10 5
def cZ14 : XS := stR cZ12 3 1 5
def cZ15 : XS := newA 6 cZ14 13 10
def cX16 : XD := zX cX13 6
def cZ17 : XS := stR cZ15 3 2 6
def cZ18 : XS := newA 7 cZ17 13 10
def cX19 : XD := zX cX16 7
def cZ20 : XS := stR cZ18 3 3 7
def cZ21 : XS := newA 8 cZ20 13 100
def cX22 : XD := zX cX19 8
def cZ23 : XS := stR cZ21 3 5 8
def cZ24 : XS := newA 9 cZ23 13 6
def cX25 : XD := zX cX22 9
def cZ26 : XS := stR cZ24 3 8 9
set_option maxHeartbeats 40000000 in
set_option maxRecDepth 100000 in
theorem ciX1_init_2 {l : Launch} {E : XE} {w : XW} (hW : ∀ i : Nat, w.1 i = w.1 0 + i) : Ct l E w yX1_init (wsM yX1_init cX1_init 1 none) (rmX 1 6 146) 6 146 [.ref (w.1 3)] (w.1 (sn cZ7)) (w.1 (sn cZ26)) cZ7 cZ26 cX8 cX25 none := by
  refine ct_of (by decide) (Nat.le_of_ble_eq_true rfl) ?_
  intro p e s m args below meth c hC hr hin hav
  refine ww_lv (lv' := [(0, .ref (w.1 3))]) rfl ?_
  refine ww_aload_n (pc := 0) hC dX1_init_0 0 rfl ?_
  refine ww_objInit (pc := 1) hC ql_X1_3 qi_java_lang_Object__init_ qc_java_lang_Object__init_ dX1_init_1 ⟨Nat.le_of_ble_eq_true rfl, Nat.le_of_ble_eq_true rfl⟩ (Nat.le_of_ble_eq_true rfl) ?_
  refine ww_aload_n (pc := 4) hC dX1_init_4 0 rfl ?_
  refine ww_bipush (pc := 5) hC (v := (10 : Int32)) dX1_init_5 (by decide) ?_
  refine ww_newa (pc := 7) hC 13 (by decide) (by decide) rfl (ct0 hW _) (n := 4) (by decide +kernel) (by decide) (N := 10) (by decide) (Z' := cZ9) rfl (X' := cX10) rfl (by decide) qy_FieldType_int dX1_init_7 (Nat.le_of_ble_eq_true rfl) (Nat.le_of_ble_eq_true rfl) ?_
  refine ww_putR (pc := 9) hC (i := 3) (t := 4) 1 0 ⟨by decide +kernel, by decide +kernel⟩ RX1 (by decide) (by decide) rfl qf_X1_9 rfl hin rfl rfl rfl rfl (Z' := cZ11) rfl dX1_init_9 ?_
  refine ww_aload_n (pc := 12) hC dX1_init_12 0 rfl ?_
  refine ww_bipush (pc := 13) hC (v := (10 : Int32)) dX1_init_13 (by decide) ?_
  refine ww_newa (pc := 15) hC 13 (by decide) (by decide) rfl (ct0 hW _) (n := 5) (by decide +kernel) (by decide) (N := 10) (by decide) (Z' := cZ12) rfl (X' := cX13) rfl (by decide) qy_FieldType_int dX1_init_15 (Nat.le_of_ble_eq_true rfl) (Nat.le_of_ble_eq_true rfl) ?_
  refine ww_putR (pc := 17) hC (i := 3) (t := 5) 1 1 ⟨by decide +kernel, by decide +kernel⟩ RX1 (by decide) (by decide) rfl qf_X1_15 rfl hin rfl rfl rfl rfl (Z' := cZ14) rfl dX1_init_17 ?_
  refine ww_aload_n (pc := 20) hC dX1_init_20 0 rfl ?_
  refine ww_bipush (pc := 21) hC (v := (10 : Int32)) dX1_init_21 (by decide) ?_
  refine ww_newa (pc := 23) hC 13 (by decide) (by decide) rfl (ct0 hW _) (n := 6) (by decide +kernel) (by decide) (N := 10) (by decide) (Z' := cZ15) rfl (X' := cX16) rfl (by decide) qy_FieldType_int dX1_init_23 (Nat.le_of_ble_eq_true rfl) (Nat.le_of_ble_eq_true rfl) ?_
  refine ww_putR (pc := 25) hC (i := 3) (t := 6) 1 2 ⟨by decide +kernel, by decide +kernel⟩ RX1 (by decide) (by decide) rfl qf_X1_18 rfl hin rfl rfl rfl rfl (Z' := cZ17) rfl dX1_init_25 ?_
  refine ww_aload_n (pc := 28) hC dX1_init_28 0 rfl ?_
  refine ww_bipush (pc := 29) hC (v := (10 : Int32)) dX1_init_29 (by decide) ?_
  refine ww_newa (pc := 31) hC 13 (by decide) (by decide) rfl (ct0 hW _) (n := 7) (by decide +kernel) (by decide) (N := 10) (by decide) (Z' := cZ18) rfl (X' := cX19) rfl (by decide) qy_FieldType_int dX1_init_31 (Nat.le_of_ble_eq_true rfl) (Nat.le_of_ble_eq_true rfl) ?_
  refine ww_putR (pc := 33) hC (i := 3) (t := 7) 1 3 ⟨by decide +kernel, by decide +kernel⟩ RX1 (by decide) (by decide) rfl qf_X1_21 rfl hin rfl rfl rfl rfl (Z' := cZ20) rfl dX1_init_33 ?_
  refine ww_aload_n (pc := 36) hC dX1_init_36 0 rfl ?_
  refine ww_bipush (pc := 37) hC (v := (100 : Int32)) dX1_init_37 (by decide) ?_
  refine ww_newa (pc := 39) hC 13 (by decide) (by decide) rfl (ct0 hW _) (n := 8) (by decide +kernel) (by decide) (N := 100) (by decide) (Z' := cZ21) rfl (X' := cX22) rfl (by decide) qy_FieldType_int dX1_init_39 (Nat.le_of_ble_eq_true rfl) (Nat.le_of_ble_eq_true rfl) ?_
  refine ww_putR (pc := 41) hC (i := 3) (t := 8) 1 5 ⟨by decide +kernel, by decide +kernel⟩ RX1 (by decide) (by decide) rfl qf_X1_24 rfl hin rfl rfl rfl rfl (Z' := cZ23) rfl dX1_init_41 ?_
  refine ww_aload_n (pc := 44) hC dX1_init_44 0 rfl ?_
  refine ww_bipush (pc := 45) hC (v := (6 : Int32)) dX1_init_45 (by decide) ?_
  refine ww_newa (pc := 47) hC 13 (by decide) (by decide) rfl (ct0 hW _) (n := 9) (by decide +kernel) (by decide) (N := 6) (by decide) (Z' := cZ24) rfl (X' := cX25) rfl (by decide) qy_FieldType_int dX1_init_47 (Nat.le_of_ble_eq_true rfl) (Nat.le_of_ble_eq_true rfl) ?_
  refine ww_putR (pc := 49) hC (i := 3) (t := 9) 1 8 ⟨by decide +kernel, by decide +kernel⟩ RX1 (by decide) (by decide) rfl qf_X1_27 rfl hin rfl rfl rfl rfl (Z' := cZ26) rfl dX1_init_49 ?_
  exact ww_vret (pc := 52) hC hr (u := ()) (r := ()) rfl dX1_init_52
def cZ27 : XS := stR cZ26 2 0 3
def cZ28 : XS := newO 10 cZ27 1
def cX29 : XD := zX cX25 10
def cZ30 : XS := newA 11 cZ28 13 10
def cX31 : XD := zX cX29 11
def cZ32 : XS := stR cZ30 10 0 11
def cZ33 : XS := newA 12 cZ32 13 10
def cX34 : XD := zX cX31 12
def cZ35 : XS := stR cZ33 10 1 12
def cZ36 : XS := newA 13 cZ35 13 10
def cX37 : XD := zX cX34 13
def cZ38 : XS := stR cZ36 10 2 13
def cZ39 : XS := newA 14 cZ38 13 10
def cX40 : XD := zX cX37 14
def cZ41 : XS := stR cZ39 10 3 14
def cZ42 : XS := newA 15 cZ41 13 100
def cX43 : XD := zX cX40 15
def cZ44 : XS := stR cZ42 10 5 15
def cZ45 : XS := newA 16 cZ44 13 6
def cX46 : XD := zX cX43 16
def cZ47 : XS := stR cZ45 10 8 16
set_option maxHeartbeats 40000000 in
set_option maxRecDepth 100000 in
theorem ciX1_init_3 {l : Launch} {E : XE} {w : XW} (hW : ∀ i : Nat, w.1 i = w.1 0 + i) : Ct l E w yX1_init (wsM yX1_init cX1_init 1 none) (rmX 1 6 146) 6 146 [.ref (w.1 10)] (w.1 (sn cZ28)) (w.1 (sn cZ47)) cZ28 cZ47 cX29 cX46 none := by
  refine ct_of (by decide) (Nat.le_of_ble_eq_true rfl) ?_
  intro p e s m args below meth c hC hr hin hav
  refine ww_lv (lv' := [(0, .ref (w.1 10))]) rfl ?_
  refine ww_aload_n (pc := 0) hC dX1_init_0 0 rfl ?_
  refine ww_objInit (pc := 1) hC ql_X1_3 qi_java_lang_Object__init_ qc_java_lang_Object__init_ dX1_init_1 ⟨Nat.le_of_ble_eq_true rfl, Nat.le_of_ble_eq_true rfl⟩ (Nat.le_of_ble_eq_true rfl) ?_
  refine ww_aload_n (pc := 4) hC dX1_init_4 0 rfl ?_
  refine ww_bipush (pc := 5) hC (v := (10 : Int32)) dX1_init_5 (by decide) ?_
  refine ww_newa (pc := 7) hC 13 (by decide) (by decide) rfl (ct0 hW _) (n := 11) (by decide +kernel) (by decide) (N := 10) (by decide) (Z' := cZ30) rfl (X' := cX31) rfl (by decide) qy_FieldType_int dX1_init_7 (Nat.le_of_ble_eq_true rfl) (Nat.le_of_ble_eq_true rfl) ?_
  refine ww_putR (pc := 9) hC (i := 10) (t := 11) 1 0 ⟨by decide +kernel, by decide +kernel⟩ RX1 (by decide) (by decide) rfl qf_X1_9 rfl hin rfl rfl rfl rfl (Z' := cZ32) rfl dX1_init_9 ?_
  refine ww_aload_n (pc := 12) hC dX1_init_12 0 rfl ?_
  refine ww_bipush (pc := 13) hC (v := (10 : Int32)) dX1_init_13 (by decide) ?_
  refine ww_newa (pc := 15) hC 13 (by decide) (by decide) rfl (ct0 hW _) (n := 12) (by decide +kernel) (by decide) (N := 10) (by decide) (Z' := cZ33) rfl (X' := cX34) rfl (by decide) qy_FieldType_int dX1_init_15 (Nat.le_of_ble_eq_true rfl) (Nat.le_of_ble_eq_true rfl) ?_
  refine ww_putR (pc := 17) hC (i := 10) (t := 12) 1 1 ⟨by decide +kernel, by decide +kernel⟩ RX1 (by decide) (by decide) rfl qf_X1_15 rfl hin rfl rfl rfl rfl (Z' := cZ35) rfl dX1_init_17 ?_
  refine ww_aload_n (pc := 20) hC dX1_init_20 0 rfl ?_
  refine ww_bipush (pc := 21) hC (v := (10 : Int32)) dX1_init_21 (by decide) ?_
  refine ww_newa (pc := 23) hC 13 (by decide) (by decide) rfl (ct0 hW _) (n := 13) (by decide +kernel) (by decide) (N := 10) (by decide) (Z' := cZ36) rfl (X' := cX37) rfl (by decide) qy_FieldType_int dX1_init_23 (Nat.le_of_ble_eq_true rfl) (Nat.le_of_ble_eq_true rfl) ?_
  refine ww_putR (pc := 25) hC (i := 10) (t := 13) 1 2 ⟨by decide +kernel, by decide +kernel⟩ RX1 (by decide) (by decide) rfl qf_X1_18 rfl hin rfl rfl rfl rfl (Z' := cZ38) rfl dX1_init_25 ?_
  refine ww_aload_n (pc := 28) hC dX1_init_28 0 rfl ?_
  refine ww_bipush (pc := 29) hC (v := (10 : Int32)) dX1_init_29 (by decide) ?_
  refine ww_newa (pc := 31) hC 13 (by decide) (by decide) rfl (ct0 hW _) (n := 14) (by decide +kernel) (by decide) (N := 10) (by decide) (Z' := cZ39) rfl (X' := cX40) rfl (by decide) qy_FieldType_int dX1_init_31 (Nat.le_of_ble_eq_true rfl) (Nat.le_of_ble_eq_true rfl) ?_
  refine ww_putR (pc := 33) hC (i := 10) (t := 14) 1 3 ⟨by decide +kernel, by decide +kernel⟩ RX1 (by decide) (by decide) rfl qf_X1_21 rfl hin rfl rfl rfl rfl (Z' := cZ41) rfl dX1_init_33 ?_
  refine ww_aload_n (pc := 36) hC dX1_init_36 0 rfl ?_
  refine ww_bipush (pc := 37) hC (v := (100 : Int32)) dX1_init_37 (by decide) ?_
  refine ww_newa (pc := 39) hC 13 (by decide) (by decide) rfl (ct0 hW _) (n := 15) (by decide +kernel) (by decide) (N := 100) (by decide) (Z' := cZ42) rfl (X' := cX43) rfl (by decide) qy_FieldType_int dX1_init_39 (Nat.le_of_ble_eq_true rfl) (Nat.le_of_ble_eq_true rfl) ?_
  refine ww_putR (pc := 41) hC (i := 10) (t := 15) 1 5 ⟨by decide +kernel, by decide +kernel⟩ RX1 (by decide) (by decide) rfl qf_X1_24 rfl hin rfl rfl rfl rfl (Z' := cZ44) rfl dX1_init_41 ?_
  refine ww_aload_n (pc := 44) hC dX1_init_44 0 rfl ?_
  refine ww_bipush (pc := 45) hC (v := (6 : Int32)) dX1_init_45 (by decide) ?_
  refine ww_newa (pc := 47) hC 13 (by decide) (by decide) rfl (ct0 hW _) (n := 16) (by decide +kernel) (by decide) (N := 6) (by decide) (Z' := cZ45) rfl (X' := cX46) rfl (by decide) qy_FieldType_int dX1_init_47 (Nat.le_of_ble_eq_true rfl) (Nat.le_of_ble_eq_true rfl) ?_
  refine ww_putR (pc := 49) hC (i := 10) (t := 16) 1 8 ⟨by decide +kernel, by decide +kernel⟩ RX1 (by decide) (by decide) rfl qf_X1_27 rfl hin rfl rfl rfl rfl (Z' := cZ47) rfl dX1_init_49 ?_
  exact ww_vret (pc := 52) hC hr (u := ()) (r := ()) rfl dX1_init_52
def cZ48 : XS := stR cZ47 2 1 10
def cZ49 : XS := newO 17 cZ48 1
def cX50 : XD := zX cX46 17
def cZ51 : XS := newA 18 cZ49 13 10
def cX52 : XD := zX cX50 18
def cZ53 : XS := stR cZ51 17 0 18
def cZ54 : XS := newA 19 cZ53 13 10
def cX55 : XD := zX cX52 19
def cZ56 : XS := stR cZ54 17 1 19
def cZ57 : XS := newA 20 cZ56 13 10
def cX58 : XD := zX cX55 20
def cZ59 : XS := stR cZ57 17 2 20
def cZ60 : XS := newA 21 cZ59 13 10
def cX61 : XD := zX cX58 21
def cZ62 : XS := stR cZ60 17 3 21
def cZ63 : XS := newA 22 cZ62 13 100
def cX64 : XD := zX cX61 22
def cZ65 : XS := stR cZ63 17 5 22
def cZ66 : XS := newA 23 cZ65 13 6
def cX67 : XD := zX cX64 23
def cZ68 : XS := stR cZ66 17 8 23
set_option maxHeartbeats 40000000 in
set_option maxRecDepth 100000 in
theorem ciX1_init_4 {l : Launch} {E : XE} {w : XW} (hW : ∀ i : Nat, w.1 i = w.1 0 + i) : Ct l E w yX1_init (wsM yX1_init cX1_init 1 none) (rmX 1 6 146) 6 146 [.ref (w.1 17)] (w.1 (sn cZ49)) (w.1 (sn cZ68)) cZ49 cZ68 cX50 cX67 none := by
  refine ct_of (by decide) (Nat.le_of_ble_eq_true rfl) ?_
  intro p e s m args below meth c hC hr hin hav
  refine ww_lv (lv' := [(0, .ref (w.1 17))]) rfl ?_
  refine ww_aload_n (pc := 0) hC dX1_init_0 0 rfl ?_
  refine ww_objInit (pc := 1) hC ql_X1_3 qi_java_lang_Object__init_ qc_java_lang_Object__init_ dX1_init_1 ⟨Nat.le_of_ble_eq_true rfl, Nat.le_of_ble_eq_true rfl⟩ (Nat.le_of_ble_eq_true rfl) ?_
  refine ww_aload_n (pc := 4) hC dX1_init_4 0 rfl ?_
  refine ww_bipush (pc := 5) hC (v := (10 : Int32)) dX1_init_5 (by decide) ?_
  refine ww_newa (pc := 7) hC 13 (by decide) (by decide) rfl (ct0 hW _) (n := 18) (by decide +kernel) (by decide) (N := 10) (by decide) (Z' := cZ51) rfl (X' := cX52) rfl (by decide) qy_FieldType_int dX1_init_7 (Nat.le_of_ble_eq_true rfl) (Nat.le_of_ble_eq_true rfl) ?_
  refine ww_putR (pc := 9) hC (i := 17) (t := 18) 1 0 ⟨by decide +kernel, by decide +kernel⟩ RX1 (by decide) (by decide) rfl qf_X1_9 rfl hin rfl rfl rfl rfl (Z' := cZ53) rfl dX1_init_9 ?_
  refine ww_aload_n (pc := 12) hC dX1_init_12 0 rfl ?_
  refine ww_bipush (pc := 13) hC (v := (10 : Int32)) dX1_init_13 (by decide) ?_
  refine ww_newa (pc := 15) hC 13 (by decide) (by decide) rfl (ct0 hW _) (n := 19) (by decide +kernel) (by decide) (N := 10) (by decide) (Z' := cZ54) rfl (X' := cX55) rfl (by decide) qy_FieldType_int dX1_init_15 (Nat.le_of_ble_eq_true rfl) (Nat.le_of_ble_eq_true rfl) ?_
  refine ww_putR (pc := 17) hC (i := 17) (t := 19) 1 1 ⟨by decide +kernel, by decide +kernel⟩ RX1 (by decide) (by decide) rfl qf_X1_15 rfl hin rfl rfl rfl rfl (Z' := cZ56) rfl dX1_init_17 ?_
  refine ww_aload_n (pc := 20) hC dX1_init_20 0 rfl ?_
  refine ww_bipush (pc := 21) hC (v := (10 : Int32)) dX1_init_21 (by decide) ?_
  refine ww_newa (pc := 23) hC 13 (by decide) (by decide) rfl (ct0 hW _) (n := 20) (by decide +kernel) (by decide) (N := 10) (by decide) (Z' := cZ57) rfl (X' := cX58) rfl (by decide) qy_FieldType_int dX1_init_23 (Nat.le_of_ble_eq_true rfl) (Nat.le_of_ble_eq_true rfl) ?_
  refine ww_putR (pc := 25) hC (i := 17) (t := 20) 1 2 ⟨by decide +kernel, by decide +kernel⟩ RX1 (by decide) (by decide) rfl qf_X1_18 rfl hin rfl rfl rfl rfl (Z' := cZ59) rfl dX1_init_25 ?_
  refine ww_aload_n (pc := 28) hC dX1_init_28 0 rfl ?_
  refine ww_bipush (pc := 29) hC (v := (10 : Int32)) dX1_init_29 (by decide) ?_
  refine ww_newa (pc := 31) hC 13 (by decide) (by decide) rfl (ct0 hW _) (n := 21) (by decide +kernel) (by decide) (N := 10) (by decide) (Z' := cZ60) rfl (X' := cX61) rfl (by decide) qy_FieldType_int dX1_init_31 (Nat.le_of_ble_eq_true rfl) (Nat.le_of_ble_eq_true rfl) ?_
  refine ww_putR (pc := 33) hC (i := 17) (t := 21) 1 3 ⟨by decide +kernel, by decide +kernel⟩ RX1 (by decide) (by decide) rfl qf_X1_21 rfl hin rfl rfl rfl rfl (Z' := cZ62) rfl dX1_init_33 ?_
  refine ww_aload_n (pc := 36) hC dX1_init_36 0 rfl ?_
  refine ww_bipush (pc := 37) hC (v := (100 : Int32)) dX1_init_37 (by decide) ?_
  refine ww_newa (pc := 39) hC 13 (by decide) (by decide) rfl (ct0 hW _) (n := 22) (by decide +kernel) (by decide) (N := 100) (by decide) (Z' := cZ63) rfl (X' := cX64) rfl (by decide) qy_FieldType_int dX1_init_39 (Nat.le_of_ble_eq_true rfl) (Nat.le_of_ble_eq_true rfl) ?_
  refine ww_putR (pc := 41) hC (i := 17) (t := 22) 1 5 ⟨by decide +kernel, by decide +kernel⟩ RX1 (by decide) (by decide) rfl qf_X1_24 rfl hin rfl rfl rfl rfl (Z' := cZ65) rfl dX1_init_41 ?_
  refine ww_aload_n (pc := 44) hC dX1_init_44 0 rfl ?_
  refine ww_bipush (pc := 45) hC (v := (6 : Int32)) dX1_init_45 (by decide) ?_
  refine ww_newa (pc := 47) hC 13 (by decide) (by decide) rfl (ct0 hW _) (n := 23) (by decide +kernel) (by decide) (N := 6) (by decide) (Z' := cZ66) rfl (X' := cX67) rfl (by decide) qy_FieldType_int dX1_init_47 (Nat.le_of_ble_eq_true rfl) (Nat.le_of_ble_eq_true rfl) ?_
  refine ww_putR (pc := 49) hC (i := 17) (t := 23) 1 8 ⟨by decide +kernel, by decide +kernel⟩ RX1 (by decide) (by decide) rfl qf_X1_27 rfl hin rfl rfl rfl rfl (Z' := cZ68) rfl dX1_init_49 ?_
  exact ww_vret (pc := 52) hC hr (u := ()) (r := ()) rfl dX1_init_52
def cZ69 : XS := stR cZ68 2 2 17
def cZ70 : XS := newO 24 cZ69 1
def cX71 : XD := zX cX67 24
def cZ72 : XS := newA 25 cZ70 13 10
def cX73 : XD := zX cX71 25
def cZ74 : XS := stR cZ72 24 0 25
def cZ75 : XS := newA 26 cZ74 13 10
def cX76 : XD := zX cX73 26
def cZ77 : XS := stR cZ75 24 1 26
def cZ78 : XS := newA 27 cZ77 13 10
def cX79 : XD := zX cX76 27
def cZ80 : XS := stR cZ78 24 2 27
def cZ81 : XS := newA 28 cZ80 13 10
def cX82 : XD := zX cX79 28
def cZ83 : XS := stR cZ81 24 3 28
def cZ84 : XS := newA 29 cZ83 13 100
def cX85 : XD := zX cX82 29
def cZ86 : XS := stR cZ84 24 5 29
def cZ87 : XS := newA 30 cZ86 13 6
def cX88 : XD := zX cX85 30
def cZ89 : XS := stR cZ87 24 8 30
set_option maxHeartbeats 40000000 in
set_option maxRecDepth 100000 in
theorem ciX1_init_5 {l : Launch} {E : XE} {w : XW} (hW : ∀ i : Nat, w.1 i = w.1 0 + i) : Ct l E w yX1_init (wsM yX1_init cX1_init 1 none) (rmX 1 6 146) 6 146 [.ref (w.1 24)] (w.1 (sn cZ70)) (w.1 (sn cZ89)) cZ70 cZ89 cX71 cX88 none := by
  refine ct_of (by decide) (Nat.le_of_ble_eq_true rfl) ?_
  intro p e s m args below meth c hC hr hin hav
  refine ww_lv (lv' := [(0, .ref (w.1 24))]) rfl ?_
  refine ww_aload_n (pc := 0) hC dX1_init_0 0 rfl ?_
  refine ww_objInit (pc := 1) hC ql_X1_3 qi_java_lang_Object__init_ qc_java_lang_Object__init_ dX1_init_1 ⟨Nat.le_of_ble_eq_true rfl, Nat.le_of_ble_eq_true rfl⟩ (Nat.le_of_ble_eq_true rfl) ?_
  refine ww_aload_n (pc := 4) hC dX1_init_4 0 rfl ?_
  refine ww_bipush (pc := 5) hC (v := (10 : Int32)) dX1_init_5 (by decide) ?_
  refine ww_newa (pc := 7) hC 13 (by decide) (by decide) rfl (ct0 hW _) (n := 25) (by decide +kernel) (by decide) (N := 10) (by decide) (Z' := cZ72) rfl (X' := cX73) rfl (by decide) qy_FieldType_int dX1_init_7 (Nat.le_of_ble_eq_true rfl) (Nat.le_of_ble_eq_true rfl) ?_
  refine ww_putR (pc := 9) hC (i := 24) (t := 25) 1 0 ⟨by decide +kernel, by decide +kernel⟩ RX1 (by decide) (by decide) rfl qf_X1_9 rfl hin rfl rfl rfl rfl (Z' := cZ74) rfl dX1_init_9 ?_
  refine ww_aload_n (pc := 12) hC dX1_init_12 0 rfl ?_
  refine ww_bipush (pc := 13) hC (v := (10 : Int32)) dX1_init_13 (by decide) ?_
  refine ww_newa (pc := 15) hC 13 (by decide) (by decide) rfl (ct0 hW _) (n := 26) (by decide +kernel) (by decide) (N := 10) (by decide) (Z' := cZ75) rfl (X' := cX76) rfl (by decide) qy_FieldType_int dX1_init_15 (Nat.le_of_ble_eq_true rfl) (Nat.le_of_ble_eq_true rfl) ?_
  refine ww_putR (pc := 17) hC (i := 24) (t := 26) 1 1 ⟨by decide +kernel, by decide +kernel⟩ RX1 (by decide) (by decide) rfl qf_X1_15 rfl hin rfl rfl rfl rfl (Z' := cZ77) rfl dX1_init_17 ?_
  refine ww_aload_n (pc := 20) hC dX1_init_20 0 rfl ?_
  refine ww_bipush (pc := 21) hC (v := (10 : Int32)) dX1_init_21 (by decide) ?_
  refine ww_newa (pc := 23) hC 13 (by decide) (by decide) rfl (ct0 hW _) (n := 27) (by decide +kernel) (by decide) (N := 10) (by decide) (Z' := cZ78) rfl (X' := cX79) rfl (by decide) qy_FieldType_int dX1_init_23 (Nat.le_of_ble_eq_true rfl) (Nat.le_of_ble_eq_true rfl) ?_
  refine ww_putR (pc := 25) hC (i := 24) (t := 27) 1 2 ⟨by decide +kernel, by decide +kernel⟩ RX1 (by decide) (by decide) rfl qf_X1_18 rfl hin rfl rfl rfl rfl (Z' := cZ80) rfl dX1_init_25 ?_
  refine ww_aload_n (pc := 28) hC dX1_init_28 0 rfl ?_
  refine ww_bipush (pc := 29) hC (v := (10 : Int32)) dX1_init_29 (by decide) ?_
  refine ww_newa (pc := 31) hC 13 (by decide) (by decide) rfl (ct0 hW _) (n := 28) (by decide +kernel) (by decide) (N := 10) (by decide) (Z' := cZ81) rfl (X' := cX82) rfl (by decide) qy_FieldType_int dX1_init_31 (Nat.le_of_ble_eq_true rfl) (Nat.le_of_ble_eq_true rfl) ?_
  refine ww_putR (pc := 33) hC (i := 24) (t := 28) 1 3 ⟨by decide +kernel, by decide +kernel⟩ RX1 (by decide) (by decide) rfl qf_X1_21 rfl hin rfl rfl rfl rfl (Z' := cZ83) rfl dX1_init_33 ?_
  refine ww_aload_n (pc := 36) hC dX1_init_36 0 rfl ?_
  refine ww_bipush (pc := 37) hC (v := (100 : Int32)) dX1_init_37 (by decide) ?_
  refine ww_newa (pc := 39) hC 13 (by decide) (by decide) rfl (ct0 hW _) (n := 29) (by decide +kernel) (by decide) (N := 100) (by decide) (Z' := cZ84) rfl (X' := cX85) rfl (by decide) qy_FieldType_int dX1_init_39 (Nat.le_of_ble_eq_true rfl) (Nat.le_of_ble_eq_true rfl) ?_
  refine ww_putR (pc := 41) hC (i := 24) (t := 29) 1 5 ⟨by decide +kernel, by decide +kernel⟩ RX1 (by decide) (by decide) rfl qf_X1_24 rfl hin rfl rfl rfl rfl (Z' := cZ86) rfl dX1_init_41 ?_
  refine ww_aload_n (pc := 44) hC dX1_init_44 0 rfl ?_
  refine ww_bipush (pc := 45) hC (v := (6 : Int32)) dX1_init_45 (by decide) ?_
  refine ww_newa (pc := 47) hC 13 (by decide) (by decide) rfl (ct0 hW _) (n := 30) (by decide +kernel) (by decide) (N := 6) (by decide) (Z' := cZ87) rfl (X' := cX88) rfl (by decide) qy_FieldType_int dX1_init_47 (Nat.le_of_ble_eq_true rfl) (Nat.le_of_ble_eq_true rfl) ?_
  refine ww_putR (pc := 49) hC (i := 24) (t := 30) 1 8 ⟨by decide +kernel, by decide +kernel⟩ RX1 (by decide) (by decide) rfl qf_X1_27 rfl hin rfl rfl rfl rfl (Z' := cZ89) rfl dX1_init_49 ?_
  exact ww_vret (pc := 52) hC hr (u := ()) (r := ()) rfl dX1_init_52
def cZ90 : XS := stR cZ89 2 3 24
def cZ91 : XS := newO 31 cZ90 1
def cX92 : XD := zX cX88 31
def cZ93 : XS := newA 32 cZ91 13 10
def cX94 : XD := zX cX92 32
def cZ95 : XS := stR cZ93 31 0 32
def cZ96 : XS := newA 33 cZ95 13 10
def cX97 : XD := zX cX94 33
def cZ98 : XS := stR cZ96 31 1 33
def cZ99 : XS := newA 34 cZ98 13 10
def cX100 : XD := zX cX97 34
def cZ101 : XS := stR cZ99 31 2 34
def cZ102 : XS := newA 35 cZ101 13 10
def cX103 : XD := zX cX100 35
def cZ104 : XS := stR cZ102 31 3 35
def cZ105 : XS := newA 36 cZ104 13 100
def cX106 : XD := zX cX103 36
def cZ107 : XS := stR cZ105 31 5 36
def cZ108 : XS := newA 37 cZ107 13 6
def cX109 : XD := zX cX106 37
def cZ110 : XS := stR cZ108 31 8 37
set_option maxHeartbeats 40000000 in
set_option maxRecDepth 100000 in
theorem ciX1_init_6 {l : Launch} {E : XE} {w : XW} (hW : ∀ i : Nat, w.1 i = w.1 0 + i) : Ct l E w yX1_init (wsM yX1_init cX1_init 1 none) (rmX 1 6 146) 6 146 [.ref (w.1 31)] (w.1 (sn cZ91)) (w.1 (sn cZ110)) cZ91 cZ110 cX92 cX109 none := by
  refine ct_of (by decide) (Nat.le_of_ble_eq_true rfl) ?_
  intro p e s m args below meth c hC hr hin hav
  refine ww_lv (lv' := [(0, .ref (w.1 31))]) rfl ?_
  refine ww_aload_n (pc := 0) hC dX1_init_0 0 rfl ?_
  refine ww_objInit (pc := 1) hC ql_X1_3 qi_java_lang_Object__init_ qc_java_lang_Object__init_ dX1_init_1 ⟨Nat.le_of_ble_eq_true rfl, Nat.le_of_ble_eq_true rfl⟩ (Nat.le_of_ble_eq_true rfl) ?_
  refine ww_aload_n (pc := 4) hC dX1_init_4 0 rfl ?_
  refine ww_bipush (pc := 5) hC (v := (10 : Int32)) dX1_init_5 (by decide) ?_
  refine ww_newa (pc := 7) hC 13 (by decide) (by decide) rfl (ct0 hW _) (n := 32) (by decide +kernel) (by decide) (N := 10) (by decide) (Z' := cZ93) rfl (X' := cX94) rfl (by decide) qy_FieldType_int dX1_init_7 (Nat.le_of_ble_eq_true rfl) (Nat.le_of_ble_eq_true rfl) ?_
  refine ww_putR (pc := 9) hC (i := 31) (t := 32) 1 0 ⟨by decide +kernel, by decide +kernel⟩ RX1 (by decide) (by decide) rfl qf_X1_9 rfl hin rfl rfl rfl rfl (Z' := cZ95) rfl dX1_init_9 ?_
  refine ww_aload_n (pc := 12) hC dX1_init_12 0 rfl ?_
  refine ww_bipush (pc := 13) hC (v := (10 : Int32)) dX1_init_13 (by decide) ?_
  refine ww_newa (pc := 15) hC 13 (by decide) (by decide) rfl (ct0 hW _) (n := 33) (by decide +kernel) (by decide) (N := 10) (by decide) (Z' := cZ96) rfl (X' := cX97) rfl (by decide) qy_FieldType_int dX1_init_15 (Nat.le_of_ble_eq_true rfl) (Nat.le_of_ble_eq_true rfl) ?_
  refine ww_putR (pc := 17) hC (i := 31) (t := 33) 1 1 ⟨by decide +kernel, by decide +kernel⟩ RX1 (by decide) (by decide) rfl qf_X1_15 rfl hin rfl rfl rfl rfl (Z' := cZ98) rfl dX1_init_17 ?_
  refine ww_aload_n (pc := 20) hC dX1_init_20 0 rfl ?_
  refine ww_bipush (pc := 21) hC (v := (10 : Int32)) dX1_init_21 (by decide) ?_
  refine ww_newa (pc := 23) hC 13 (by decide) (by decide) rfl (ct0 hW _) (n := 34) (by decide +kernel) (by decide) (N := 10) (by decide) (Z' := cZ99) rfl (X' := cX100) rfl (by decide) qy_FieldType_int dX1_init_23 (Nat.le_of_ble_eq_true rfl) (Nat.le_of_ble_eq_true rfl) ?_
  refine ww_putR (pc := 25) hC (i := 31) (t := 34) 1 2 ⟨by decide +kernel, by decide +kernel⟩ RX1 (by decide) (by decide) rfl qf_X1_18 rfl hin rfl rfl rfl rfl (Z' := cZ101) rfl dX1_init_25 ?_
  refine ww_aload_n (pc := 28) hC dX1_init_28 0 rfl ?_
  refine ww_bipush (pc := 29) hC (v := (10 : Int32)) dX1_init_29 (by decide) ?_
  refine ww_newa (pc := 31) hC 13 (by decide) (by decide) rfl (ct0 hW _) (n := 35) (by decide +kernel) (by decide) (N := 10) (by decide) (Z' := cZ102) rfl (X' := cX103) rfl (by decide) qy_FieldType_int dX1_init_31 (Nat.le_of_ble_eq_true rfl) (Nat.le_of_ble_eq_true rfl) ?_
  refine ww_putR (pc := 33) hC (i := 31) (t := 35) 1 3 ⟨by decide +kernel, by decide +kernel⟩ RX1 (by decide) (by decide) rfl qf_X1_21 rfl hin rfl rfl rfl rfl (Z' := cZ104) rfl dX1_init_33 ?_
  refine ww_aload_n (pc := 36) hC dX1_init_36 0 rfl ?_
  refine ww_bipush (pc := 37) hC (v := (100 : Int32)) dX1_init_37 (by decide) ?_
  refine ww_newa (pc := 39) hC 13 (by decide) (by decide) rfl (ct0 hW _) (n := 36) (by decide +kernel) (by decide) (N := 100) (by decide) (Z' := cZ105) rfl (X' := cX106) rfl (by decide) qy_FieldType_int dX1_init_39 (Nat.le_of_ble_eq_true rfl) (Nat.le_of_ble_eq_true rfl) ?_
  refine ww_putR (pc := 41) hC (i := 31) (t := 36) 1 5 ⟨by decide +kernel, by decide +kernel⟩ RX1 (by decide) (by decide) rfl qf_X1_24 rfl hin rfl rfl rfl rfl (Z' := cZ107) rfl dX1_init_41 ?_
  refine ww_aload_n (pc := 44) hC dX1_init_44 0 rfl ?_
  refine ww_bipush (pc := 45) hC (v := (6 : Int32)) dX1_init_45 (by decide) ?_
  refine ww_newa (pc := 47) hC 13 (by decide) (by decide) rfl (ct0 hW _) (n := 37) (by decide +kernel) (by decide) (N := 6) (by decide) (Z' := cZ108) rfl (X' := cX109) rfl (by decide) qy_FieldType_int dX1_init_47 (Nat.le_of_ble_eq_true rfl) (Nat.le_of_ble_eq_true rfl) ?_
  refine ww_putR (pc := 49) hC (i := 31) (t := 37) 1 8 ⟨by decide +kernel, by decide +kernel⟩ RX1 (by decide) (by decide) rfl qf_X1_27 rfl hin rfl rfl rfl rfl (Z' := cZ110) rfl dX1_init_49 ?_
  exact ww_vret (pc := 52) hC hr (u := ()) (r := ()) rfl dX1_init_52
def cZ111 : XS := stR cZ110 2 4 31
def cZ112 : XS := newO 38 cZ111 1
def cX113 : XD := zX cX109 38
def cZ114 : XS := newA 39 cZ112 13 10
def cX115 : XD := zX cX113 39
def cZ116 : XS := stR cZ114 38 0 39
def cZ117 : XS := newA 40 cZ116 13 10
def cX118 : XD := zX cX115 40
def cZ119 : XS := stR cZ117 38 1 40
def cZ120 : XS := newA 41 cZ119 13 10
def cX121 : XD := zX cX118 41
def cZ122 : XS := stR cZ120 38 2 41
def cZ123 : XS := newA 42 cZ122 13 10
def cX124 : XD := zX cX121 42
def cZ125 : XS := stR cZ123 38 3 42
def cZ126 : XS := newA 43 cZ125 13 100
def cX127 : XD := zX cX124 43
def cZ128 : XS := stR cZ126 38 5 43
def cZ129 : XS := newA 44 cZ128 13 6
def cX130 : XD := zX cX127 44
def cZ131 : XS := stR cZ129 38 8 44
set_option maxHeartbeats 40000000 in
set_option maxRecDepth 100000 in
theorem ciX1_init_7 {l : Launch} {E : XE} {w : XW} (hW : ∀ i : Nat, w.1 i = w.1 0 + i) : Ct l E w yX1_init (wsM yX1_init cX1_init 1 none) (rmX 1 6 146) 6 146 [.ref (w.1 38)] (w.1 (sn cZ112)) (w.1 (sn cZ131)) cZ112 cZ131 cX113 cX130 none := by
  refine ct_of (by decide) (Nat.le_of_ble_eq_true rfl) ?_
  intro p e s m args below meth c hC hr hin hav
  refine ww_lv (lv' := [(0, .ref (w.1 38))]) rfl ?_
  refine ww_aload_n (pc := 0) hC dX1_init_0 0 rfl ?_
  refine ww_objInit (pc := 1) hC ql_X1_3 qi_java_lang_Object__init_ qc_java_lang_Object__init_ dX1_init_1 ⟨Nat.le_of_ble_eq_true rfl, Nat.le_of_ble_eq_true rfl⟩ (Nat.le_of_ble_eq_true rfl) ?_
  refine ww_aload_n (pc := 4) hC dX1_init_4 0 rfl ?_
  refine ww_bipush (pc := 5) hC (v := (10 : Int32)) dX1_init_5 (by decide) ?_
  refine ww_newa (pc := 7) hC 13 (by decide) (by decide) rfl (ct0 hW _) (n := 39) (by decide +kernel) (by decide) (N := 10) (by decide) (Z' := cZ114) rfl (X' := cX115) rfl (by decide) qy_FieldType_int dX1_init_7 (Nat.le_of_ble_eq_true rfl) (Nat.le_of_ble_eq_true rfl) ?_
  refine ww_putR (pc := 9) hC (i := 38) (t := 39) 1 0 ⟨by decide +kernel, by decide +kernel⟩ RX1 (by decide) (by decide) rfl qf_X1_9 rfl hin rfl rfl rfl rfl (Z' := cZ116) rfl dX1_init_9 ?_
  refine ww_aload_n (pc := 12) hC dX1_init_12 0 rfl ?_
  refine ww_bipush (pc := 13) hC (v := (10 : Int32)) dX1_init_13 (by decide) ?_
  refine ww_newa (pc := 15) hC 13 (by decide) (by decide) rfl (ct0 hW _) (n := 40) (by decide +kernel) (by decide) (N := 10) (by decide) (Z' := cZ117) rfl (X' := cX118) rfl (by decide) qy_FieldType_int dX1_init_15 (Nat.le_of_ble_eq_true rfl) (Nat.le_of_ble_eq_true rfl) ?_
  refine ww_putR (pc := 17) hC (i := 38) (t := 40) 1 1 ⟨by decide +kernel, by decide +kernel⟩ RX1 (by decide) (by decide) rfl qf_X1_15 rfl hin rfl rfl rfl rfl (Z' := cZ119) rfl dX1_init_17 ?_
  refine ww_aload_n (pc := 20) hC dX1_init_20 0 rfl ?_
  refine ww_bipush (pc := 21) hC (v := (10 : Int32)) dX1_init_21 (by decide) ?_
  refine ww_newa (pc := 23) hC 13 (by decide) (by decide) rfl (ct0 hW _) (n := 41) (by decide +kernel) (by decide) (N := 10) (by decide) (Z' := cZ120) rfl (X' := cX121) rfl (by decide) qy_FieldType_int dX1_init_23 (Nat.le_of_ble_eq_true rfl) (Nat.le_of_ble_eq_true rfl) ?_
  refine ww_putR (pc := 25) hC (i := 38) (t := 41) 1 2 ⟨by decide +kernel, by decide +kernel⟩ RX1 (by decide) (by decide) rfl qf_X1_18 rfl hin rfl rfl rfl rfl (Z' := cZ122) rfl dX1_init_25 ?_
  refine ww_aload_n (pc := 28) hC dX1_init_28 0 rfl ?_
  refine ww_bipush (pc := 29) hC (v := (10 : Int32)) dX1_init_29 (by decide) ?_
  refine ww_newa (pc := 31) hC 13 (by decide) (by decide) rfl (ct0 hW _) (n := 42) (by decide +kernel) (by decide) (N := 10) (by decide) (Z' := cZ123) rfl (X' := cX124) rfl (by decide) qy_FieldType_int dX1_init_31 (Nat.le_of_ble_eq_true rfl) (Nat.le_of_ble_eq_true rfl) ?_
  refine ww_putR (pc := 33) hC (i := 38) (t := 42) 1 3 ⟨by decide +kernel, by decide +kernel⟩ RX1 (by decide) (by decide) rfl qf_X1_21 rfl hin rfl rfl rfl rfl (Z' := cZ125) rfl dX1_init_33 ?_
  refine ww_aload_n (pc := 36) hC dX1_init_36 0 rfl ?_
  refine ww_bipush (pc := 37) hC (v := (100 : Int32)) dX1_init_37 (by decide) ?_
  refine ww_newa (pc := 39) hC 13 (by decide) (by decide) rfl (ct0 hW _) (n := 43) (by decide +kernel) (by decide) (N := 100) (by decide) (Z' := cZ126) rfl (X' := cX127) rfl (by decide) qy_FieldType_int dX1_init_39 (Nat.le_of_ble_eq_true rfl) (Nat.le_of_ble_eq_true rfl) ?_
  refine ww_putR (pc := 41) hC (i := 38) (t := 43) 1 5 ⟨by decide +kernel, by decide +kernel⟩ RX1 (by decide) (by decide) rfl qf_X1_24 rfl hin rfl rfl rfl rfl (Z' := cZ128) rfl dX1_init_41 ?_
  refine ww_aload_n (pc := 44) hC dX1_init_44 0 rfl ?_
  refine ww_bipush (pc := 45) hC (v := (6 : Int32)) dX1_init_45 (by decide) ?_
  refine ww_newa (pc := 47) hC 13 (by decide) (by decide) rfl (ct0 hW _) (n := 44) (by decide +kernel) (by decide) (N := 6) (by decide) (Z' := cZ129) rfl (X' := cX130) rfl (by decide) qy_FieldType_int dX1_init_47 (Nat.le_of_ble_eq_true rfl) (Nat.le_of_ble_eq_true rfl) ?_
  refine ww_putR (pc := 49) hC (i := 38) (t := 44) 1 8 ⟨by decide +kernel, by decide +kernel⟩ RX1 (by decide) (by decide) rfl qf_X1_27 rfl hin rfl rfl rfl rfl (Z' := cZ131) rfl dX1_init_49 ?_
  exact ww_vret (pc := 52) hC hr (u := ()) (r := ()) rfl dX1_init_52
def cZ132 : XS := stR cZ131 2 5 38
def cZ133 : XS := newO 45 cZ132 3
def cX134 : XD := zX cX130 45
def cZ135 : XS := newA 46 cZ133 13 100
def cX136 : XD := zX cX134 46
def cZ137 : XS := stR cZ135 45 0 46
set_option maxHeartbeats 40000000 in
set_option maxRecDepth 100000 in
theorem ciX3_init_8 {l : Launch} {E : XE} {w : XW} (hW : ∀ i : Nat, w.1 i = w.1 0 + i) : Ct l E w yX3_init (wsM yX3_init cX3_init 2 none) (rmX 1 1 100) 1 100 [.ref (w.1 45), .int (100 : Int32)] (w.1 (sn cZ133)) (w.1 (sn cZ137)) cZ133 cZ137 cX134 cX136 none := by
  refine ct_of (by decide) (Nat.le_of_ble_eq_true rfl) ?_
  intro p e s m args below meth c hC hr hin hav
  refine ww_lv (lv' := [(0, .ref (w.1 45)), (1, .int (100 : Int32))]) rfl ?_
  refine ww_aload_n (pc := 0) hC dX3_init_0 0 rfl ?_
  refine ww_objInit (pc := 1) hC ql_X3_3 qi_java_lang_Object__init_ qc_java_lang_Object__init_ dX3_init_1 ⟨Nat.le_of_ble_eq_true rfl, Nat.le_of_ble_eq_true rfl⟩ (Nat.le_of_ble_eq_true rfl) ?_
  refine ww_aload_n (pc := 4) hC dX3_init_4 0 rfl ?_
  refine ww_iconst (pc := 5) hC (v := (0 : Int32)) dX3_init_5 (by decide) ?_
  refine ww_iload_n (pc := 6) hC dX3_init_6 1 rfl ?_
  refine ww_max (pc := 7) hC ql_X3_9 qt_J9_max_7cf53 qn_J9 qc_J9_max_7cf53 dX3_init_7 ⟨Nat.le_of_ble_eq_true rfl, Nat.le_of_ble_eq_true rfl⟩ (Nat.le_of_ble_eq_true rfl) ⟨Nat.le_of_ble_eq_true rfl, Nat.le_of_ble_eq_true rfl⟩ ?_
  rw [show (if (0 : Int32) < (100 : Int32) then (100 : Int32) else (0 : Int32)) = (100 : Int32) by decide]
  refine ww_newa (pc := 10) hC 13 (by decide) (by decide) rfl (ct0 hW _) (n := 46) (by decide +kernel) (by decide) (N := 100) (by decide) (Z' := cZ135) rfl (X' := cX136) rfl (by decide) qy_FieldType_int dX3_init_10 (Nat.le_of_ble_eq_true rfl) (Nat.le_of_ble_eq_true rfl) ?_
  refine ww_putR (pc := 12) hC (i := 45) (t := 46) 3 0 ⟨by decide +kernel, by decide +kernel⟩ RX3 (by decide) (by decide) rfl qf_X3_15 rfl hin rfl rfl rfl rfl (Z' := cZ137) rfl dX3_init_12 ?_
  exact ww_vret (pc := 15) hC hr (u := ()) (r := ()) rfl dX3_init_15
def cZ138 : XS := stR cZ137 0 3 45
def cZ139 : XS := newO 47 cZ138 6
def cX140 : XD := zX cX136 47
def cX141 : XD := wI cX140 47 1 (-1 : Int32)
def cZ142 : XS := newA 48 cZ139 13 6
def cX143 : XD := zX cX141 48
def cZ144 : XS := stR cZ142 47 4 48
def cX145 : XD := fillI cX143 48 6 (3 : Int32)
def cZ146 : XS := newA 49 cZ144 13 6
def cX147 : XD := zX cX145 49
def cZ148 : XS := stR cZ146 47 5 49
def cZ149 : XS := newA 50 cZ148 13 6
def cX150 : XD := zX cX147 50
def cZ151 : XS := stR cZ149 47 6 50
def cZ152 : XS := newA 51 cZ151 13 24
def cX153 : XD := zX cX150 51
def cZ154 : XS := stR cZ152 47 7 51
def cZ155 : XS := newO 52 cZ154 3
def cX156 : XD := zX cX153 52
def cZ157 : XS := newA 53 cZ155 13 4
def cX158 : XD := zX cX156 53
def cZ159 : XS := stR cZ157 52 0 53
set_option maxHeartbeats 40000000 in
set_option maxRecDepth 100000 in
theorem ciX3_init_10 {l : Launch} {E : XE} {w : XW} (hW : ∀ i : Nat, w.1 i = w.1 0 + i) : Ct l E w yX3_init (wsM yX3_init cX3_init 2 none) (rmX 1 1 4) 1 4 [.ref (w.1 52), .int (4 : Int32)] (w.1 (sn cZ155)) (w.1 (sn cZ159)) cZ155 cZ159 cX156 cX158 none := by
  refine ct_of (by decide) (Nat.le_of_ble_eq_true rfl) ?_
  intro p e s m args below meth c hC hr hin hav
  refine ww_lv (lv' := [(0, .ref (w.1 52)), (1, .int (4 : Int32))]) rfl ?_
  refine ww_aload_n (pc := 0) hC dX3_init_0 0 rfl ?_
  refine ww_objInit (pc := 1) hC ql_X3_3 qi_java_lang_Object__init_ qc_java_lang_Object__init_ dX3_init_1 ⟨Nat.le_of_ble_eq_true rfl, Nat.le_of_ble_eq_true rfl⟩ (Nat.le_of_ble_eq_true rfl) ?_
  refine ww_aload_n (pc := 4) hC dX3_init_4 0 rfl ?_
  refine ww_iconst (pc := 5) hC (v := (0 : Int32)) dX3_init_5 (by decide) ?_
  refine ww_iload_n (pc := 6) hC dX3_init_6 1 rfl ?_
  refine ww_max (pc := 7) hC ql_X3_9 qt_J9_max_7cf53 qn_J9 qc_J9_max_7cf53 dX3_init_7 ⟨Nat.le_of_ble_eq_true rfl, Nat.le_of_ble_eq_true rfl⟩ (Nat.le_of_ble_eq_true rfl) ⟨Nat.le_of_ble_eq_true rfl, Nat.le_of_ble_eq_true rfl⟩ ?_
  rw [show (if (0 : Int32) < (4 : Int32) then (4 : Int32) else (0 : Int32)) = (4 : Int32) by decide]
  refine ww_newa (pc := 10) hC 13 (by decide) (by decide) rfl (ct0 hW _) (n := 53) (by decide +kernel) (by decide) (N := 4) (by decide) (Z' := cZ157) rfl (X' := cX158) rfl (by decide) qy_FieldType_int dX3_init_10 (Nat.le_of_ble_eq_true rfl) (Nat.le_of_ble_eq_true rfl) ?_
  refine ww_putR (pc := 12) hC (i := 52) (t := 53) 3 0 ⟨by decide +kernel, by decide +kernel⟩ RX3 (by decide) (by decide) rfl qf_X3_15 rfl hin rfl rfl rfl rfl (Z' := cZ159) rfl dX3_init_12 ?_
  exact ww_vret (pc := 15) hC hr (u := ()) (r := ()) rfl dX3_init_15
def cZ160 : XS := stR cZ159 47 8 52
def cZ161 : XS := newO 54 cZ160 3
def cX162 : XD := zX cX158 54
def cZ163 : XS := newA 55 cZ161 13 6
def cX164 : XD := zX cX162 55
def cZ165 : XS := stR cZ163 54 0 55
set_option maxHeartbeats 40000000 in
set_option maxRecDepth 100000 in
theorem ciX3_init_11 {l : Launch} {E : XE} {w : XW} (hW : ∀ i : Nat, w.1 i = w.1 0 + i) : Ct l E w yX3_init (wsM yX3_init cX3_init 2 none) (rmX 1 1 6) 1 6 [.ref (w.1 54), .int (6 : Int32)] (w.1 (sn cZ161)) (w.1 (sn cZ165)) cZ161 cZ165 cX162 cX164 none := by
  refine ct_of (by decide) (Nat.le_of_ble_eq_true rfl) ?_
  intro p e s m args below meth c hC hr hin hav
  refine ww_lv (lv' := [(0, .ref (w.1 54)), (1, .int (6 : Int32))]) rfl ?_
  refine ww_aload_n (pc := 0) hC dX3_init_0 0 rfl ?_
  refine ww_objInit (pc := 1) hC ql_X3_3 qi_java_lang_Object__init_ qc_java_lang_Object__init_ dX3_init_1 ⟨Nat.le_of_ble_eq_true rfl, Nat.le_of_ble_eq_true rfl⟩ (Nat.le_of_ble_eq_true rfl) ?_
  refine ww_aload_n (pc := 4) hC dX3_init_4 0 rfl ?_
  refine ww_iconst (pc := 5) hC (v := (0 : Int32)) dX3_init_5 (by decide) ?_
  refine ww_iload_n (pc := 6) hC dX3_init_6 1 rfl ?_
  refine ww_max (pc := 7) hC ql_X3_9 qt_J9_max_7cf53 qn_J9 qc_J9_max_7cf53 dX3_init_7 ⟨Nat.le_of_ble_eq_true rfl, Nat.le_of_ble_eq_true rfl⟩ (Nat.le_of_ble_eq_true rfl) ⟨Nat.le_of_ble_eq_true rfl, Nat.le_of_ble_eq_true rfl⟩ ?_
  rw [show (if (0 : Int32) < (6 : Int32) then (6 : Int32) else (0 : Int32)) = (6 : Int32) by decide]
  refine ww_newa (pc := 10) hC 13 (by decide) (by decide) rfl (ct0 hW _) (n := 55) (by decide +kernel) (by decide) (N := 6) (by decide) (Z' := cZ163) rfl (X' := cX164) rfl (by decide) qy_FieldType_int dX3_init_10 (Nat.le_of_ble_eq_true rfl) (Nat.le_of_ble_eq_true rfl) ?_
  refine ww_putR (pc := 12) hC (i := 54) (t := 55) 3 0 ⟨by decide +kernel, by decide +kernel⟩ RX3 (by decide) (by decide) rfl qf_X3_15 rfl hin rfl rfl rfl rfl (Z' := cZ165) rfl dX3_init_12 ?_
  exact ww_vret (pc := 15) hC hr (u := ()) (r := ()) rfl dX3_init_15
def cZ166 : XS := stR cZ165 47 9 54
def cZ167 : XS := newO 56 cZ166 3
def cX168 : XD := zX cX164 56
def cZ169 : XS := newA 57 cZ167 13 10
def cX170 : XD := zX cX168 57
def cZ171 : XS := stR cZ169 56 0 57
set_option maxHeartbeats 40000000 in
set_option maxRecDepth 100000 in
theorem ciX3_init_12 {l : Launch} {E : XE} {w : XW} (hW : ∀ i : Nat, w.1 i = w.1 0 + i) : Ct l E w yX3_init (wsM yX3_init cX3_init 2 none) (rmX 1 1 10) 1 10 [.ref (w.1 56), .int (10 : Int32)] (w.1 (sn cZ167)) (w.1 (sn cZ171)) cZ167 cZ171 cX168 cX170 none := by
  refine ct_of (by decide) (Nat.le_of_ble_eq_true rfl) ?_
  intro p e s m args below meth c hC hr hin hav
  refine ww_lv (lv' := [(0, .ref (w.1 56)), (1, .int (10 : Int32))]) rfl ?_
  refine ww_aload_n (pc := 0) hC dX3_init_0 0 rfl ?_
  refine ww_objInit (pc := 1) hC ql_X3_3 qi_java_lang_Object__init_ qc_java_lang_Object__init_ dX3_init_1 ⟨Nat.le_of_ble_eq_true rfl, Nat.le_of_ble_eq_true rfl⟩ (Nat.le_of_ble_eq_true rfl) ?_
  refine ww_aload_n (pc := 4) hC dX3_init_4 0 rfl ?_
  refine ww_iconst (pc := 5) hC (v := (0 : Int32)) dX3_init_5 (by decide) ?_
  refine ww_iload_n (pc := 6) hC dX3_init_6 1 rfl ?_
  refine ww_max (pc := 7) hC ql_X3_9 qt_J9_max_7cf53 qn_J9 qc_J9_max_7cf53 dX3_init_7 ⟨Nat.le_of_ble_eq_true rfl, Nat.le_of_ble_eq_true rfl⟩ (Nat.le_of_ble_eq_true rfl) ⟨Nat.le_of_ble_eq_true rfl, Nat.le_of_ble_eq_true rfl⟩ ?_
  rw [show (if (0 : Int32) < (10 : Int32) then (10 : Int32) else (0 : Int32)) = (10 : Int32) by decide]
  refine ww_newa (pc := 10) hC 13 (by decide) (by decide) rfl (ct0 hW _) (n := 57) (by decide +kernel) (by decide) (N := 10) (by decide) (Z' := cZ169) rfl (X' := cX170) rfl (by decide) qy_FieldType_int dX3_init_10 (Nat.le_of_ble_eq_true rfl) (Nat.le_of_ble_eq_true rfl) ?_
  refine ww_putR (pc := 12) hC (i := 56) (t := 57) 3 0 ⟨by decide +kernel, by decide +kernel⟩ RX3 (by decide) (by decide) rfl qf_X3_15 rfl hin rfl rfl rfl rfl (Z' := cZ171) rfl dX3_init_12 ?_
  exact ww_vret (pc := 15) hC hr (u := ()) (r := ()) rfl dX3_init_15
def cZ172 : XS := stR cZ171 47 10 56
def cZ173 : XS := newO 58 cZ172 3
def cX174 : XD := zX cX170 58
def cZ175 : XS := newA 59 cZ173 13 10
def cX176 : XD := zX cX174 59
def cZ177 : XS := stR cZ175 58 0 59
set_option maxHeartbeats 40000000 in
set_option maxRecDepth 100000 in
theorem ciX3_init_13 {l : Launch} {E : XE} {w : XW} (hW : ∀ i : Nat, w.1 i = w.1 0 + i) : Ct l E w yX3_init (wsM yX3_init cX3_init 2 none) (rmX 1 1 10) 1 10 [.ref (w.1 58), .int (10 : Int32)] (w.1 (sn cZ173)) (w.1 (sn cZ177)) cZ173 cZ177 cX174 cX176 none := by
  refine ct_of (by decide) (Nat.le_of_ble_eq_true rfl) ?_
  intro p e s m args below meth c hC hr hin hav
  refine ww_lv (lv' := [(0, .ref (w.1 58)), (1, .int (10 : Int32))]) rfl ?_
  refine ww_aload_n (pc := 0) hC dX3_init_0 0 rfl ?_
  refine ww_objInit (pc := 1) hC ql_X3_3 qi_java_lang_Object__init_ qc_java_lang_Object__init_ dX3_init_1 ⟨Nat.le_of_ble_eq_true rfl, Nat.le_of_ble_eq_true rfl⟩ (Nat.le_of_ble_eq_true rfl) ?_
  refine ww_aload_n (pc := 4) hC dX3_init_4 0 rfl ?_
  refine ww_iconst (pc := 5) hC (v := (0 : Int32)) dX3_init_5 (by decide) ?_
  refine ww_iload_n (pc := 6) hC dX3_init_6 1 rfl ?_
  refine ww_max (pc := 7) hC ql_X3_9 qt_J9_max_7cf53 qn_J9 qc_J9_max_7cf53 dX3_init_7 ⟨Nat.le_of_ble_eq_true rfl, Nat.le_of_ble_eq_true rfl⟩ (Nat.le_of_ble_eq_true rfl) ⟨Nat.le_of_ble_eq_true rfl, Nat.le_of_ble_eq_true rfl⟩ ?_
  rw [show (if (0 : Int32) < (10 : Int32) then (10 : Int32) else (0 : Int32)) = (10 : Int32) by decide]
  refine ww_newa (pc := 10) hC 13 (by decide) (by decide) rfl (ct0 hW _) (n := 59) (by decide +kernel) (by decide) (N := 10) (by decide) (Z' := cZ175) rfl (X' := cX176) rfl (by decide) qy_FieldType_int dX3_init_10 (Nat.le_of_ble_eq_true rfl) (Nat.le_of_ble_eq_true rfl) ?_
  refine ww_putR (pc := 12) hC (i := 58) (t := 59) 3 0 ⟨by decide +kernel, by decide +kernel⟩ RX3 (by decide) (by decide) rfl qf_X3_15 rfl hin rfl rfl rfl rfl (Z' := cZ177) rfl dX3_init_12 ?_
  exact ww_vret (pc := 15) hC hr (u := ()) (r := ()) rfl dX3_init_15
def cZ178 : XS := stR cZ177 47 11 58
set_option maxHeartbeats 40000000 in
set_option maxRecDepth 100000 in
theorem ciX6_init_9 {l : Launch} {E : XE} {w : XW} (hW : ∀ i : Nat, w.1 i = w.1 0 + i) : Ct l E w yX6_init (wsM yX6_init cX6_init 1 none) (rmX 2 12 84) 12 84 [.ref (w.1 47)] (w.1 (sn cZ139)) (w.1 (sn cZ178)) cZ139 cZ178 cX140 cX176 none := by
  refine ct_of (by decide) (Nat.le_of_ble_eq_true rfl) ?_
  intro p e s m args below meth c hC hr hin hav
  refine ww_lv (lv' := [(0, .ref (w.1 47))]) rfl ?_
  refine ww_aload_n (pc := 0) hC dX6_init_0 0 rfl ?_
  refine ww_objInit (pc := 1) hC ql_X6_3 qi_java_lang_Object__init_ qc_java_lang_Object__init_ dX6_init_1 ⟨Nat.le_of_ble_eq_true rfl, Nat.le_of_ble_eq_true rfl⟩ (Nat.le_of_ble_eq_true rfl) ?_
  refine ww_aload_n (pc := 4) hC dX6_init_4 0 rfl ?_
  refine ww_iconst (pc := 5) hC (v := (-1 : Int32)) dX6_init_5 (by decide) ?_
  refine ww_putI (pc := 6) hC (i := 47) 6 1 ⟨by decide +kernel, by decide +kernel⟩ RX6 (by decide) (by decide) rfl qf_X6_9 rfl rfl rfl rfl dX6_init_6 ?_
  refine ww_nmX (X' := cX141) rfl ?_
  refine ww_aload_n (pc := 9) hC dX6_init_9 0 rfl ?_
  refine ww_bipush (pc := 10) hC (v := (6 : Int32)) dX6_init_10 (by decide) ?_
  refine ww_newa (pc := 12) hC 13 (by decide) (by decide) rfl (ct0 hW _) (n := 48) (by decide +kernel) (by decide) (N := 6) (by decide) (Z' := cZ142) rfl (X' := cX143) rfl (by decide) qy_FieldType_int dX6_init_12 (Nat.le_of_ble_eq_true rfl) (Nat.le_of_ble_eq_true rfl) ?_
  refine ww_putR (pc := 14) hC (i := 47) (t := 48) 6 4 ⟨by decide +kernel, by decide +kernel⟩ RX6 (by decide) (by decide) rfl qf_X6_15 rfl hin rfl rfl rfl rfl (Z' := cZ144) rfl dX6_init_14 ?_
  refine ww_aload_n (pc := 17) hC dX6_init_17 0 rfl ?_
  refine ww_getR (pc := 18) hC (i := 47) 6 4 48 ⟨by decide +kernel, by decide +kernel⟩ RX6 (by decide) (by decide) rfl (by decide +kernel) qf_X6_15 rfl dX6_init_18 ?_
  refine ww_iconst (pc := 21) hC (v := (3 : Int32)) dX6_init_21 (by decide) ?_
  refine ww_callSv (pc := 22) hC [.ref (w.1 48), .int (3 : Int32)] (X' := cX145) (ceJ7_fill_53178 (show KA cZ144 48 13 (sL cZ144 48) from ⟨by decide +kernel, by decide +kernel, rfl⟩) (fill_eq (n := 6) (by decide) (show sL cZ144 48 = 6 by decide +kernel))) ql_X6_19 qt_J7_fill_53178 qn_J7 qc_J7_fill_53178 ⟨by decide, by decide, rfl⟩ rfl ⟨Nat.le_of_ble_eq_true rfl, Nat.le_of_ble_eq_true rfl⟩ (by decide) (rest := []) (Nat.le_of_ble_eq_true rfl) dX6_init_22 ⟨Nat.le_of_ble_eq_true rfl, Nat.le_of_ble_eq_true rfl⟩ rfl ?_
  refine ww_aload_n (pc := 25) hC dX6_init_25 0 rfl ?_
  refine ww_bipush (pc := 26) hC (v := (6 : Int32)) dX6_init_26 (by decide) ?_
  refine ww_newa (pc := 28) hC 13 (by decide) (by decide) rfl (ct0 hW _) (n := 49) (by decide +kernel) (by decide) (N := 6) (by decide) (Z' := cZ146) rfl (X' := cX147) rfl (by decide) qy_FieldType_int dX6_init_28 (Nat.le_of_ble_eq_true rfl) (Nat.le_of_ble_eq_true rfl) ?_
  refine ww_putR (pc := 30) hC (i := 47) (t := 49) 6 5 ⟨by decide +kernel, by decide +kernel⟩ RX6 (by decide) (by decide) rfl qf_X6_25 rfl hin rfl rfl rfl rfl (Z' := cZ148) rfl dX6_init_30 ?_
  refine ww_aload_n (pc := 33) hC dX6_init_33 0 rfl ?_
  refine ww_bipush (pc := 34) hC (v := (6 : Int32)) dX6_init_34 (by decide) ?_
  refine ww_newa (pc := 36) hC 13 (by decide) (by decide) rfl (ct0 hW _) (n := 50) (by decide +kernel) (by decide) (N := 6) (by decide) (Z' := cZ149) rfl (X' := cX150) rfl (by decide) qy_FieldType_int dX6_init_36 (Nat.le_of_ble_eq_true rfl) (Nat.le_of_ble_eq_true rfl) ?_
  refine ww_putR (pc := 38) hC (i := 47) (t := 50) 6 6 ⟨by decide +kernel, by decide +kernel⟩ RX6 (by decide) (by decide) rfl qf_X6_28 rfl hin rfl rfl rfl rfl (Z' := cZ151) rfl dX6_init_38 ?_
  refine ww_aload_n (pc := 41) hC dX6_init_41 0 rfl ?_
  refine ww_bipush (pc := 42) hC (v := (24 : Int32)) dX6_init_42 (by decide) ?_
  refine ww_newa (pc := 44) hC 13 (by decide) (by decide) rfl (ct0 hW _) (n := 51) (by decide +kernel) (by decide) (N := 24) (by decide) (Z' := cZ152) rfl (X' := cX153) rfl (by decide) qy_FieldType_int dX6_init_44 (Nat.le_of_ble_eq_true rfl) (Nat.le_of_ble_eq_true rfl) ?_
  refine ww_putR (pc := 46) hC (i := 47) (t := 51) 6 7 ⟨by decide +kernel, by decide +kernel⟩ RX6 (by decide) (by decide) rfl qf_X6_31 rfl hin rfl rfl rfl rfl (Z' := cZ154) rfl dX6_init_46 ?_
  refine ww_aload_n (pc := 49) hC dX6_init_49 0 rfl ?_
  refine ww_new (pc := 50) hC 3 (by decide) (ct0 hW _) (n := 52) (by decide +kernel) rfl (Z' := cZ155) rfl (X' := cX156) rfl qk_X6_34 qa_X3 qn_X3 dX6_init_50 (Nat.le_of_ble_eq_true rfl) (Nat.le_of_ble_eq_true rfl) ?_
  refine ww_dup (pc := 53) hC dX6_init_53 rfl ?_
  refine ww_iconst (pc := 54) hC (v := (4 : Int32)) dX6_init_54 (by decide) ?_
  refine ww_callI (pc := 55) hC [.int (4 : Int32)] (mc := 1) (ms := 4) (Z' := cZ159) (X' := cX158) (ciX3_init_10 hW) ql_X6_36 qi_X3_init qn_X3 qc_X3_init rfl ⟨by decide, by decide, rfl⟩ rfl ⟨Nat.le_of_ble_eq_true rfl, Nat.le_of_ble_eq_true rfl⟩ (by decide) (rest := [.ref (w.1 52), .ref (w.1 47)]) (Nat.le_of_ble_eq_true rfl) dX6_init_55 ⟨Nat.le_of_ble_eq_true rfl, Nat.le_of_ble_eq_true rfl⟩ rfl ?_
  refine ww_putR (pc := 58) hC (i := 47) (t := 52) 6 8 ⟨by decide +kernel, by decide +kernel⟩ RX6 (by decide) (by decide) rfl qf_X6_39 rfl hin rfl rfl rfl rfl (Z' := cZ160) rfl dX6_init_58 ?_
  refine ww_aload_n (pc := 61) hC dX6_init_61 0 rfl ?_
  refine ww_new (pc := 62) hC 3 (by decide) (ct0 hW _) (n := 54) (by decide +kernel) rfl (Z' := cZ161) rfl (X' := cX162) rfl qk_X6_34 qa_X3 qn_X3 dX6_init_62 (Nat.le_of_ble_eq_true rfl) (Nat.le_of_ble_eq_true rfl) ?_
  refine ww_dup (pc := 65) hC dX6_init_65 rfl ?_
  refine ww_bipush (pc := 66) hC (v := (6 : Int32)) dX6_init_66 (by decide) ?_
  refine ww_callI (pc := 68) hC [.int (6 : Int32)] (mc := 1) (ms := 6) (Z' := cZ165) (X' := cX164) (ciX3_init_11 hW) ql_X6_36 qi_X3_init qn_X3 qc_X3_init rfl ⟨by decide, by decide, rfl⟩ rfl ⟨Nat.le_of_ble_eq_true rfl, Nat.le_of_ble_eq_true rfl⟩ (by decide) (rest := [.ref (w.1 54), .ref (w.1 47)]) (Nat.le_of_ble_eq_true rfl) dX6_init_68 ⟨Nat.le_of_ble_eq_true rfl, Nat.le_of_ble_eq_true rfl⟩ rfl ?_
  refine ww_putR (pc := 71) hC (i := 47) (t := 54) 6 9 ⟨by decide +kernel, by decide +kernel⟩ RX6 (by decide) (by decide) rfl qf_X6_43 rfl hin rfl rfl rfl rfl (Z' := cZ166) rfl dX6_init_71 ?_
  refine ww_aload_n (pc := 74) hC dX6_init_74 0 rfl ?_
  refine ww_new (pc := 75) hC 3 (by decide) (ct0 hW _) (n := 56) (by decide +kernel) rfl (Z' := cZ167) rfl (X' := cX168) rfl qk_X6_34 qa_X3 qn_X3 dX6_init_75 (Nat.le_of_ble_eq_true rfl) (Nat.le_of_ble_eq_true rfl) ?_
  refine ww_dup (pc := 78) hC dX6_init_78 rfl ?_
  refine ww_bipush (pc := 79) hC (v := (10 : Int32)) dX6_init_79 (by decide) ?_
  refine ww_callI (pc := 81) hC [.int (10 : Int32)] (mc := 1) (ms := 10) (Z' := cZ171) (X' := cX170) (ciX3_init_12 hW) ql_X6_36 qi_X3_init qn_X3 qc_X3_init rfl ⟨by decide, by decide, rfl⟩ rfl ⟨Nat.le_of_ble_eq_true rfl, Nat.le_of_ble_eq_true rfl⟩ (by decide) (rest := [.ref (w.1 56), .ref (w.1 47)]) (Nat.le_of_ble_eq_true rfl) dX6_init_81 ⟨Nat.le_of_ble_eq_true rfl, Nat.le_of_ble_eq_true rfl⟩ rfl ?_
  refine ww_putR (pc := 84) hC (i := 47) (t := 56) 6 10 ⟨by decide +kernel, by decide +kernel⟩ RX6 (by decide) (by decide) rfl qf_X6_46 rfl hin rfl rfl rfl rfl (Z' := cZ172) rfl dX6_init_84 ?_
  refine ww_aload_n (pc := 87) hC dX6_init_87 0 rfl ?_
  refine ww_new (pc := 88) hC 3 (by decide) (ct0 hW _) (n := 58) (by decide +kernel) rfl (Z' := cZ173) rfl (X' := cX174) rfl qk_X6_34 qa_X3 qn_X3 dX6_init_88 (Nat.le_of_ble_eq_true rfl) (Nat.le_of_ble_eq_true rfl) ?_
  refine ww_dup (pc := 91) hC dX6_init_91 rfl ?_
  refine ww_bipush (pc := 92) hC (v := (10 : Int32)) dX6_init_92 (by decide) ?_
  refine ww_callI (pc := 94) hC [.int (10 : Int32)] (mc := 1) (ms := 10) (Z' := cZ177) (X' := cX176) (ciX3_init_13 hW) ql_X6_36 qi_X3_init qn_X3 qc_X3_init rfl ⟨by decide, by decide, rfl⟩ rfl ⟨Nat.le_of_ble_eq_true rfl, Nat.le_of_ble_eq_true rfl⟩ (by decide) (rest := [.ref (w.1 58), .ref (w.1 47)]) (Nat.le_of_ble_eq_true rfl) dX6_init_94 ⟨Nat.le_of_ble_eq_true rfl, Nat.le_of_ble_eq_true rfl⟩ rfl ?_
  refine ww_putR (pc := 97) hC (i := 47) (t := 58) 6 11 ⟨by decide +kernel, by decide +kernel⟩ RX6 (by decide) (by decide) rfl qf_X6_49 rfl hin rfl rfl rfl rfl (Z' := cZ178) rfl dX6_init_97 ?_
  exact ww_vret (pc := 100) hC hr (u := ()) (r := ()) rfl dX6_init_100
def cZ179 : XS := stR cZ178 0 4 47
def cZ180 : XS := newO 60 cZ179 6
def cX181 : XD := zX cX176 60
def cX182 : XD := wI cX181 60 1 (-1 : Int32)
def cZ183 : XS := newA 61 cZ180 13 6
def cX184 : XD := zX cX182 61
def cZ185 : XS := stR cZ183 60 4 61
def cX186 : XD := fillI cX184 61 6 (3 : Int32)
def cZ187 : XS := newA 62 cZ185 13 6
def cX188 : XD := zX cX186 62
def cZ189 : XS := stR cZ187 60 5 62
def cZ190 : XS := newA 63 cZ189 13 6
def cX191 : XD := zX cX188 63
def cZ192 : XS := stR cZ190 60 6 63
def cZ193 : XS := newA 64 cZ192 13 24
def cX194 : XD := zX cX191 64
def cZ195 : XS := stR cZ193 60 7 64
def cZ196 : XS := newO 65 cZ195 3
def cX197 : XD := zX cX194 65
def cZ198 : XS := newA 66 cZ196 13 4
def cX199 : XD := zX cX197 66
def cZ200 : XS := stR cZ198 65 0 66
set_option maxHeartbeats 40000000 in
set_option maxRecDepth 100000 in
theorem ciX3_init_15 {l : Launch} {E : XE} {w : XW} (hW : ∀ i : Nat, w.1 i = w.1 0 + i) : Ct l E w yX3_init (wsM yX3_init cX3_init 2 none) (rmX 1 1 4) 1 4 [.ref (w.1 65), .int (4 : Int32)] (w.1 (sn cZ196)) (w.1 (sn cZ200)) cZ196 cZ200 cX197 cX199 none := by
  refine ct_of (by decide) (Nat.le_of_ble_eq_true rfl) ?_
  intro p e s m args below meth c hC hr hin hav
  refine ww_lv (lv' := [(0, .ref (w.1 65)), (1, .int (4 : Int32))]) rfl ?_
  refine ww_aload_n (pc := 0) hC dX3_init_0 0 rfl ?_
  refine ww_objInit (pc := 1) hC ql_X3_3 qi_java_lang_Object__init_ qc_java_lang_Object__init_ dX3_init_1 ⟨Nat.le_of_ble_eq_true rfl, Nat.le_of_ble_eq_true rfl⟩ (Nat.le_of_ble_eq_true rfl) ?_
  refine ww_aload_n (pc := 4) hC dX3_init_4 0 rfl ?_
  refine ww_iconst (pc := 5) hC (v := (0 : Int32)) dX3_init_5 (by decide) ?_
  refine ww_iload_n (pc := 6) hC dX3_init_6 1 rfl ?_
  refine ww_max (pc := 7) hC ql_X3_9 qt_J9_max_7cf53 qn_J9 qc_J9_max_7cf53 dX3_init_7 ⟨Nat.le_of_ble_eq_true rfl, Nat.le_of_ble_eq_true rfl⟩ (Nat.le_of_ble_eq_true rfl) ⟨Nat.le_of_ble_eq_true rfl, Nat.le_of_ble_eq_true rfl⟩ ?_
  rw [show (if (0 : Int32) < (4 : Int32) then (4 : Int32) else (0 : Int32)) = (4 : Int32) by decide]
  refine ww_newa (pc := 10) hC 13 (by decide) (by decide) rfl (ct0 hW _) (n := 66) (by decide +kernel) (by decide) (N := 4) (by decide) (Z' := cZ198) rfl (X' := cX199) rfl (by decide) qy_FieldType_int dX3_init_10 (Nat.le_of_ble_eq_true rfl) (Nat.le_of_ble_eq_true rfl) ?_
  refine ww_putR (pc := 12) hC (i := 65) (t := 66) 3 0 ⟨by decide +kernel, by decide +kernel⟩ RX3 (by decide) (by decide) rfl qf_X3_15 rfl hin rfl rfl rfl rfl (Z' := cZ200) rfl dX3_init_12 ?_
  exact ww_vret (pc := 15) hC hr (u := ()) (r := ()) rfl dX3_init_15
def cZ201 : XS := stR cZ200 60 8 65
def cZ202 : XS := newO 67 cZ201 3
def cX203 : XD := zX cX199 67
def cZ204 : XS := newA 68 cZ202 13 6
def cX205 : XD := zX cX203 68
def cZ206 : XS := stR cZ204 67 0 68
set_option maxHeartbeats 40000000 in
set_option maxRecDepth 100000 in
theorem ciX3_init_16 {l : Launch} {E : XE} {w : XW} (hW : ∀ i : Nat, w.1 i = w.1 0 + i) : Ct l E w yX3_init (wsM yX3_init cX3_init 2 none) (rmX 1 1 6) 1 6 [.ref (w.1 67), .int (6 : Int32)] (w.1 (sn cZ202)) (w.1 (sn cZ206)) cZ202 cZ206 cX203 cX205 none := by
  refine ct_of (by decide) (Nat.le_of_ble_eq_true rfl) ?_
  intro p e s m args below meth c hC hr hin hav
  refine ww_lv (lv' := [(0, .ref (w.1 67)), (1, .int (6 : Int32))]) rfl ?_
  refine ww_aload_n (pc := 0) hC dX3_init_0 0 rfl ?_
  refine ww_objInit (pc := 1) hC ql_X3_3 qi_java_lang_Object__init_ qc_java_lang_Object__init_ dX3_init_1 ⟨Nat.le_of_ble_eq_true rfl, Nat.le_of_ble_eq_true rfl⟩ (Nat.le_of_ble_eq_true rfl) ?_
  refine ww_aload_n (pc := 4) hC dX3_init_4 0 rfl ?_
  refine ww_iconst (pc := 5) hC (v := (0 : Int32)) dX3_init_5 (by decide) ?_
  refine ww_iload_n (pc := 6) hC dX3_init_6 1 rfl ?_
  refine ww_max (pc := 7) hC ql_X3_9 qt_J9_max_7cf53 qn_J9 qc_J9_max_7cf53 dX3_init_7 ⟨Nat.le_of_ble_eq_true rfl, Nat.le_of_ble_eq_true rfl⟩ (Nat.le_of_ble_eq_true rfl) ⟨Nat.le_of_ble_eq_true rfl, Nat.le_of_ble_eq_true rfl⟩ ?_
  rw [show (if (0 : Int32) < (6 : Int32) then (6 : Int32) else (0 : Int32)) = (6 : Int32) by decide]
  refine ww_newa (pc := 10) hC 13 (by decide) (by decide) rfl (ct0 hW _) (n := 68) (by decide +kernel) (by decide) (N := 6) (by decide) (Z' := cZ204) rfl (X' := cX205) rfl (by decide) qy_FieldType_int dX3_init_10 (Nat.le_of_ble_eq_true rfl) (Nat.le_of_ble_eq_true rfl) ?_
  refine ww_putR (pc := 12) hC (i := 67) (t := 68) 3 0 ⟨by decide +kernel, by decide +kernel⟩ RX3 (by decide) (by decide) rfl qf_X3_15 rfl hin rfl rfl rfl rfl (Z' := cZ206) rfl dX3_init_12 ?_
  exact ww_vret (pc := 15) hC hr (u := ()) (r := ()) rfl dX3_init_15
def cZ207 : XS := stR cZ206 60 9 67
def cZ208 : XS := newO 69 cZ207 3
def cX209 : XD := zX cX205 69
def cZ210 : XS := newA 70 cZ208 13 10
def cX211 : XD := zX cX209 70
def cZ212 : XS := stR cZ210 69 0 70
set_option maxHeartbeats 40000000 in
set_option maxRecDepth 100000 in
theorem ciX3_init_17 {l : Launch} {E : XE} {w : XW} (hW : ∀ i : Nat, w.1 i = w.1 0 + i) : Ct l E w yX3_init (wsM yX3_init cX3_init 2 none) (rmX 1 1 10) 1 10 [.ref (w.1 69), .int (10 : Int32)] (w.1 (sn cZ208)) (w.1 (sn cZ212)) cZ208 cZ212 cX209 cX211 none := by
  refine ct_of (by decide) (Nat.le_of_ble_eq_true rfl) ?_
  intro p e s m args below meth c hC hr hin hav
  refine ww_lv (lv' := [(0, .ref (w.1 69)), (1, .int (10 : Int32))]) rfl ?_
  refine ww_aload_n (pc := 0) hC dX3_init_0 0 rfl ?_
  refine ww_objInit (pc := 1) hC ql_X3_3 qi_java_lang_Object__init_ qc_java_lang_Object__init_ dX3_init_1 ⟨Nat.le_of_ble_eq_true rfl, Nat.le_of_ble_eq_true rfl⟩ (Nat.le_of_ble_eq_true rfl) ?_
  refine ww_aload_n (pc := 4) hC dX3_init_4 0 rfl ?_
  refine ww_iconst (pc := 5) hC (v := (0 : Int32)) dX3_init_5 (by decide) ?_
  refine ww_iload_n (pc := 6) hC dX3_init_6 1 rfl ?_
  refine ww_max (pc := 7) hC ql_X3_9 qt_J9_max_7cf53 qn_J9 qc_J9_max_7cf53 dX3_init_7 ⟨Nat.le_of_ble_eq_true rfl, Nat.le_of_ble_eq_true rfl⟩ (Nat.le_of_ble_eq_true rfl) ⟨Nat.le_of_ble_eq_true rfl, Nat.le_of_ble_eq_true rfl⟩ ?_
  rw [show (if (0 : Int32) < (10 : Int32) then (10 : Int32) else (0 : Int32)) = (10 : Int32) by decide]
  refine ww_newa (pc := 10) hC 13 (by decide) (by decide) rfl (ct0 hW _) (n := 70) (by decide +kernel) (by decide) (N := 10) (by decide) (Z' := cZ210) rfl (X' := cX211) rfl (by decide) qy_FieldType_int dX3_init_10 (Nat.le_of_ble_eq_true rfl) (Nat.le_of_ble_eq_true rfl) ?_
  refine ww_putR (pc := 12) hC (i := 69) (t := 70) 3 0 ⟨by decide +kernel, by decide +kernel⟩ RX3 (by decide) (by decide) rfl qf_X3_15 rfl hin rfl rfl rfl rfl (Z' := cZ212) rfl dX3_init_12 ?_
  exact ww_vret (pc := 15) hC hr (u := ()) (r := ()) rfl dX3_init_15
def cZ213 : XS := stR cZ212 60 10 69
def cZ214 : XS := newO 71 cZ213 3
def cX215 : XD := zX cX211 71
def cZ216 : XS := newA 72 cZ214 13 10
def cX217 : XD := zX cX215 72
def cZ218 : XS := stR cZ216 71 0 72
set_option maxHeartbeats 40000000 in
set_option maxRecDepth 100000 in
theorem ciX3_init_18 {l : Launch} {E : XE} {w : XW} (hW : ∀ i : Nat, w.1 i = w.1 0 + i) : Ct l E w yX3_init (wsM yX3_init cX3_init 2 none) (rmX 1 1 10) 1 10 [.ref (w.1 71), .int (10 : Int32)] (w.1 (sn cZ214)) (w.1 (sn cZ218)) cZ214 cZ218 cX215 cX217 none := by
  refine ct_of (by decide) (Nat.le_of_ble_eq_true rfl) ?_
  intro p e s m args below meth c hC hr hin hav
  refine ww_lv (lv' := [(0, .ref (w.1 71)), (1, .int (10 : Int32))]) rfl ?_
  refine ww_aload_n (pc := 0) hC dX3_init_0 0 rfl ?_
  refine ww_objInit (pc := 1) hC ql_X3_3 qi_java_lang_Object__init_ qc_java_lang_Object__init_ dX3_init_1 ⟨Nat.le_of_ble_eq_true rfl, Nat.le_of_ble_eq_true rfl⟩ (Nat.le_of_ble_eq_true rfl) ?_
  refine ww_aload_n (pc := 4) hC dX3_init_4 0 rfl ?_
  refine ww_iconst (pc := 5) hC (v := (0 : Int32)) dX3_init_5 (by decide) ?_
  refine ww_iload_n (pc := 6) hC dX3_init_6 1 rfl ?_
  refine ww_max (pc := 7) hC ql_X3_9 qt_J9_max_7cf53 qn_J9 qc_J9_max_7cf53 dX3_init_7 ⟨Nat.le_of_ble_eq_true rfl, Nat.le_of_ble_eq_true rfl⟩ (Nat.le_of_ble_eq_true rfl) ⟨Nat.le_of_ble_eq_true rfl, Nat.le_of_ble_eq_true rfl⟩ ?_
  rw [show (if (0 : Int32) < (10 : Int32) then (10 : Int32) else (0 : Int32)) = (10 : Int32) by decide]
  refine ww_newa (pc := 10) hC 13 (by decide) (by decide) rfl (ct0 hW _) (n := 72) (by decide +kernel) (by decide) (N := 10) (by decide) (Z' := cZ216) rfl (X' := cX217) rfl (by decide) qy_FieldType_int dX3_init_10 (Nat.le_of_ble_eq_true rfl) (Nat.le_of_ble_eq_true rfl) ?_
  refine ww_putR (pc := 12) hC (i := 71) (t := 72) 3 0 ⟨by decide +kernel, by decide +kernel⟩ RX3 (by decide) (by decide) rfl qf_X3_15 rfl hin rfl rfl rfl rfl (Z' := cZ218) rfl dX3_init_12 ?_
  exact ww_vret (pc := 15) hC hr (u := ()) (r := ()) rfl dX3_init_15
def cZ219 : XS := stR cZ218 60 11 71
set_option maxHeartbeats 40000000 in
set_option maxRecDepth 100000 in
theorem ciX6_init_14 {l : Launch} {E : XE} {w : XW} (hW : ∀ i : Nat, w.1 i = w.1 0 + i) : Ct l E w yX6_init (wsM yX6_init cX6_init 1 none) (rmX 2 12 84) 12 84 [.ref (w.1 60)] (w.1 (sn cZ180)) (w.1 (sn cZ219)) cZ180 cZ219 cX181 cX217 none := by
  refine ct_of (by decide) (Nat.le_of_ble_eq_true rfl) ?_
  intro p e s m args below meth c hC hr hin hav
  refine ww_lv (lv' := [(0, .ref (w.1 60))]) rfl ?_
  refine ww_aload_n (pc := 0) hC dX6_init_0 0 rfl ?_
  refine ww_objInit (pc := 1) hC ql_X6_3 qi_java_lang_Object__init_ qc_java_lang_Object__init_ dX6_init_1 ⟨Nat.le_of_ble_eq_true rfl, Nat.le_of_ble_eq_true rfl⟩ (Nat.le_of_ble_eq_true rfl) ?_
  refine ww_aload_n (pc := 4) hC dX6_init_4 0 rfl ?_
  refine ww_iconst (pc := 5) hC (v := (-1 : Int32)) dX6_init_5 (by decide) ?_
  refine ww_putI (pc := 6) hC (i := 60) 6 1 ⟨by decide +kernel, by decide +kernel⟩ RX6 (by decide) (by decide) rfl qf_X6_9 rfl rfl rfl rfl dX6_init_6 ?_
  refine ww_nmX (X' := cX182) rfl ?_
  refine ww_aload_n (pc := 9) hC dX6_init_9 0 rfl ?_
  refine ww_bipush (pc := 10) hC (v := (6 : Int32)) dX6_init_10 (by decide) ?_
  refine ww_newa (pc := 12) hC 13 (by decide) (by decide) rfl (ct0 hW _) (n := 61) (by decide +kernel) (by decide) (N := 6) (by decide) (Z' := cZ183) rfl (X' := cX184) rfl (by decide) qy_FieldType_int dX6_init_12 (Nat.le_of_ble_eq_true rfl) (Nat.le_of_ble_eq_true rfl) ?_
  refine ww_putR (pc := 14) hC (i := 60) (t := 61) 6 4 ⟨by decide +kernel, by decide +kernel⟩ RX6 (by decide) (by decide) rfl qf_X6_15 rfl hin rfl rfl rfl rfl (Z' := cZ185) rfl dX6_init_14 ?_
  refine ww_aload_n (pc := 17) hC dX6_init_17 0 rfl ?_
  refine ww_getR (pc := 18) hC (i := 60) 6 4 61 ⟨by decide +kernel, by decide +kernel⟩ RX6 (by decide) (by decide) rfl (by decide +kernel) qf_X6_15 rfl dX6_init_18 ?_
  refine ww_iconst (pc := 21) hC (v := (3 : Int32)) dX6_init_21 (by decide) ?_
  refine ww_callSv (pc := 22) hC [.ref (w.1 61), .int (3 : Int32)] (X' := cX186) (ceJ7_fill_53178 (show KA cZ185 61 13 (sL cZ185 61) from ⟨by decide +kernel, by decide +kernel, rfl⟩) (fill_eq (n := 6) (by decide) (show sL cZ185 61 = 6 by decide +kernel))) ql_X6_19 qt_J7_fill_53178 qn_J7 qc_J7_fill_53178 ⟨by decide, by decide, rfl⟩ rfl ⟨Nat.le_of_ble_eq_true rfl, Nat.le_of_ble_eq_true rfl⟩ (by decide) (rest := []) (Nat.le_of_ble_eq_true rfl) dX6_init_22 ⟨Nat.le_of_ble_eq_true rfl, Nat.le_of_ble_eq_true rfl⟩ rfl ?_
  refine ww_aload_n (pc := 25) hC dX6_init_25 0 rfl ?_
  refine ww_bipush (pc := 26) hC (v := (6 : Int32)) dX6_init_26 (by decide) ?_
  refine ww_newa (pc := 28) hC 13 (by decide) (by decide) rfl (ct0 hW _) (n := 62) (by decide +kernel) (by decide) (N := 6) (by decide) (Z' := cZ187) rfl (X' := cX188) rfl (by decide) qy_FieldType_int dX6_init_28 (Nat.le_of_ble_eq_true rfl) (Nat.le_of_ble_eq_true rfl) ?_
  refine ww_putR (pc := 30) hC (i := 60) (t := 62) 6 5 ⟨by decide +kernel, by decide +kernel⟩ RX6 (by decide) (by decide) rfl qf_X6_25 rfl hin rfl rfl rfl rfl (Z' := cZ189) rfl dX6_init_30 ?_
  refine ww_aload_n (pc := 33) hC dX6_init_33 0 rfl ?_
  refine ww_bipush (pc := 34) hC (v := (6 : Int32)) dX6_init_34 (by decide) ?_
  refine ww_newa (pc := 36) hC 13 (by decide) (by decide) rfl (ct0 hW _) (n := 63) (by decide +kernel) (by decide) (N := 6) (by decide) (Z' := cZ190) rfl (X' := cX191) rfl (by decide) qy_FieldType_int dX6_init_36 (Nat.le_of_ble_eq_true rfl) (Nat.le_of_ble_eq_true rfl) ?_
  refine ww_putR (pc := 38) hC (i := 60) (t := 63) 6 6 ⟨by decide +kernel, by decide +kernel⟩ RX6 (by decide) (by decide) rfl qf_X6_28 rfl hin rfl rfl rfl rfl (Z' := cZ192) rfl dX6_init_38 ?_
  refine ww_aload_n (pc := 41) hC dX6_init_41 0 rfl ?_
  refine ww_bipush (pc := 42) hC (v := (24 : Int32)) dX6_init_42 (by decide) ?_
  refine ww_newa (pc := 44) hC 13 (by decide) (by decide) rfl (ct0 hW _) (n := 64) (by decide +kernel) (by decide) (N := 24) (by decide) (Z' := cZ193) rfl (X' := cX194) rfl (by decide) qy_FieldType_int dX6_init_44 (Nat.le_of_ble_eq_true rfl) (Nat.le_of_ble_eq_true rfl) ?_
  refine ww_putR (pc := 46) hC (i := 60) (t := 64) 6 7 ⟨by decide +kernel, by decide +kernel⟩ RX6 (by decide) (by decide) rfl qf_X6_31 rfl hin rfl rfl rfl rfl (Z' := cZ195) rfl dX6_init_46 ?_
  refine ww_aload_n (pc := 49) hC dX6_init_49 0 rfl ?_
  refine ww_new (pc := 50) hC 3 (by decide) (ct0 hW _) (n := 65) (by decide +kernel) rfl (Z' := cZ196) rfl (X' := cX197) rfl qk_X6_34 qa_X3 qn_X3 dX6_init_50 (Nat.le_of_ble_eq_true rfl) (Nat.le_of_ble_eq_true rfl) ?_
  refine ww_dup (pc := 53) hC dX6_init_53 rfl ?_
  refine ww_iconst (pc := 54) hC (v := (4 : Int32)) dX6_init_54 (by decide) ?_
  refine ww_callI (pc := 55) hC [.int (4 : Int32)] (mc := 1) (ms := 4) (Z' := cZ200) (X' := cX199) (ciX3_init_15 hW) ql_X6_36 qi_X3_init qn_X3 qc_X3_init rfl ⟨by decide, by decide, rfl⟩ rfl ⟨Nat.le_of_ble_eq_true rfl, Nat.le_of_ble_eq_true rfl⟩ (by decide) (rest := [.ref (w.1 65), .ref (w.1 60)]) (Nat.le_of_ble_eq_true rfl) dX6_init_55 ⟨Nat.le_of_ble_eq_true rfl, Nat.le_of_ble_eq_true rfl⟩ rfl ?_
  refine ww_putR (pc := 58) hC (i := 60) (t := 65) 6 8 ⟨by decide +kernel, by decide +kernel⟩ RX6 (by decide) (by decide) rfl qf_X6_39 rfl hin rfl rfl rfl rfl (Z' := cZ201) rfl dX6_init_58 ?_
  refine ww_aload_n (pc := 61) hC dX6_init_61 0 rfl ?_
  refine ww_new (pc := 62) hC 3 (by decide) (ct0 hW _) (n := 67) (by decide +kernel) rfl (Z' := cZ202) rfl (X' := cX203) rfl qk_X6_34 qa_X3 qn_X3 dX6_init_62 (Nat.le_of_ble_eq_true rfl) (Nat.le_of_ble_eq_true rfl) ?_
  refine ww_dup (pc := 65) hC dX6_init_65 rfl ?_
  refine ww_bipush (pc := 66) hC (v := (6 : Int32)) dX6_init_66 (by decide) ?_
  refine ww_callI (pc := 68) hC [.int (6 : Int32)] (mc := 1) (ms := 6) (Z' := cZ206) (X' := cX205) (ciX3_init_16 hW) ql_X6_36 qi_X3_init qn_X3 qc_X3_init rfl ⟨by decide, by decide, rfl⟩ rfl ⟨Nat.le_of_ble_eq_true rfl, Nat.le_of_ble_eq_true rfl⟩ (by decide) (rest := [.ref (w.1 67), .ref (w.1 60)]) (Nat.le_of_ble_eq_true rfl) dX6_init_68 ⟨Nat.le_of_ble_eq_true rfl, Nat.le_of_ble_eq_true rfl⟩ rfl ?_
  refine ww_putR (pc := 71) hC (i := 60) (t := 67) 6 9 ⟨by decide +kernel, by decide +kernel⟩ RX6 (by decide) (by decide) rfl qf_X6_43 rfl hin rfl rfl rfl rfl (Z' := cZ207) rfl dX6_init_71 ?_
  refine ww_aload_n (pc := 74) hC dX6_init_74 0 rfl ?_
  refine ww_new (pc := 75) hC 3 (by decide) (ct0 hW _) (n := 69) (by decide +kernel) rfl (Z' := cZ208) rfl (X' := cX209) rfl qk_X6_34 qa_X3 qn_X3 dX6_init_75 (Nat.le_of_ble_eq_true rfl) (Nat.le_of_ble_eq_true rfl) ?_
  refine ww_dup (pc := 78) hC dX6_init_78 rfl ?_
  refine ww_bipush (pc := 79) hC (v := (10 : Int32)) dX6_init_79 (by decide) ?_
  refine ww_callI (pc := 81) hC [.int (10 : Int32)] (mc := 1) (ms := 10) (Z' := cZ212) (X' := cX211) (ciX3_init_17 hW) ql_X6_36 qi_X3_init qn_X3 qc_X3_init rfl ⟨by decide, by decide, rfl⟩ rfl ⟨Nat.le_of_ble_eq_true rfl, Nat.le_of_ble_eq_true rfl⟩ (by decide) (rest := [.ref (w.1 69), .ref (w.1 60)]) (Nat.le_of_ble_eq_true rfl) dX6_init_81 ⟨Nat.le_of_ble_eq_true rfl, Nat.le_of_ble_eq_true rfl⟩ rfl ?_
  refine ww_putR (pc := 84) hC (i := 60) (t := 69) 6 10 ⟨by decide +kernel, by decide +kernel⟩ RX6 (by decide) (by decide) rfl qf_X6_46 rfl hin rfl rfl rfl rfl (Z' := cZ213) rfl dX6_init_84 ?_
  refine ww_aload_n (pc := 87) hC dX6_init_87 0 rfl ?_
  refine ww_new (pc := 88) hC 3 (by decide) (ct0 hW _) (n := 71) (by decide +kernel) rfl (Z' := cZ214) rfl (X' := cX215) rfl qk_X6_34 qa_X3 qn_X3 dX6_init_88 (Nat.le_of_ble_eq_true rfl) (Nat.le_of_ble_eq_true rfl) ?_
  refine ww_dup (pc := 91) hC dX6_init_91 rfl ?_
  refine ww_bipush (pc := 92) hC (v := (10 : Int32)) dX6_init_92 (by decide) ?_
  refine ww_callI (pc := 94) hC [.int (10 : Int32)] (mc := 1) (ms := 10) (Z' := cZ218) (X' := cX217) (ciX3_init_18 hW) ql_X6_36 qi_X3_init qn_X3 qc_X3_init rfl ⟨by decide, by decide, rfl⟩ rfl ⟨Nat.le_of_ble_eq_true rfl, Nat.le_of_ble_eq_true rfl⟩ (by decide) (rest := [.ref (w.1 71), .ref (w.1 60)]) (Nat.le_of_ble_eq_true rfl) dX6_init_94 ⟨Nat.le_of_ble_eq_true rfl, Nat.le_of_ble_eq_true rfl⟩ rfl ?_
  refine ww_putR (pc := 97) hC (i := 60) (t := 71) 6 11 ⟨by decide +kernel, by decide +kernel⟩ RX6 (by decide) (by decide) rfl qf_X6_49 rfl hin rfl rfl rfl rfl (Z' := cZ219) rfl dX6_init_97 ?_
  exact ww_vret (pc := 100) hC hr (u := ()) (r := ()) rfl dX6_init_100
def cZ220 : XS := stR cZ219 0 5 60
def cZ221 : XS := newA 73 cZ220 18 5
def cX222 : XD := zX cX217 73
def cZ223 : XS := stR cZ221 0 7 73
def cZ224 : XS := newO 74 cZ223 6
def cX225 : XD := zX cX222 74
def cX226 : XD := wI cX225 74 1 (-1 : Int32)
def cZ227 : XS := newA 75 cZ224 13 6
def cX228 : XD := zX cX226 75
def cZ229 : XS := stR cZ227 74 4 75
def cX230 : XD := fillI cX228 75 6 (3 : Int32)
def cZ231 : XS := newA 76 cZ229 13 6
def cX232 : XD := zX cX230 76
def cZ233 : XS := stR cZ231 74 5 76
def cZ234 : XS := newA 77 cZ233 13 6
def cX235 : XD := zX cX232 77
def cZ236 : XS := stR cZ234 74 6 77
def cZ237 : XS := newA 78 cZ236 13 24
def cX238 : XD := zX cX235 78
def cZ239 : XS := stR cZ237 74 7 78
def cZ240 : XS := newO 79 cZ239 3
def cX241 : XD := zX cX238 79
def cZ242 : XS := newA 80 cZ240 13 4
def cX243 : XD := zX cX241 80
def cZ244 : XS := stR cZ242 79 0 80
set_option maxHeartbeats 40000000 in
set_option maxRecDepth 100000 in
theorem ciX3_init_20 {l : Launch} {E : XE} {w : XW} (hW : ∀ i : Nat, w.1 i = w.1 0 + i) : Ct l E w yX3_init (wsM yX3_init cX3_init 2 none) (rmX 1 1 4) 1 4 [.ref (w.1 79), .int (4 : Int32)] (w.1 (sn cZ240)) (w.1 (sn cZ244)) cZ240 cZ244 cX241 cX243 none := by
  refine ct_of (by decide) (Nat.le_of_ble_eq_true rfl) ?_
  intro p e s m args below meth c hC hr hin hav
  refine ww_lv (lv' := [(0, .ref (w.1 79)), (1, .int (4 : Int32))]) rfl ?_
  refine ww_aload_n (pc := 0) hC dX3_init_0 0 rfl ?_
  refine ww_objInit (pc := 1) hC ql_X3_3 qi_java_lang_Object__init_ qc_java_lang_Object__init_ dX3_init_1 ⟨Nat.le_of_ble_eq_true rfl, Nat.le_of_ble_eq_true rfl⟩ (Nat.le_of_ble_eq_true rfl) ?_
  refine ww_aload_n (pc := 4) hC dX3_init_4 0 rfl ?_
  refine ww_iconst (pc := 5) hC (v := (0 : Int32)) dX3_init_5 (by decide) ?_
  refine ww_iload_n (pc := 6) hC dX3_init_6 1 rfl ?_
  refine ww_max (pc := 7) hC ql_X3_9 qt_J9_max_7cf53 qn_J9 qc_J9_max_7cf53 dX3_init_7 ⟨Nat.le_of_ble_eq_true rfl, Nat.le_of_ble_eq_true rfl⟩ (Nat.le_of_ble_eq_true rfl) ⟨Nat.le_of_ble_eq_true rfl, Nat.le_of_ble_eq_true rfl⟩ ?_
  rw [show (if (0 : Int32) < (4 : Int32) then (4 : Int32) else (0 : Int32)) = (4 : Int32) by decide]
  refine ww_newa (pc := 10) hC 13 (by decide) (by decide) rfl (ct0 hW _) (n := 80) (by decide +kernel) (by decide) (N := 4) (by decide) (Z' := cZ242) rfl (X' := cX243) rfl (by decide) qy_FieldType_int dX3_init_10 (Nat.le_of_ble_eq_true rfl) (Nat.le_of_ble_eq_true rfl) ?_
  refine ww_putR (pc := 12) hC (i := 79) (t := 80) 3 0 ⟨by decide +kernel, by decide +kernel⟩ RX3 (by decide) (by decide) rfl qf_X3_15 rfl hin rfl rfl rfl rfl (Z' := cZ244) rfl dX3_init_12 ?_
  exact ww_vret (pc := 15) hC hr (u := ()) (r := ()) rfl dX3_init_15
def cZ245 : XS := stR cZ244 74 8 79
def cZ246 : XS := newO 81 cZ245 3
def cX247 : XD := zX cX243 81
def cZ248 : XS := newA 82 cZ246 13 6
def cX249 : XD := zX cX247 82
def cZ250 : XS := stR cZ248 81 0 82
set_option maxHeartbeats 40000000 in
set_option maxRecDepth 100000 in
theorem ciX3_init_21 {l : Launch} {E : XE} {w : XW} (hW : ∀ i : Nat, w.1 i = w.1 0 + i) : Ct l E w yX3_init (wsM yX3_init cX3_init 2 none) (rmX 1 1 6) 1 6 [.ref (w.1 81), .int (6 : Int32)] (w.1 (sn cZ246)) (w.1 (sn cZ250)) cZ246 cZ250 cX247 cX249 none := by
  refine ct_of (by decide) (Nat.le_of_ble_eq_true rfl) ?_
  intro p e s m args below meth c hC hr hin hav
  refine ww_lv (lv' := [(0, .ref (w.1 81)), (1, .int (6 : Int32))]) rfl ?_
  refine ww_aload_n (pc := 0) hC dX3_init_0 0 rfl ?_
  refine ww_objInit (pc := 1) hC ql_X3_3 qi_java_lang_Object__init_ qc_java_lang_Object__init_ dX3_init_1 ⟨Nat.le_of_ble_eq_true rfl, Nat.le_of_ble_eq_true rfl⟩ (Nat.le_of_ble_eq_true rfl) ?_
  refine ww_aload_n (pc := 4) hC dX3_init_4 0 rfl ?_
  refine ww_iconst (pc := 5) hC (v := (0 : Int32)) dX3_init_5 (by decide) ?_
  refine ww_iload_n (pc := 6) hC dX3_init_6 1 rfl ?_
  refine ww_max (pc := 7) hC ql_X3_9 qt_J9_max_7cf53 qn_J9 qc_J9_max_7cf53 dX3_init_7 ⟨Nat.le_of_ble_eq_true rfl, Nat.le_of_ble_eq_true rfl⟩ (Nat.le_of_ble_eq_true rfl) ⟨Nat.le_of_ble_eq_true rfl, Nat.le_of_ble_eq_true rfl⟩ ?_
  rw [show (if (0 : Int32) < (6 : Int32) then (6 : Int32) else (0 : Int32)) = (6 : Int32) by decide]
  refine ww_newa (pc := 10) hC 13 (by decide) (by decide) rfl (ct0 hW _) (n := 82) (by decide +kernel) (by decide) (N := 6) (by decide) (Z' := cZ248) rfl (X' := cX249) rfl (by decide) qy_FieldType_int dX3_init_10 (Nat.le_of_ble_eq_true rfl) (Nat.le_of_ble_eq_true rfl) ?_
  refine ww_putR (pc := 12) hC (i := 81) (t := 82) 3 0 ⟨by decide +kernel, by decide +kernel⟩ RX3 (by decide) (by decide) rfl qf_X3_15 rfl hin rfl rfl rfl rfl (Z' := cZ250) rfl dX3_init_12 ?_
  exact ww_vret (pc := 15) hC hr (u := ()) (r := ()) rfl dX3_init_15
def cZ251 : XS := stR cZ250 74 9 81
def cZ252 : XS := newO 83 cZ251 3
def cX253 : XD := zX cX249 83
def cZ254 : XS := newA 84 cZ252 13 10
def cX255 : XD := zX cX253 84
def cZ256 : XS := stR cZ254 83 0 84
set_option maxHeartbeats 40000000 in
set_option maxRecDepth 100000 in
theorem ciX3_init_22 {l : Launch} {E : XE} {w : XW} (hW : ∀ i : Nat, w.1 i = w.1 0 + i) : Ct l E w yX3_init (wsM yX3_init cX3_init 2 none) (rmX 1 1 10) 1 10 [.ref (w.1 83), .int (10 : Int32)] (w.1 (sn cZ252)) (w.1 (sn cZ256)) cZ252 cZ256 cX253 cX255 none := by
  refine ct_of (by decide) (Nat.le_of_ble_eq_true rfl) ?_
  intro p e s m args below meth c hC hr hin hav
  refine ww_lv (lv' := [(0, .ref (w.1 83)), (1, .int (10 : Int32))]) rfl ?_
  refine ww_aload_n (pc := 0) hC dX3_init_0 0 rfl ?_
  refine ww_objInit (pc := 1) hC ql_X3_3 qi_java_lang_Object__init_ qc_java_lang_Object__init_ dX3_init_1 ⟨Nat.le_of_ble_eq_true rfl, Nat.le_of_ble_eq_true rfl⟩ (Nat.le_of_ble_eq_true rfl) ?_
  refine ww_aload_n (pc := 4) hC dX3_init_4 0 rfl ?_
  refine ww_iconst (pc := 5) hC (v := (0 : Int32)) dX3_init_5 (by decide) ?_
  refine ww_iload_n (pc := 6) hC dX3_init_6 1 rfl ?_
  refine ww_max (pc := 7) hC ql_X3_9 qt_J9_max_7cf53 qn_J9 qc_J9_max_7cf53 dX3_init_7 ⟨Nat.le_of_ble_eq_true rfl, Nat.le_of_ble_eq_true rfl⟩ (Nat.le_of_ble_eq_true rfl) ⟨Nat.le_of_ble_eq_true rfl, Nat.le_of_ble_eq_true rfl⟩ ?_
  rw [show (if (0 : Int32) < (10 : Int32) then (10 : Int32) else (0 : Int32)) = (10 : Int32) by decide]
  refine ww_newa (pc := 10) hC 13 (by decide) (by decide) rfl (ct0 hW _) (n := 84) (by decide +kernel) (by decide) (N := 10) (by decide) (Z' := cZ254) rfl (X' := cX255) rfl (by decide) qy_FieldType_int dX3_init_10 (Nat.le_of_ble_eq_true rfl) (Nat.le_of_ble_eq_true rfl) ?_
  refine ww_putR (pc := 12) hC (i := 83) (t := 84) 3 0 ⟨by decide +kernel, by decide +kernel⟩ RX3 (by decide) (by decide) rfl qf_X3_15 rfl hin rfl rfl rfl rfl (Z' := cZ256) rfl dX3_init_12 ?_
  exact ww_vret (pc := 15) hC hr (u := ()) (r := ()) rfl dX3_init_15
def cZ257 : XS := stR cZ256 74 10 83
def cZ258 : XS := newO 85 cZ257 3
def cX259 : XD := zX cX255 85
def cZ260 : XS := newA 86 cZ258 13 10
def cX261 : XD := zX cX259 86
def cZ262 : XS := stR cZ260 85 0 86
set_option maxHeartbeats 40000000 in
set_option maxRecDepth 100000 in
theorem ciX3_init_23 {l : Launch} {E : XE} {w : XW} (hW : ∀ i : Nat, w.1 i = w.1 0 + i) : Ct l E w yX3_init (wsM yX3_init cX3_init 2 none) (rmX 1 1 10) 1 10 [.ref (w.1 85), .int (10 : Int32)] (w.1 (sn cZ258)) (w.1 (sn cZ262)) cZ258 cZ262 cX259 cX261 none := by
  refine ct_of (by decide) (Nat.le_of_ble_eq_true rfl) ?_
  intro p e s m args below meth c hC hr hin hav
  refine ww_lv (lv' := [(0, .ref (w.1 85)), (1, .int (10 : Int32))]) rfl ?_
  refine ww_aload_n (pc := 0) hC dX3_init_0 0 rfl ?_
  refine ww_objInit (pc := 1) hC ql_X3_3 qi_java_lang_Object__init_ qc_java_lang_Object__init_ dX3_init_1 ⟨Nat.le_of_ble_eq_true rfl, Nat.le_of_ble_eq_true rfl⟩ (Nat.le_of_ble_eq_true rfl) ?_
  refine ww_aload_n (pc := 4) hC dX3_init_4 0 rfl ?_
  refine ww_iconst (pc := 5) hC (v := (0 : Int32)) dX3_init_5 (by decide) ?_
  refine ww_iload_n (pc := 6) hC dX3_init_6 1 rfl ?_
  refine ww_max (pc := 7) hC ql_X3_9 qt_J9_max_7cf53 qn_J9 qc_J9_max_7cf53 dX3_init_7 ⟨Nat.le_of_ble_eq_true rfl, Nat.le_of_ble_eq_true rfl⟩ (Nat.le_of_ble_eq_true rfl) ⟨Nat.le_of_ble_eq_true rfl, Nat.le_of_ble_eq_true rfl⟩ ?_
  rw [show (if (0 : Int32) < (10 : Int32) then (10 : Int32) else (0 : Int32)) = (10 : Int32) by decide]
  refine ww_newa (pc := 10) hC 13 (by decide) (by decide) rfl (ct0 hW _) (n := 86) (by decide +kernel) (by decide) (N := 10) (by decide) (Z' := cZ260) rfl (X' := cX261) rfl (by decide) qy_FieldType_int dX3_init_10 (Nat.le_of_ble_eq_true rfl) (Nat.le_of_ble_eq_true rfl) ?_
  refine ww_putR (pc := 12) hC (i := 85) (t := 86) 3 0 ⟨by decide +kernel, by decide +kernel⟩ RX3 (by decide) (by decide) rfl qf_X3_15 rfl hin rfl rfl rfl rfl (Z' := cZ262) rfl dX3_init_12 ?_
  exact ww_vret (pc := 15) hC hr (u := ()) (r := ()) rfl dX3_init_15
def cZ263 : XS := stR cZ262 74 11 85
set_option maxHeartbeats 40000000 in
set_option maxRecDepth 100000 in
theorem ciX6_init_19 {l : Launch} {E : XE} {w : XW} (hW : ∀ i : Nat, w.1 i = w.1 0 + i) : Ct l E w yX6_init (wsM yX6_init cX6_init 1 none) (rmX 2 12 84) 12 84 [.ref (w.1 74)] (w.1 (sn cZ224)) (w.1 (sn cZ263)) cZ224 cZ263 cX225 cX261 none := by
  refine ct_of (by decide) (Nat.le_of_ble_eq_true rfl) ?_
  intro p e s m args below meth c hC hr hin hav
  refine ww_lv (lv' := [(0, .ref (w.1 74))]) rfl ?_
  refine ww_aload_n (pc := 0) hC dX6_init_0 0 rfl ?_
  refine ww_objInit (pc := 1) hC ql_X6_3 qi_java_lang_Object__init_ qc_java_lang_Object__init_ dX6_init_1 ⟨Nat.le_of_ble_eq_true rfl, Nat.le_of_ble_eq_true rfl⟩ (Nat.le_of_ble_eq_true rfl) ?_
  refine ww_aload_n (pc := 4) hC dX6_init_4 0 rfl ?_
  refine ww_iconst (pc := 5) hC (v := (-1 : Int32)) dX6_init_5 (by decide) ?_
  refine ww_putI (pc := 6) hC (i := 74) 6 1 ⟨by decide +kernel, by decide +kernel⟩ RX6 (by decide) (by decide) rfl qf_X6_9 rfl rfl rfl rfl dX6_init_6 ?_
  refine ww_nmX (X' := cX226) rfl ?_
  refine ww_aload_n (pc := 9) hC dX6_init_9 0 rfl ?_
  refine ww_bipush (pc := 10) hC (v := (6 : Int32)) dX6_init_10 (by decide) ?_
  refine ww_newa (pc := 12) hC 13 (by decide) (by decide) rfl (ct0 hW _) (n := 75) (by decide +kernel) (by decide) (N := 6) (by decide) (Z' := cZ227) rfl (X' := cX228) rfl (by decide) qy_FieldType_int dX6_init_12 (Nat.le_of_ble_eq_true rfl) (Nat.le_of_ble_eq_true rfl) ?_
  refine ww_putR (pc := 14) hC (i := 74) (t := 75) 6 4 ⟨by decide +kernel, by decide +kernel⟩ RX6 (by decide) (by decide) rfl qf_X6_15 rfl hin rfl rfl rfl rfl (Z' := cZ229) rfl dX6_init_14 ?_
  refine ww_aload_n (pc := 17) hC dX6_init_17 0 rfl ?_
  refine ww_getR (pc := 18) hC (i := 74) 6 4 75 ⟨by decide +kernel, by decide +kernel⟩ RX6 (by decide) (by decide) rfl (by decide +kernel) qf_X6_15 rfl dX6_init_18 ?_
  refine ww_iconst (pc := 21) hC (v := (3 : Int32)) dX6_init_21 (by decide) ?_
  refine ww_callSv (pc := 22) hC [.ref (w.1 75), .int (3 : Int32)] (X' := cX230) (ceJ7_fill_53178 (show KA cZ229 75 13 (sL cZ229 75) from ⟨by decide +kernel, by decide +kernel, rfl⟩) (fill_eq (n := 6) (by decide) (show sL cZ229 75 = 6 by decide +kernel))) ql_X6_19 qt_J7_fill_53178 qn_J7 qc_J7_fill_53178 ⟨by decide, by decide, rfl⟩ rfl ⟨Nat.le_of_ble_eq_true rfl, Nat.le_of_ble_eq_true rfl⟩ (by decide) (rest := []) (Nat.le_of_ble_eq_true rfl) dX6_init_22 ⟨Nat.le_of_ble_eq_true rfl, Nat.le_of_ble_eq_true rfl⟩ rfl ?_
  refine ww_aload_n (pc := 25) hC dX6_init_25 0 rfl ?_
  refine ww_bipush (pc := 26) hC (v := (6 : Int32)) dX6_init_26 (by decide) ?_
  refine ww_newa (pc := 28) hC 13 (by decide) (by decide) rfl (ct0 hW _) (n := 76) (by decide +kernel) (by decide) (N := 6) (by decide) (Z' := cZ231) rfl (X' := cX232) rfl (by decide) qy_FieldType_int dX6_init_28 (Nat.le_of_ble_eq_true rfl) (Nat.le_of_ble_eq_true rfl) ?_
  refine ww_putR (pc := 30) hC (i := 74) (t := 76) 6 5 ⟨by decide +kernel, by decide +kernel⟩ RX6 (by decide) (by decide) rfl qf_X6_25 rfl hin rfl rfl rfl rfl (Z' := cZ233) rfl dX6_init_30 ?_
  refine ww_aload_n (pc := 33) hC dX6_init_33 0 rfl ?_
  refine ww_bipush (pc := 34) hC (v := (6 : Int32)) dX6_init_34 (by decide) ?_
  refine ww_newa (pc := 36) hC 13 (by decide) (by decide) rfl (ct0 hW _) (n := 77) (by decide +kernel) (by decide) (N := 6) (by decide) (Z' := cZ234) rfl (X' := cX235) rfl (by decide) qy_FieldType_int dX6_init_36 (Nat.le_of_ble_eq_true rfl) (Nat.le_of_ble_eq_true rfl) ?_
  refine ww_putR (pc := 38) hC (i := 74) (t := 77) 6 6 ⟨by decide +kernel, by decide +kernel⟩ RX6 (by decide) (by decide) rfl qf_X6_28 rfl hin rfl rfl rfl rfl (Z' := cZ236) rfl dX6_init_38 ?_
  refine ww_aload_n (pc := 41) hC dX6_init_41 0 rfl ?_
  refine ww_bipush (pc := 42) hC (v := (24 : Int32)) dX6_init_42 (by decide) ?_
  refine ww_newa (pc := 44) hC 13 (by decide) (by decide) rfl (ct0 hW _) (n := 78) (by decide +kernel) (by decide) (N := 24) (by decide) (Z' := cZ237) rfl (X' := cX238) rfl (by decide) qy_FieldType_int dX6_init_44 (Nat.le_of_ble_eq_true rfl) (Nat.le_of_ble_eq_true rfl) ?_
  refine ww_putR (pc := 46) hC (i := 74) (t := 78) 6 7 ⟨by decide +kernel, by decide +kernel⟩ RX6 (by decide) (by decide) rfl qf_X6_31 rfl hin rfl rfl rfl rfl (Z' := cZ239) rfl dX6_init_46 ?_
  refine ww_aload_n (pc := 49) hC dX6_init_49 0 rfl ?_
  refine ww_new (pc := 50) hC 3 (by decide) (ct0 hW _) (n := 79) (by decide +kernel) rfl (Z' := cZ240) rfl (X' := cX241) rfl qk_X6_34 qa_X3 qn_X3 dX6_init_50 (Nat.le_of_ble_eq_true rfl) (Nat.le_of_ble_eq_true rfl) ?_
  refine ww_dup (pc := 53) hC dX6_init_53 rfl ?_
  refine ww_iconst (pc := 54) hC (v := (4 : Int32)) dX6_init_54 (by decide) ?_
  refine ww_callI (pc := 55) hC [.int (4 : Int32)] (mc := 1) (ms := 4) (Z' := cZ244) (X' := cX243) (ciX3_init_20 hW) ql_X6_36 qi_X3_init qn_X3 qc_X3_init rfl ⟨by decide, by decide, rfl⟩ rfl ⟨Nat.le_of_ble_eq_true rfl, Nat.le_of_ble_eq_true rfl⟩ (by decide) (rest := [.ref (w.1 79), .ref (w.1 74)]) (Nat.le_of_ble_eq_true rfl) dX6_init_55 ⟨Nat.le_of_ble_eq_true rfl, Nat.le_of_ble_eq_true rfl⟩ rfl ?_
  refine ww_putR (pc := 58) hC (i := 74) (t := 79) 6 8 ⟨by decide +kernel, by decide +kernel⟩ RX6 (by decide) (by decide) rfl qf_X6_39 rfl hin rfl rfl rfl rfl (Z' := cZ245) rfl dX6_init_58 ?_
  refine ww_aload_n (pc := 61) hC dX6_init_61 0 rfl ?_
  refine ww_new (pc := 62) hC 3 (by decide) (ct0 hW _) (n := 81) (by decide +kernel) rfl (Z' := cZ246) rfl (X' := cX247) rfl qk_X6_34 qa_X3 qn_X3 dX6_init_62 (Nat.le_of_ble_eq_true rfl) (Nat.le_of_ble_eq_true rfl) ?_
  refine ww_dup (pc := 65) hC dX6_init_65 rfl ?_
  refine ww_bipush (pc := 66) hC (v := (6 : Int32)) dX6_init_66 (by decide) ?_
  refine ww_callI (pc := 68) hC [.int (6 : Int32)] (mc := 1) (ms := 6) (Z' := cZ250) (X' := cX249) (ciX3_init_21 hW) ql_X6_36 qi_X3_init qn_X3 qc_X3_init rfl ⟨by decide, by decide, rfl⟩ rfl ⟨Nat.le_of_ble_eq_true rfl, Nat.le_of_ble_eq_true rfl⟩ (by decide) (rest := [.ref (w.1 81), .ref (w.1 74)]) (Nat.le_of_ble_eq_true rfl) dX6_init_68 ⟨Nat.le_of_ble_eq_true rfl, Nat.le_of_ble_eq_true rfl⟩ rfl ?_
  refine ww_putR (pc := 71) hC (i := 74) (t := 81) 6 9 ⟨by decide +kernel, by decide +kernel⟩ RX6 (by decide) (by decide) rfl qf_X6_43 rfl hin rfl rfl rfl rfl (Z' := cZ251) rfl dX6_init_71 ?_
  refine ww_aload_n (pc := 74) hC dX6_init_74 0 rfl ?_
  refine ww_new (pc := 75) hC 3 (by decide) (ct0 hW _) (n := 83) (by decide +kernel) rfl (Z' := cZ252) rfl (X' := cX253) rfl qk_X6_34 qa_X3 qn_X3 dX6_init_75 (Nat.le_of_ble_eq_true rfl) (Nat.le_of_ble_eq_true rfl) ?_
  refine ww_dup (pc := 78) hC dX6_init_78 rfl ?_
  refine ww_bipush (pc := 79) hC (v := (10 : Int32)) dX6_init_79 (by decide) ?_
  refine ww_callI (pc := 81) hC [.int (10 : Int32)] (mc := 1) (ms := 10) (Z' := cZ256) (X' := cX255) (ciX3_init_22 hW) ql_X6_36 qi_X3_init qn_X3 qc_X3_init rfl ⟨by decide, by decide, rfl⟩ rfl ⟨Nat.le_of_ble_eq_true rfl, Nat.le_of_ble_eq_true rfl⟩ (by decide) (rest := [.ref (w.1 83), .ref (w.1 74)]) (Nat.le_of_ble_eq_true rfl) dX6_init_81 ⟨Nat.le_of_ble_eq_true rfl, Nat.le_of_ble_eq_true rfl⟩ rfl ?_
  refine ww_putR (pc := 84) hC (i := 74) (t := 83) 6 10 ⟨by decide +kernel, by decide +kernel⟩ RX6 (by decide) (by decide) rfl qf_X6_46 rfl hin rfl rfl rfl rfl (Z' := cZ257) rfl dX6_init_84 ?_
  refine ww_aload_n (pc := 87) hC dX6_init_87 0 rfl ?_
  refine ww_new (pc := 88) hC 3 (by decide) (ct0 hW _) (n := 85) (by decide +kernel) rfl (Z' := cZ258) rfl (X' := cX259) rfl qk_X6_34 qa_X3 qn_X3 dX6_init_88 (Nat.le_of_ble_eq_true rfl) (Nat.le_of_ble_eq_true rfl) ?_
  refine ww_dup (pc := 91) hC dX6_init_91 rfl ?_
  refine ww_bipush (pc := 92) hC (v := (10 : Int32)) dX6_init_92 (by decide) ?_
  refine ww_callI (pc := 94) hC [.int (10 : Int32)] (mc := 1) (ms := 10) (Z' := cZ262) (X' := cX261) (ciX3_init_23 hW) ql_X6_36 qi_X3_init qn_X3 qc_X3_init rfl ⟨by decide, by decide, rfl⟩ rfl ⟨Nat.le_of_ble_eq_true rfl, Nat.le_of_ble_eq_true rfl⟩ (by decide) (rest := [.ref (w.1 85), .ref (w.1 74)]) (Nat.le_of_ble_eq_true rfl) dX6_init_94 ⟨Nat.le_of_ble_eq_true rfl, Nat.le_of_ble_eq_true rfl⟩ rfl ?_
  refine ww_putR (pc := 97) hC (i := 74) (t := 85) 6 11 ⟨by decide +kernel, by decide +kernel⟩ RX6 (by decide) (by decide) rfl qf_X6_49 rfl hin rfl rfl rfl rfl (Z' := cZ263) rfl dX6_init_97 ?_
  exact ww_vret (pc := 100) hC hr (u := ()) (r := ()) rfl dX6_init_100
def cZ264 : XS := stR cZ263 73 0 74
def cZ265 : XS := newO 87 cZ264 6
def cX266 : XD := zX cX261 87
def cX267 : XD := wI cX266 87 1 (-1 : Int32)
def cZ268 : XS := newA 88 cZ265 13 6
def cX269 : XD := zX cX267 88
def cZ270 : XS := stR cZ268 87 4 88
def cX271 : XD := fillI cX269 88 6 (3 : Int32)
def cZ272 : XS := newA 89 cZ270 13 6
def cX273 : XD := zX cX271 89
def cZ274 : XS := stR cZ272 87 5 89
def cZ275 : XS := newA 90 cZ274 13 6
def cX276 : XD := zX cX273 90
def cZ277 : XS := stR cZ275 87 6 90
def cZ278 : XS := newA 91 cZ277 13 24
def cX279 : XD := zX cX276 91
def cZ280 : XS := stR cZ278 87 7 91
def cZ281 : XS := newO 92 cZ280 3
def cX282 : XD := zX cX279 92
def cZ283 : XS := newA 93 cZ281 13 4
def cX284 : XD := zX cX282 93
def cZ285 : XS := stR cZ283 92 0 93
set_option maxHeartbeats 40000000 in
set_option maxRecDepth 100000 in
theorem ciX3_init_25 {l : Launch} {E : XE} {w : XW} (hW : ∀ i : Nat, w.1 i = w.1 0 + i) : Ct l E w yX3_init (wsM yX3_init cX3_init 2 none) (rmX 1 1 4) 1 4 [.ref (w.1 92), .int (4 : Int32)] (w.1 (sn cZ281)) (w.1 (sn cZ285)) cZ281 cZ285 cX282 cX284 none := by
  refine ct_of (by decide) (Nat.le_of_ble_eq_true rfl) ?_
  intro p e s m args below meth c hC hr hin hav
  refine ww_lv (lv' := [(0, .ref (w.1 92)), (1, .int (4 : Int32))]) rfl ?_
  refine ww_aload_n (pc := 0) hC dX3_init_0 0 rfl ?_
  refine ww_objInit (pc := 1) hC ql_X3_3 qi_java_lang_Object__init_ qc_java_lang_Object__init_ dX3_init_1 ⟨Nat.le_of_ble_eq_true rfl, Nat.le_of_ble_eq_true rfl⟩ (Nat.le_of_ble_eq_true rfl) ?_
  refine ww_aload_n (pc := 4) hC dX3_init_4 0 rfl ?_
  refine ww_iconst (pc := 5) hC (v := (0 : Int32)) dX3_init_5 (by decide) ?_
  refine ww_iload_n (pc := 6) hC dX3_init_6 1 rfl ?_
  refine ww_max (pc := 7) hC ql_X3_9 qt_J9_max_7cf53 qn_J9 qc_J9_max_7cf53 dX3_init_7 ⟨Nat.le_of_ble_eq_true rfl, Nat.le_of_ble_eq_true rfl⟩ (Nat.le_of_ble_eq_true rfl) ⟨Nat.le_of_ble_eq_true rfl, Nat.le_of_ble_eq_true rfl⟩ ?_
  rw [show (if (0 : Int32) < (4 : Int32) then (4 : Int32) else (0 : Int32)) = (4 : Int32) by decide]
  refine ww_newa (pc := 10) hC 13 (by decide) (by decide) rfl (ct0 hW _) (n := 93) (by decide +kernel) (by decide) (N := 4) (by decide) (Z' := cZ283) rfl (X' := cX284) rfl (by decide) qy_FieldType_int dX3_init_10 (Nat.le_of_ble_eq_true rfl) (Nat.le_of_ble_eq_true rfl) ?_
  refine ww_putR (pc := 12) hC (i := 92) (t := 93) 3 0 ⟨by decide +kernel, by decide +kernel⟩ RX3 (by decide) (by decide) rfl qf_X3_15 rfl hin rfl rfl rfl rfl (Z' := cZ285) rfl dX3_init_12 ?_
  exact ww_vret (pc := 15) hC hr (u := ()) (r := ()) rfl dX3_init_15
def cZ286 : XS := stR cZ285 87 8 92
def cZ287 : XS := newO 94 cZ286 3
def cX288 : XD := zX cX284 94
def cZ289 : XS := newA 95 cZ287 13 6
def cX290 : XD := zX cX288 95
def cZ291 : XS := stR cZ289 94 0 95
set_option maxHeartbeats 40000000 in
set_option maxRecDepth 100000 in
theorem ciX3_init_26 {l : Launch} {E : XE} {w : XW} (hW : ∀ i : Nat, w.1 i = w.1 0 + i) : Ct l E w yX3_init (wsM yX3_init cX3_init 2 none) (rmX 1 1 6) 1 6 [.ref (w.1 94), .int (6 : Int32)] (w.1 (sn cZ287)) (w.1 (sn cZ291)) cZ287 cZ291 cX288 cX290 none := by
  refine ct_of (by decide) (Nat.le_of_ble_eq_true rfl) ?_
  intro p e s m args below meth c hC hr hin hav
  refine ww_lv (lv' := [(0, .ref (w.1 94)), (1, .int (6 : Int32))]) rfl ?_
  refine ww_aload_n (pc := 0) hC dX3_init_0 0 rfl ?_
  refine ww_objInit (pc := 1) hC ql_X3_3 qi_java_lang_Object__init_ qc_java_lang_Object__init_ dX3_init_1 ⟨Nat.le_of_ble_eq_true rfl, Nat.le_of_ble_eq_true rfl⟩ (Nat.le_of_ble_eq_true rfl) ?_
  refine ww_aload_n (pc := 4) hC dX3_init_4 0 rfl ?_
  refine ww_iconst (pc := 5) hC (v := (0 : Int32)) dX3_init_5 (by decide) ?_
  refine ww_iload_n (pc := 6) hC dX3_init_6 1 rfl ?_
  refine ww_max (pc := 7) hC ql_X3_9 qt_J9_max_7cf53 qn_J9 qc_J9_max_7cf53 dX3_init_7 ⟨Nat.le_of_ble_eq_true rfl, Nat.le_of_ble_eq_true rfl⟩ (Nat.le_of_ble_eq_true rfl) ⟨Nat.le_of_ble_eq_true rfl, Nat.le_of_ble_eq_true rfl⟩ ?_
  rw [show (if (0 : Int32) < (6 : Int32) then (6 : Int32) else (0 : Int32)) = (6 : Int32) by decide]
  refine ww_newa (pc := 10) hC 13 (by decide) (by decide) rfl (ct0 hW _) (n := 95) (by decide +kernel) (by decide) (N := 6) (by decide) (Z' := cZ289) rfl (X' := cX290) rfl (by decide) qy_FieldType_int dX3_init_10 (Nat.le_of_ble_eq_true rfl) (Nat.le_of_ble_eq_true rfl) ?_
  refine ww_putR (pc := 12) hC (i := 94) (t := 95) 3 0 ⟨by decide +kernel, by decide +kernel⟩ RX3 (by decide) (by decide) rfl qf_X3_15 rfl hin rfl rfl rfl rfl (Z' := cZ291) rfl dX3_init_12 ?_
  exact ww_vret (pc := 15) hC hr (u := ()) (r := ()) rfl dX3_init_15
def cZ292 : XS := stR cZ291 87 9 94
def cZ293 : XS := newO 96 cZ292 3
def cX294 : XD := zX cX290 96
def cZ295 : XS := newA 97 cZ293 13 10
def cX296 : XD := zX cX294 97
def cZ297 : XS := stR cZ295 96 0 97
set_option maxHeartbeats 40000000 in
set_option maxRecDepth 100000 in
theorem ciX3_init_27 {l : Launch} {E : XE} {w : XW} (hW : ∀ i : Nat, w.1 i = w.1 0 + i) : Ct l E w yX3_init (wsM yX3_init cX3_init 2 none) (rmX 1 1 10) 1 10 [.ref (w.1 96), .int (10 : Int32)] (w.1 (sn cZ293)) (w.1 (sn cZ297)) cZ293 cZ297 cX294 cX296 none := by
  refine ct_of (by decide) (Nat.le_of_ble_eq_true rfl) ?_
  intro p e s m args below meth c hC hr hin hav
  refine ww_lv (lv' := [(0, .ref (w.1 96)), (1, .int (10 : Int32))]) rfl ?_
  refine ww_aload_n (pc := 0) hC dX3_init_0 0 rfl ?_
  refine ww_objInit (pc := 1) hC ql_X3_3 qi_java_lang_Object__init_ qc_java_lang_Object__init_ dX3_init_1 ⟨Nat.le_of_ble_eq_true rfl, Nat.le_of_ble_eq_true rfl⟩ (Nat.le_of_ble_eq_true rfl) ?_
  refine ww_aload_n (pc := 4) hC dX3_init_4 0 rfl ?_
  refine ww_iconst (pc := 5) hC (v := (0 : Int32)) dX3_init_5 (by decide) ?_
  refine ww_iload_n (pc := 6) hC dX3_init_6 1 rfl ?_
  refine ww_max (pc := 7) hC ql_X3_9 qt_J9_max_7cf53 qn_J9 qc_J9_max_7cf53 dX3_init_7 ⟨Nat.le_of_ble_eq_true rfl, Nat.le_of_ble_eq_true rfl⟩ (Nat.le_of_ble_eq_true rfl) ⟨Nat.le_of_ble_eq_true rfl, Nat.le_of_ble_eq_true rfl⟩ ?_
  rw [show (if (0 : Int32) < (10 : Int32) then (10 : Int32) else (0 : Int32)) = (10 : Int32) by decide]
  refine ww_newa (pc := 10) hC 13 (by decide) (by decide) rfl (ct0 hW _) (n := 97) (by decide +kernel) (by decide) (N := 10) (by decide) (Z' := cZ295) rfl (X' := cX296) rfl (by decide) qy_FieldType_int dX3_init_10 (Nat.le_of_ble_eq_true rfl) (Nat.le_of_ble_eq_true rfl) ?_
  refine ww_putR (pc := 12) hC (i := 96) (t := 97) 3 0 ⟨by decide +kernel, by decide +kernel⟩ RX3 (by decide) (by decide) rfl qf_X3_15 rfl hin rfl rfl rfl rfl (Z' := cZ297) rfl dX3_init_12 ?_
  exact ww_vret (pc := 15) hC hr (u := ()) (r := ()) rfl dX3_init_15
def cZ298 : XS := stR cZ297 87 10 96
def cZ299 : XS := newO 98 cZ298 3
def cX300 : XD := zX cX296 98
def cZ301 : XS := newA 99 cZ299 13 10
def cX302 : XD := zX cX300 99
def cZ303 : XS := stR cZ301 98 0 99
set_option maxHeartbeats 40000000 in
set_option maxRecDepth 100000 in
theorem ciX3_init_28 {l : Launch} {E : XE} {w : XW} (hW : ∀ i : Nat, w.1 i = w.1 0 + i) : Ct l E w yX3_init (wsM yX3_init cX3_init 2 none) (rmX 1 1 10) 1 10 [.ref (w.1 98), .int (10 : Int32)] (w.1 (sn cZ299)) (w.1 (sn cZ303)) cZ299 cZ303 cX300 cX302 none := by
  refine ct_of (by decide) (Nat.le_of_ble_eq_true rfl) ?_
  intro p e s m args below meth c hC hr hin hav
  refine ww_lv (lv' := [(0, .ref (w.1 98)), (1, .int (10 : Int32))]) rfl ?_
  refine ww_aload_n (pc := 0) hC dX3_init_0 0 rfl ?_
  refine ww_objInit (pc := 1) hC ql_X3_3 qi_java_lang_Object__init_ qc_java_lang_Object__init_ dX3_init_1 ⟨Nat.le_of_ble_eq_true rfl, Nat.le_of_ble_eq_true rfl⟩ (Nat.le_of_ble_eq_true rfl) ?_
  refine ww_aload_n (pc := 4) hC dX3_init_4 0 rfl ?_
  refine ww_iconst (pc := 5) hC (v := (0 : Int32)) dX3_init_5 (by decide) ?_
  refine ww_iload_n (pc := 6) hC dX3_init_6 1 rfl ?_
  refine ww_max (pc := 7) hC ql_X3_9 qt_J9_max_7cf53 qn_J9 qc_J9_max_7cf53 dX3_init_7 ⟨Nat.le_of_ble_eq_true rfl, Nat.le_of_ble_eq_true rfl⟩ (Nat.le_of_ble_eq_true rfl) ⟨Nat.le_of_ble_eq_true rfl, Nat.le_of_ble_eq_true rfl⟩ ?_
  rw [show (if (0 : Int32) < (10 : Int32) then (10 : Int32) else (0 : Int32)) = (10 : Int32) by decide]
  refine ww_newa (pc := 10) hC 13 (by decide) (by decide) rfl (ct0 hW _) (n := 99) (by decide +kernel) (by decide) (N := 10) (by decide) (Z' := cZ301) rfl (X' := cX302) rfl (by decide) qy_FieldType_int dX3_init_10 (Nat.le_of_ble_eq_true rfl) (Nat.le_of_ble_eq_true rfl) ?_
  refine ww_putR (pc := 12) hC (i := 98) (t := 99) 3 0 ⟨by decide +kernel, by decide +kernel⟩ RX3 (by decide) (by decide) rfl qf_X3_15 rfl hin rfl rfl rfl rfl (Z' := cZ303) rfl dX3_init_12 ?_
  exact ww_vret (pc := 15) hC hr (u := ()) (r := ()) rfl dX3_init_15
def cZ304 : XS := stR cZ303 87 11 98
set_option maxHeartbeats 40000000 in
set_option maxRecDepth 100000 in
theorem ciX6_init_24 {l : Launch} {E : XE} {w : XW} (hW : ∀ i : Nat, w.1 i = w.1 0 + i) : Ct l E w yX6_init (wsM yX6_init cX6_init 1 none) (rmX 2 12 84) 12 84 [.ref (w.1 87)] (w.1 (sn cZ265)) (w.1 (sn cZ304)) cZ265 cZ304 cX266 cX302 none := by
  refine ct_of (by decide) (Nat.le_of_ble_eq_true rfl) ?_
  intro p e s m args below meth c hC hr hin hav
  refine ww_lv (lv' := [(0, .ref (w.1 87))]) rfl ?_
  refine ww_aload_n (pc := 0) hC dX6_init_0 0 rfl ?_
  refine ww_objInit (pc := 1) hC ql_X6_3 qi_java_lang_Object__init_ qc_java_lang_Object__init_ dX6_init_1 ⟨Nat.le_of_ble_eq_true rfl, Nat.le_of_ble_eq_true rfl⟩ (Nat.le_of_ble_eq_true rfl) ?_
  refine ww_aload_n (pc := 4) hC dX6_init_4 0 rfl ?_
  refine ww_iconst (pc := 5) hC (v := (-1 : Int32)) dX6_init_5 (by decide) ?_
  refine ww_putI (pc := 6) hC (i := 87) 6 1 ⟨by decide +kernel, by decide +kernel⟩ RX6 (by decide) (by decide) rfl qf_X6_9 rfl rfl rfl rfl dX6_init_6 ?_
  refine ww_nmX (X' := cX267) rfl ?_
  refine ww_aload_n (pc := 9) hC dX6_init_9 0 rfl ?_
  refine ww_bipush (pc := 10) hC (v := (6 : Int32)) dX6_init_10 (by decide) ?_
  refine ww_newa (pc := 12) hC 13 (by decide) (by decide) rfl (ct0 hW _) (n := 88) (by decide +kernel) (by decide) (N := 6) (by decide) (Z' := cZ268) rfl (X' := cX269) rfl (by decide) qy_FieldType_int dX6_init_12 (Nat.le_of_ble_eq_true rfl) (Nat.le_of_ble_eq_true rfl) ?_
  refine ww_putR (pc := 14) hC (i := 87) (t := 88) 6 4 ⟨by decide +kernel, by decide +kernel⟩ RX6 (by decide) (by decide) rfl qf_X6_15 rfl hin rfl rfl rfl rfl (Z' := cZ270) rfl dX6_init_14 ?_
  refine ww_aload_n (pc := 17) hC dX6_init_17 0 rfl ?_
  refine ww_getR (pc := 18) hC (i := 87) 6 4 88 ⟨by decide +kernel, by decide +kernel⟩ RX6 (by decide) (by decide) rfl (by decide +kernel) qf_X6_15 rfl dX6_init_18 ?_
  refine ww_iconst (pc := 21) hC (v := (3 : Int32)) dX6_init_21 (by decide) ?_
  refine ww_callSv (pc := 22) hC [.ref (w.1 88), .int (3 : Int32)] (X' := cX271) (ceJ7_fill_53178 (show KA cZ270 88 13 (sL cZ270 88) from ⟨by decide +kernel, by decide +kernel, rfl⟩) (fill_eq (n := 6) (by decide) (show sL cZ270 88 = 6 by decide +kernel))) ql_X6_19 qt_J7_fill_53178 qn_J7 qc_J7_fill_53178 ⟨by decide, by decide, rfl⟩ rfl ⟨Nat.le_of_ble_eq_true rfl, Nat.le_of_ble_eq_true rfl⟩ (by decide) (rest := []) (Nat.le_of_ble_eq_true rfl) dX6_init_22 ⟨Nat.le_of_ble_eq_true rfl, Nat.le_of_ble_eq_true rfl⟩ rfl ?_
  refine ww_aload_n (pc := 25) hC dX6_init_25 0 rfl ?_
  refine ww_bipush (pc := 26) hC (v := (6 : Int32)) dX6_init_26 (by decide) ?_
  refine ww_newa (pc := 28) hC 13 (by decide) (by decide) rfl (ct0 hW _) (n := 89) (by decide +kernel) (by decide) (N := 6) (by decide) (Z' := cZ272) rfl (X' := cX273) rfl (by decide) qy_FieldType_int dX6_init_28 (Nat.le_of_ble_eq_true rfl) (Nat.le_of_ble_eq_true rfl) ?_
  refine ww_putR (pc := 30) hC (i := 87) (t := 89) 6 5 ⟨by decide +kernel, by decide +kernel⟩ RX6 (by decide) (by decide) rfl qf_X6_25 rfl hin rfl rfl rfl rfl (Z' := cZ274) rfl dX6_init_30 ?_
  refine ww_aload_n (pc := 33) hC dX6_init_33 0 rfl ?_
  refine ww_bipush (pc := 34) hC (v := (6 : Int32)) dX6_init_34 (by decide) ?_
  refine ww_newa (pc := 36) hC 13 (by decide) (by decide) rfl (ct0 hW _) (n := 90) (by decide +kernel) (by decide) (N := 6) (by decide) (Z' := cZ275) rfl (X' := cX276) rfl (by decide) qy_FieldType_int dX6_init_36 (Nat.le_of_ble_eq_true rfl) (Nat.le_of_ble_eq_true rfl) ?_
  refine ww_putR (pc := 38) hC (i := 87) (t := 90) 6 6 ⟨by decide +kernel, by decide +kernel⟩ RX6 (by decide) (by decide) rfl qf_X6_28 rfl hin rfl rfl rfl rfl (Z' := cZ277) rfl dX6_init_38 ?_
  refine ww_aload_n (pc := 41) hC dX6_init_41 0 rfl ?_
  refine ww_bipush (pc := 42) hC (v := (24 : Int32)) dX6_init_42 (by decide) ?_
  refine ww_newa (pc := 44) hC 13 (by decide) (by decide) rfl (ct0 hW _) (n := 91) (by decide +kernel) (by decide) (N := 24) (by decide) (Z' := cZ278) rfl (X' := cX279) rfl (by decide) qy_FieldType_int dX6_init_44 (Nat.le_of_ble_eq_true rfl) (Nat.le_of_ble_eq_true rfl) ?_
  refine ww_putR (pc := 46) hC (i := 87) (t := 91) 6 7 ⟨by decide +kernel, by decide +kernel⟩ RX6 (by decide) (by decide) rfl qf_X6_31 rfl hin rfl rfl rfl rfl (Z' := cZ280) rfl dX6_init_46 ?_
  refine ww_aload_n (pc := 49) hC dX6_init_49 0 rfl ?_
  refine ww_new (pc := 50) hC 3 (by decide) (ct0 hW _) (n := 92) (by decide +kernel) rfl (Z' := cZ281) rfl (X' := cX282) rfl qk_X6_34 qa_X3 qn_X3 dX6_init_50 (Nat.le_of_ble_eq_true rfl) (Nat.le_of_ble_eq_true rfl) ?_
  refine ww_dup (pc := 53) hC dX6_init_53 rfl ?_
  refine ww_iconst (pc := 54) hC (v := (4 : Int32)) dX6_init_54 (by decide) ?_
  refine ww_callI (pc := 55) hC [.int (4 : Int32)] (mc := 1) (ms := 4) (Z' := cZ285) (X' := cX284) (ciX3_init_25 hW) ql_X6_36 qi_X3_init qn_X3 qc_X3_init rfl ⟨by decide, by decide, rfl⟩ rfl ⟨Nat.le_of_ble_eq_true rfl, Nat.le_of_ble_eq_true rfl⟩ (by decide) (rest := [.ref (w.1 92), .ref (w.1 87)]) (Nat.le_of_ble_eq_true rfl) dX6_init_55 ⟨Nat.le_of_ble_eq_true rfl, Nat.le_of_ble_eq_true rfl⟩ rfl ?_
  refine ww_putR (pc := 58) hC (i := 87) (t := 92) 6 8 ⟨by decide +kernel, by decide +kernel⟩ RX6 (by decide) (by decide) rfl qf_X6_39 rfl hin rfl rfl rfl rfl (Z' := cZ286) rfl dX6_init_58 ?_
  refine ww_aload_n (pc := 61) hC dX6_init_61 0 rfl ?_
  refine ww_new (pc := 62) hC 3 (by decide) (ct0 hW _) (n := 94) (by decide +kernel) rfl (Z' := cZ287) rfl (X' := cX288) rfl qk_X6_34 qa_X3 qn_X3 dX6_init_62 (Nat.le_of_ble_eq_true rfl) (Nat.le_of_ble_eq_true rfl) ?_
  refine ww_dup (pc := 65) hC dX6_init_65 rfl ?_
  refine ww_bipush (pc := 66) hC (v := (6 : Int32)) dX6_init_66 (by decide) ?_
  refine ww_callI (pc := 68) hC [.int (6 : Int32)] (mc := 1) (ms := 6) (Z' := cZ291) (X' := cX290) (ciX3_init_26 hW) ql_X6_36 qi_X3_init qn_X3 qc_X3_init rfl ⟨by decide, by decide, rfl⟩ rfl ⟨Nat.le_of_ble_eq_true rfl, Nat.le_of_ble_eq_true rfl⟩ (by decide) (rest := [.ref (w.1 94), .ref (w.1 87)]) (Nat.le_of_ble_eq_true rfl) dX6_init_68 ⟨Nat.le_of_ble_eq_true rfl, Nat.le_of_ble_eq_true rfl⟩ rfl ?_
  refine ww_putR (pc := 71) hC (i := 87) (t := 94) 6 9 ⟨by decide +kernel, by decide +kernel⟩ RX6 (by decide) (by decide) rfl qf_X6_43 rfl hin rfl rfl rfl rfl (Z' := cZ292) rfl dX6_init_71 ?_
  refine ww_aload_n (pc := 74) hC dX6_init_74 0 rfl ?_
  refine ww_new (pc := 75) hC 3 (by decide) (ct0 hW _) (n := 96) (by decide +kernel) rfl (Z' := cZ293) rfl (X' := cX294) rfl qk_X6_34 qa_X3 qn_X3 dX6_init_75 (Nat.le_of_ble_eq_true rfl) (Nat.le_of_ble_eq_true rfl) ?_
  refine ww_dup (pc := 78) hC dX6_init_78 rfl ?_
  refine ww_bipush (pc := 79) hC (v := (10 : Int32)) dX6_init_79 (by decide) ?_
  refine ww_callI (pc := 81) hC [.int (10 : Int32)] (mc := 1) (ms := 10) (Z' := cZ297) (X' := cX296) (ciX3_init_27 hW) ql_X6_36 qi_X3_init qn_X3 qc_X3_init rfl ⟨by decide, by decide, rfl⟩ rfl ⟨Nat.le_of_ble_eq_true rfl, Nat.le_of_ble_eq_true rfl⟩ (by decide) (rest := [.ref (w.1 96), .ref (w.1 87)]) (Nat.le_of_ble_eq_true rfl) dX6_init_81 ⟨Nat.le_of_ble_eq_true rfl, Nat.le_of_ble_eq_true rfl⟩ rfl ?_
  refine ww_putR (pc := 84) hC (i := 87) (t := 96) 6 10 ⟨by decide +kernel, by decide +kernel⟩ RX6 (by decide) (by decide) rfl qf_X6_46 rfl hin rfl rfl rfl rfl (Z' := cZ298) rfl dX6_init_84 ?_
  refine ww_aload_n (pc := 87) hC dX6_init_87 0 rfl ?_
  refine ww_new (pc := 88) hC 3 (by decide) (ct0 hW _) (n := 98) (by decide +kernel) rfl (Z' := cZ299) rfl (X' := cX300) rfl qk_X6_34 qa_X3 qn_X3 dX6_init_88 (Nat.le_of_ble_eq_true rfl) (Nat.le_of_ble_eq_true rfl) ?_
  refine ww_dup (pc := 91) hC dX6_init_91 rfl ?_
  refine ww_bipush (pc := 92) hC (v := (10 : Int32)) dX6_init_92 (by decide) ?_
  refine ww_callI (pc := 94) hC [.int (10 : Int32)] (mc := 1) (ms := 10) (Z' := cZ303) (X' := cX302) (ciX3_init_28 hW) ql_X6_36 qi_X3_init qn_X3 qc_X3_init rfl ⟨by decide, by decide, rfl⟩ rfl ⟨Nat.le_of_ble_eq_true rfl, Nat.le_of_ble_eq_true rfl⟩ (by decide) (rest := [.ref (w.1 98), .ref (w.1 87)]) (Nat.le_of_ble_eq_true rfl) dX6_init_94 ⟨Nat.le_of_ble_eq_true rfl, Nat.le_of_ble_eq_true rfl⟩ rfl ?_
  refine ww_putR (pc := 97) hC (i := 87) (t := 98) 6 11 ⟨by decide +kernel, by decide +kernel⟩ RX6 (by decide) (by decide) rfl qf_X6_49 rfl hin rfl rfl rfl rfl (Z' := cZ304) rfl dX6_init_97 ?_
  exact ww_vret (pc := 100) hC hr (u := ()) (r := ()) rfl dX6_init_100
def cZ305 : XS := stR cZ304 73 1 87
def cZ306 : XS := newO 100 cZ305 6
def cX307 : XD := zX cX302 100
def cX308 : XD := wI cX307 100 1 (-1 : Int32)
def cZ309 : XS := newA 101 cZ306 13 6
def cX310 : XD := zX cX308 101
def cZ311 : XS := stR cZ309 100 4 101
def cX312 : XD := fillI cX310 101 6 (3 : Int32)
def cZ313 : XS := newA 102 cZ311 13 6
def cX314 : XD := zX cX312 102
def cZ315 : XS := stR cZ313 100 5 102
def cZ316 : XS := newA 103 cZ315 13 6
def cX317 : XD := zX cX314 103
def cZ318 : XS := stR cZ316 100 6 103
def cZ319 : XS := newA 104 cZ318 13 24
def cX320 : XD := zX cX317 104
def cZ321 : XS := stR cZ319 100 7 104
def cZ322 : XS := newO 105 cZ321 3
def cX323 : XD := zX cX320 105
def cZ324 : XS := newA 106 cZ322 13 4
def cX325 : XD := zX cX323 106
def cZ326 : XS := stR cZ324 105 0 106
set_option maxHeartbeats 40000000 in
set_option maxRecDepth 100000 in
theorem ciX3_init_30 {l : Launch} {E : XE} {w : XW} (hW : ∀ i : Nat, w.1 i = w.1 0 + i) : Ct l E w yX3_init (wsM yX3_init cX3_init 2 none) (rmX 1 1 4) 1 4 [.ref (w.1 105), .int (4 : Int32)] (w.1 (sn cZ322)) (w.1 (sn cZ326)) cZ322 cZ326 cX323 cX325 none := by
  refine ct_of (by decide) (Nat.le_of_ble_eq_true rfl) ?_
  intro p e s m args below meth c hC hr hin hav
  refine ww_lv (lv' := [(0, .ref (w.1 105)), (1, .int (4 : Int32))]) rfl ?_
  refine ww_aload_n (pc := 0) hC dX3_init_0 0 rfl ?_
  refine ww_objInit (pc := 1) hC ql_X3_3 qi_java_lang_Object__init_ qc_java_lang_Object__init_ dX3_init_1 ⟨Nat.le_of_ble_eq_true rfl, Nat.le_of_ble_eq_true rfl⟩ (Nat.le_of_ble_eq_true rfl) ?_
  refine ww_aload_n (pc := 4) hC dX3_init_4 0 rfl ?_
  refine ww_iconst (pc := 5) hC (v := (0 : Int32)) dX3_init_5 (by decide) ?_
  refine ww_iload_n (pc := 6) hC dX3_init_6 1 rfl ?_
  refine ww_max (pc := 7) hC ql_X3_9 qt_J9_max_7cf53 qn_J9 qc_J9_max_7cf53 dX3_init_7 ⟨Nat.le_of_ble_eq_true rfl, Nat.le_of_ble_eq_true rfl⟩ (Nat.le_of_ble_eq_true rfl) ⟨Nat.le_of_ble_eq_true rfl, Nat.le_of_ble_eq_true rfl⟩ ?_
  rw [show (if (0 : Int32) < (4 : Int32) then (4 : Int32) else (0 : Int32)) = (4 : Int32) by decide]
  refine ww_newa (pc := 10) hC 13 (by decide) (by decide) rfl (ct0 hW _) (n := 106) (by decide +kernel) (by decide) (N := 4) (by decide) (Z' := cZ324) rfl (X' := cX325) rfl (by decide) qy_FieldType_int dX3_init_10 (Nat.le_of_ble_eq_true rfl) (Nat.le_of_ble_eq_true rfl) ?_
  refine ww_putR (pc := 12) hC (i := 105) (t := 106) 3 0 ⟨by decide +kernel, by decide +kernel⟩ RX3 (by decide) (by decide) rfl qf_X3_15 rfl hin rfl rfl rfl rfl (Z' := cZ326) rfl dX3_init_12 ?_
  exact ww_vret (pc := 15) hC hr (u := ()) (r := ()) rfl dX3_init_15
def cZ327 : XS := stR cZ326 100 8 105
def cZ328 : XS := newO 107 cZ327 3
def cX329 : XD := zX cX325 107
def cZ330 : XS := newA 108 cZ328 13 6
def cX331 : XD := zX cX329 108
def cZ332 : XS := stR cZ330 107 0 108
set_option maxHeartbeats 40000000 in
set_option maxRecDepth 100000 in
theorem ciX3_init_31 {l : Launch} {E : XE} {w : XW} (hW : ∀ i : Nat, w.1 i = w.1 0 + i) : Ct l E w yX3_init (wsM yX3_init cX3_init 2 none) (rmX 1 1 6) 1 6 [.ref (w.1 107), .int (6 : Int32)] (w.1 (sn cZ328)) (w.1 (sn cZ332)) cZ328 cZ332 cX329 cX331 none := by
  refine ct_of (by decide) (Nat.le_of_ble_eq_true rfl) ?_
  intro p e s m args below meth c hC hr hin hav
  refine ww_lv (lv' := [(0, .ref (w.1 107)), (1, .int (6 : Int32))]) rfl ?_
  refine ww_aload_n (pc := 0) hC dX3_init_0 0 rfl ?_
  refine ww_objInit (pc := 1) hC ql_X3_3 qi_java_lang_Object__init_ qc_java_lang_Object__init_ dX3_init_1 ⟨Nat.le_of_ble_eq_true rfl, Nat.le_of_ble_eq_true rfl⟩ (Nat.le_of_ble_eq_true rfl) ?_
  refine ww_aload_n (pc := 4) hC dX3_init_4 0 rfl ?_
  refine ww_iconst (pc := 5) hC (v := (0 : Int32)) dX3_init_5 (by decide) ?_
  refine ww_iload_n (pc := 6) hC dX3_init_6 1 rfl ?_
  refine ww_max (pc := 7) hC ql_X3_9 qt_J9_max_7cf53 qn_J9 qc_J9_max_7cf53 dX3_init_7 ⟨Nat.le_of_ble_eq_true rfl, Nat.le_of_ble_eq_true rfl⟩ (Nat.le_of_ble_eq_true rfl) ⟨Nat.le_of_ble_eq_true rfl, Nat.le_of_ble_eq_true rfl⟩ ?_
  rw [show (if (0 : Int32) < (6 : Int32) then (6 : Int32) else (0 : Int32)) = (6 : Int32) by decide]
  refine ww_newa (pc := 10) hC 13 (by decide) (by decide) rfl (ct0 hW _) (n := 108) (by decide +kernel) (by decide) (N := 6) (by decide) (Z' := cZ330) rfl (X' := cX331) rfl (by decide) qy_FieldType_int dX3_init_10 (Nat.le_of_ble_eq_true rfl) (Nat.le_of_ble_eq_true rfl) ?_
  refine ww_putR (pc := 12) hC (i := 107) (t := 108) 3 0 ⟨by decide +kernel, by decide +kernel⟩ RX3 (by decide) (by decide) rfl qf_X3_15 rfl hin rfl rfl rfl rfl (Z' := cZ332) rfl dX3_init_12 ?_
  exact ww_vret (pc := 15) hC hr (u := ()) (r := ()) rfl dX3_init_15
def cZ333 : XS := stR cZ332 100 9 107
def cZ334 : XS := newO 109 cZ333 3
def cX335 : XD := zX cX331 109
def cZ336 : XS := newA 110 cZ334 13 10
def cX337 : XD := zX cX335 110
def cZ338 : XS := stR cZ336 109 0 110
set_option maxHeartbeats 40000000 in
set_option maxRecDepth 100000 in
theorem ciX3_init_32 {l : Launch} {E : XE} {w : XW} (hW : ∀ i : Nat, w.1 i = w.1 0 + i) : Ct l E w yX3_init (wsM yX3_init cX3_init 2 none) (rmX 1 1 10) 1 10 [.ref (w.1 109), .int (10 : Int32)] (w.1 (sn cZ334)) (w.1 (sn cZ338)) cZ334 cZ338 cX335 cX337 none := by
  refine ct_of (by decide) (Nat.le_of_ble_eq_true rfl) ?_
  intro p e s m args below meth c hC hr hin hav
  refine ww_lv (lv' := [(0, .ref (w.1 109)), (1, .int (10 : Int32))]) rfl ?_
  refine ww_aload_n (pc := 0) hC dX3_init_0 0 rfl ?_
  refine ww_objInit (pc := 1) hC ql_X3_3 qi_java_lang_Object__init_ qc_java_lang_Object__init_ dX3_init_1 ⟨Nat.le_of_ble_eq_true rfl, Nat.le_of_ble_eq_true rfl⟩ (Nat.le_of_ble_eq_true rfl) ?_
  refine ww_aload_n (pc := 4) hC dX3_init_4 0 rfl ?_
  refine ww_iconst (pc := 5) hC (v := (0 : Int32)) dX3_init_5 (by decide) ?_
  refine ww_iload_n (pc := 6) hC dX3_init_6 1 rfl ?_
  refine ww_max (pc := 7) hC ql_X3_9 qt_J9_max_7cf53 qn_J9 qc_J9_max_7cf53 dX3_init_7 ⟨Nat.le_of_ble_eq_true rfl, Nat.le_of_ble_eq_true rfl⟩ (Nat.le_of_ble_eq_true rfl) ⟨Nat.le_of_ble_eq_true rfl, Nat.le_of_ble_eq_true rfl⟩ ?_
  rw [show (if (0 : Int32) < (10 : Int32) then (10 : Int32) else (0 : Int32)) = (10 : Int32) by decide]
  refine ww_newa (pc := 10) hC 13 (by decide) (by decide) rfl (ct0 hW _) (n := 110) (by decide +kernel) (by decide) (N := 10) (by decide) (Z' := cZ336) rfl (X' := cX337) rfl (by decide) qy_FieldType_int dX3_init_10 (Nat.le_of_ble_eq_true rfl) (Nat.le_of_ble_eq_true rfl) ?_
  refine ww_putR (pc := 12) hC (i := 109) (t := 110) 3 0 ⟨by decide +kernel, by decide +kernel⟩ RX3 (by decide) (by decide) rfl qf_X3_15 rfl hin rfl rfl rfl rfl (Z' := cZ338) rfl dX3_init_12 ?_
  exact ww_vret (pc := 15) hC hr (u := ()) (r := ()) rfl dX3_init_15
def cZ339 : XS := stR cZ338 100 10 109
def cZ340 : XS := newO 111 cZ339 3
def cX341 : XD := zX cX337 111
def cZ342 : XS := newA 112 cZ340 13 10
def cX343 : XD := zX cX341 112
def cZ344 : XS := stR cZ342 111 0 112
set_option maxHeartbeats 40000000 in
set_option maxRecDepth 100000 in
theorem ciX3_init_33 {l : Launch} {E : XE} {w : XW} (hW : ∀ i : Nat, w.1 i = w.1 0 + i) : Ct l E w yX3_init (wsM yX3_init cX3_init 2 none) (rmX 1 1 10) 1 10 [.ref (w.1 111), .int (10 : Int32)] (w.1 (sn cZ340)) (w.1 (sn cZ344)) cZ340 cZ344 cX341 cX343 none := by
  refine ct_of (by decide) (Nat.le_of_ble_eq_true rfl) ?_
  intro p e s m args below meth c hC hr hin hav
  refine ww_lv (lv' := [(0, .ref (w.1 111)), (1, .int (10 : Int32))]) rfl ?_
  refine ww_aload_n (pc := 0) hC dX3_init_0 0 rfl ?_
  refine ww_objInit (pc := 1) hC ql_X3_3 qi_java_lang_Object__init_ qc_java_lang_Object__init_ dX3_init_1 ⟨Nat.le_of_ble_eq_true rfl, Nat.le_of_ble_eq_true rfl⟩ (Nat.le_of_ble_eq_true rfl) ?_
  refine ww_aload_n (pc := 4) hC dX3_init_4 0 rfl ?_
  refine ww_iconst (pc := 5) hC (v := (0 : Int32)) dX3_init_5 (by decide) ?_
  refine ww_iload_n (pc := 6) hC dX3_init_6 1 rfl ?_
  refine ww_max (pc := 7) hC ql_X3_9 qt_J9_max_7cf53 qn_J9 qc_J9_max_7cf53 dX3_init_7 ⟨Nat.le_of_ble_eq_true rfl, Nat.le_of_ble_eq_true rfl⟩ (Nat.le_of_ble_eq_true rfl) ⟨Nat.le_of_ble_eq_true rfl, Nat.le_of_ble_eq_true rfl⟩ ?_
  rw [show (if (0 : Int32) < (10 : Int32) then (10 : Int32) else (0 : Int32)) = (10 : Int32) by decide]
  refine ww_newa (pc := 10) hC 13 (by decide) (by decide) rfl (ct0 hW _) (n := 112) (by decide +kernel) (by decide) (N := 10) (by decide) (Z' := cZ342) rfl (X' := cX343) rfl (by decide) qy_FieldType_int dX3_init_10 (Nat.le_of_ble_eq_true rfl) (Nat.le_of_ble_eq_true rfl) ?_
  refine ww_putR (pc := 12) hC (i := 111) (t := 112) 3 0 ⟨by decide +kernel, by decide +kernel⟩ RX3 (by decide) (by decide) rfl qf_X3_15 rfl hin rfl rfl rfl rfl (Z' := cZ344) rfl dX3_init_12 ?_
  exact ww_vret (pc := 15) hC hr (u := ()) (r := ()) rfl dX3_init_15
def cZ345 : XS := stR cZ344 100 11 111
set_option maxHeartbeats 40000000 in
set_option maxRecDepth 100000 in
theorem ciX6_init_29 {l : Launch} {E : XE} {w : XW} (hW : ∀ i : Nat, w.1 i = w.1 0 + i) : Ct l E w yX6_init (wsM yX6_init cX6_init 1 none) (rmX 2 12 84) 12 84 [.ref (w.1 100)] (w.1 (sn cZ306)) (w.1 (sn cZ345)) cZ306 cZ345 cX307 cX343 none := by
  refine ct_of (by decide) (Nat.le_of_ble_eq_true rfl) ?_
  intro p e s m args below meth c hC hr hin hav
  refine ww_lv (lv' := [(0, .ref (w.1 100))]) rfl ?_
  refine ww_aload_n (pc := 0) hC dX6_init_0 0 rfl ?_
  refine ww_objInit (pc := 1) hC ql_X6_3 qi_java_lang_Object__init_ qc_java_lang_Object__init_ dX6_init_1 ⟨Nat.le_of_ble_eq_true rfl, Nat.le_of_ble_eq_true rfl⟩ (Nat.le_of_ble_eq_true rfl) ?_
  refine ww_aload_n (pc := 4) hC dX6_init_4 0 rfl ?_
  refine ww_iconst (pc := 5) hC (v := (-1 : Int32)) dX6_init_5 (by decide) ?_
  refine ww_putI (pc := 6) hC (i := 100) 6 1 ⟨by decide +kernel, by decide +kernel⟩ RX6 (by decide) (by decide) rfl qf_X6_9 rfl rfl rfl rfl dX6_init_6 ?_
  refine ww_nmX (X' := cX308) rfl ?_
  refine ww_aload_n (pc := 9) hC dX6_init_9 0 rfl ?_
  refine ww_bipush (pc := 10) hC (v := (6 : Int32)) dX6_init_10 (by decide) ?_
  refine ww_newa (pc := 12) hC 13 (by decide) (by decide) rfl (ct0 hW _) (n := 101) (by decide +kernel) (by decide) (N := 6) (by decide) (Z' := cZ309) rfl (X' := cX310) rfl (by decide) qy_FieldType_int dX6_init_12 (Nat.le_of_ble_eq_true rfl) (Nat.le_of_ble_eq_true rfl) ?_
  refine ww_putR (pc := 14) hC (i := 100) (t := 101) 6 4 ⟨by decide +kernel, by decide +kernel⟩ RX6 (by decide) (by decide) rfl qf_X6_15 rfl hin rfl rfl rfl rfl (Z' := cZ311) rfl dX6_init_14 ?_
  refine ww_aload_n (pc := 17) hC dX6_init_17 0 rfl ?_
  refine ww_getR (pc := 18) hC (i := 100) 6 4 101 ⟨by decide +kernel, by decide +kernel⟩ RX6 (by decide) (by decide) rfl (by decide +kernel) qf_X6_15 rfl dX6_init_18 ?_
  refine ww_iconst (pc := 21) hC (v := (3 : Int32)) dX6_init_21 (by decide) ?_
  refine ww_callSv (pc := 22) hC [.ref (w.1 101), .int (3 : Int32)] (X' := cX312) (ceJ7_fill_53178 (show KA cZ311 101 13 (sL cZ311 101) from ⟨by decide +kernel, by decide +kernel, rfl⟩) (fill_eq (n := 6) (by decide) (show sL cZ311 101 = 6 by decide +kernel))) ql_X6_19 qt_J7_fill_53178 qn_J7 qc_J7_fill_53178 ⟨by decide, by decide, rfl⟩ rfl ⟨Nat.le_of_ble_eq_true rfl, Nat.le_of_ble_eq_true rfl⟩ (by decide) (rest := []) (Nat.le_of_ble_eq_true rfl) dX6_init_22 ⟨Nat.le_of_ble_eq_true rfl, Nat.le_of_ble_eq_true rfl⟩ rfl ?_
  refine ww_aload_n (pc := 25) hC dX6_init_25 0 rfl ?_
  refine ww_bipush (pc := 26) hC (v := (6 : Int32)) dX6_init_26 (by decide) ?_
  refine ww_newa (pc := 28) hC 13 (by decide) (by decide) rfl (ct0 hW _) (n := 102) (by decide +kernel) (by decide) (N := 6) (by decide) (Z' := cZ313) rfl (X' := cX314) rfl (by decide) qy_FieldType_int dX6_init_28 (Nat.le_of_ble_eq_true rfl) (Nat.le_of_ble_eq_true rfl) ?_
  refine ww_putR (pc := 30) hC (i := 100) (t := 102) 6 5 ⟨by decide +kernel, by decide +kernel⟩ RX6 (by decide) (by decide) rfl qf_X6_25 rfl hin rfl rfl rfl rfl (Z' := cZ315) rfl dX6_init_30 ?_
  refine ww_aload_n (pc := 33) hC dX6_init_33 0 rfl ?_
  refine ww_bipush (pc := 34) hC (v := (6 : Int32)) dX6_init_34 (by decide) ?_
  refine ww_newa (pc := 36) hC 13 (by decide) (by decide) rfl (ct0 hW _) (n := 103) (by decide +kernel) (by decide) (N := 6) (by decide) (Z' := cZ316) rfl (X' := cX317) rfl (by decide) qy_FieldType_int dX6_init_36 (Nat.le_of_ble_eq_true rfl) (Nat.le_of_ble_eq_true rfl) ?_
  refine ww_putR (pc := 38) hC (i := 100) (t := 103) 6 6 ⟨by decide +kernel, by decide +kernel⟩ RX6 (by decide) (by decide) rfl qf_X6_28 rfl hin rfl rfl rfl rfl (Z' := cZ318) rfl dX6_init_38 ?_
  refine ww_aload_n (pc := 41) hC dX6_init_41 0 rfl ?_
  refine ww_bipush (pc := 42) hC (v := (24 : Int32)) dX6_init_42 (by decide) ?_
  refine ww_newa (pc := 44) hC 13 (by decide) (by decide) rfl (ct0 hW _) (n := 104) (by decide +kernel) (by decide) (N := 24) (by decide) (Z' := cZ319) rfl (X' := cX320) rfl (by decide) qy_FieldType_int dX6_init_44 (Nat.le_of_ble_eq_true rfl) (Nat.le_of_ble_eq_true rfl) ?_
  refine ww_putR (pc := 46) hC (i := 100) (t := 104) 6 7 ⟨by decide +kernel, by decide +kernel⟩ RX6 (by decide) (by decide) rfl qf_X6_31 rfl hin rfl rfl rfl rfl (Z' := cZ321) rfl dX6_init_46 ?_
  refine ww_aload_n (pc := 49) hC dX6_init_49 0 rfl ?_
  refine ww_new (pc := 50) hC 3 (by decide) (ct0 hW _) (n := 105) (by decide +kernel) rfl (Z' := cZ322) rfl (X' := cX323) rfl qk_X6_34 qa_X3 qn_X3 dX6_init_50 (Nat.le_of_ble_eq_true rfl) (Nat.le_of_ble_eq_true rfl) ?_
  refine ww_dup (pc := 53) hC dX6_init_53 rfl ?_
  refine ww_iconst (pc := 54) hC (v := (4 : Int32)) dX6_init_54 (by decide) ?_
  refine ww_callI (pc := 55) hC [.int (4 : Int32)] (mc := 1) (ms := 4) (Z' := cZ326) (X' := cX325) (ciX3_init_30 hW) ql_X6_36 qi_X3_init qn_X3 qc_X3_init rfl ⟨by decide, by decide, rfl⟩ rfl ⟨Nat.le_of_ble_eq_true rfl, Nat.le_of_ble_eq_true rfl⟩ (by decide) (rest := [.ref (w.1 105), .ref (w.1 100)]) (Nat.le_of_ble_eq_true rfl) dX6_init_55 ⟨Nat.le_of_ble_eq_true rfl, Nat.le_of_ble_eq_true rfl⟩ rfl ?_
  refine ww_putR (pc := 58) hC (i := 100) (t := 105) 6 8 ⟨by decide +kernel, by decide +kernel⟩ RX6 (by decide) (by decide) rfl qf_X6_39 rfl hin rfl rfl rfl rfl (Z' := cZ327) rfl dX6_init_58 ?_
  refine ww_aload_n (pc := 61) hC dX6_init_61 0 rfl ?_
  refine ww_new (pc := 62) hC 3 (by decide) (ct0 hW _) (n := 107) (by decide +kernel) rfl (Z' := cZ328) rfl (X' := cX329) rfl qk_X6_34 qa_X3 qn_X3 dX6_init_62 (Nat.le_of_ble_eq_true rfl) (Nat.le_of_ble_eq_true rfl) ?_
  refine ww_dup (pc := 65) hC dX6_init_65 rfl ?_
  refine ww_bipush (pc := 66) hC (v := (6 : Int32)) dX6_init_66 (by decide) ?_
  refine ww_callI (pc := 68) hC [.int (6 : Int32)] (mc := 1) (ms := 6) (Z' := cZ332) (X' := cX331) (ciX3_init_31 hW) ql_X6_36 qi_X3_init qn_X3 qc_X3_init rfl ⟨by decide, by decide, rfl⟩ rfl ⟨Nat.le_of_ble_eq_true rfl, Nat.le_of_ble_eq_true rfl⟩ (by decide) (rest := [.ref (w.1 107), .ref (w.1 100)]) (Nat.le_of_ble_eq_true rfl) dX6_init_68 ⟨Nat.le_of_ble_eq_true rfl, Nat.le_of_ble_eq_true rfl⟩ rfl ?_
  refine ww_putR (pc := 71) hC (i := 100) (t := 107) 6 9 ⟨by decide +kernel, by decide +kernel⟩ RX6 (by decide) (by decide) rfl qf_X6_43 rfl hin rfl rfl rfl rfl (Z' := cZ333) rfl dX6_init_71 ?_
  refine ww_aload_n (pc := 74) hC dX6_init_74 0 rfl ?_
  refine ww_new (pc := 75) hC 3 (by decide) (ct0 hW _) (n := 109) (by decide +kernel) rfl (Z' := cZ334) rfl (X' := cX335) rfl qk_X6_34 qa_X3 qn_X3 dX6_init_75 (Nat.le_of_ble_eq_true rfl) (Nat.le_of_ble_eq_true rfl) ?_
  refine ww_dup (pc := 78) hC dX6_init_78 rfl ?_
  refine ww_bipush (pc := 79) hC (v := (10 : Int32)) dX6_init_79 (by decide) ?_
  refine ww_callI (pc := 81) hC [.int (10 : Int32)] (mc := 1) (ms := 10) (Z' := cZ338) (X' := cX337) (ciX3_init_32 hW) ql_X6_36 qi_X3_init qn_X3 qc_X3_init rfl ⟨by decide, by decide, rfl⟩ rfl ⟨Nat.le_of_ble_eq_true rfl, Nat.le_of_ble_eq_true rfl⟩ (by decide) (rest := [.ref (w.1 109), .ref (w.1 100)]) (Nat.le_of_ble_eq_true rfl) dX6_init_81 ⟨Nat.le_of_ble_eq_true rfl, Nat.le_of_ble_eq_true rfl⟩ rfl ?_
  refine ww_putR (pc := 84) hC (i := 100) (t := 109) 6 10 ⟨by decide +kernel, by decide +kernel⟩ RX6 (by decide) (by decide) rfl qf_X6_46 rfl hin rfl rfl rfl rfl (Z' := cZ339) rfl dX6_init_84 ?_
  refine ww_aload_n (pc := 87) hC dX6_init_87 0 rfl ?_
  refine ww_new (pc := 88) hC 3 (by decide) (ct0 hW _) (n := 111) (by decide +kernel) rfl (Z' := cZ340) rfl (X' := cX341) rfl qk_X6_34 qa_X3 qn_X3 dX6_init_88 (Nat.le_of_ble_eq_true rfl) (Nat.le_of_ble_eq_true rfl) ?_
  refine ww_dup (pc := 91) hC dX6_init_91 rfl ?_
  refine ww_bipush (pc := 92) hC (v := (10 : Int32)) dX6_init_92 (by decide) ?_
  refine ww_callI (pc := 94) hC [.int (10 : Int32)] (mc := 1) (ms := 10) (Z' := cZ344) (X' := cX343) (ciX3_init_33 hW) ql_X6_36 qi_X3_init qn_X3 qc_X3_init rfl ⟨by decide, by decide, rfl⟩ rfl ⟨Nat.le_of_ble_eq_true rfl, Nat.le_of_ble_eq_true rfl⟩ (by decide) (rest := [.ref (w.1 111), .ref (w.1 100)]) (Nat.le_of_ble_eq_true rfl) dX6_init_94 ⟨Nat.le_of_ble_eq_true rfl, Nat.le_of_ble_eq_true rfl⟩ rfl ?_
  refine ww_putR (pc := 97) hC (i := 100) (t := 111) 6 11 ⟨by decide +kernel, by decide +kernel⟩ RX6 (by decide) (by decide) rfl qf_X6_49 rfl hin rfl rfl rfl rfl (Z' := cZ345) rfl dX6_init_97 ?_
  exact ww_vret (pc := 100) hC hr (u := ()) (r := ()) rfl dX6_init_100
def cZ346 : XS := stR cZ345 73 2 100
def cZ347 : XS := newO 113 cZ346 6
def cX348 : XD := zX cX343 113
def cX349 : XD := wI cX348 113 1 (-1 : Int32)
def cZ350 : XS := newA 114 cZ347 13 6
def cX351 : XD := zX cX349 114
def cZ352 : XS := stR cZ350 113 4 114
def cX353 : XD := fillI cX351 114 6 (3 : Int32)
def cZ354 : XS := newA 115 cZ352 13 6
def cX355 : XD := zX cX353 115
def cZ356 : XS := stR cZ354 113 5 115
def cZ357 : XS := newA 116 cZ356 13 6
def cX358 : XD := zX cX355 116
def cZ359 : XS := stR cZ357 113 6 116
def cZ360 : XS := newA 117 cZ359 13 24
def cX361 : XD := zX cX358 117
def cZ362 : XS := stR cZ360 113 7 117
def cZ363 : XS := newO 118 cZ362 3
def cX364 : XD := zX cX361 118
def cZ365 : XS := newA 119 cZ363 13 4
def cX366 : XD := zX cX364 119
def cZ367 : XS := stR cZ365 118 0 119
set_option maxHeartbeats 40000000 in
set_option maxRecDepth 100000 in
theorem ciX3_init_35 {l : Launch} {E : XE} {w : XW} (hW : ∀ i : Nat, w.1 i = w.1 0 + i) : Ct l E w yX3_init (wsM yX3_init cX3_init 2 none) (rmX 1 1 4) 1 4 [.ref (w.1 118), .int (4 : Int32)] (w.1 (sn cZ363)) (w.1 (sn cZ367)) cZ363 cZ367 cX364 cX366 none := by
  refine ct_of (by decide) (Nat.le_of_ble_eq_true rfl) ?_
  intro p e s m args below meth c hC hr hin hav
  refine ww_lv (lv' := [(0, .ref (w.1 118)), (1, .int (4 : Int32))]) rfl ?_
  refine ww_aload_n (pc := 0) hC dX3_init_0 0 rfl ?_
  refine ww_objInit (pc := 1) hC ql_X3_3 qi_java_lang_Object__init_ qc_java_lang_Object__init_ dX3_init_1 ⟨Nat.le_of_ble_eq_true rfl, Nat.le_of_ble_eq_true rfl⟩ (Nat.le_of_ble_eq_true rfl) ?_
  refine ww_aload_n (pc := 4) hC dX3_init_4 0 rfl ?_
  refine ww_iconst (pc := 5) hC (v := (0 : Int32)) dX3_init_5 (by decide) ?_
  refine ww_iload_n (pc := 6) hC dX3_init_6 1 rfl ?_
  refine ww_max (pc := 7) hC ql_X3_9 qt_J9_max_7cf53 qn_J9 qc_J9_max_7cf53 dX3_init_7 ⟨Nat.le_of_ble_eq_true rfl, Nat.le_of_ble_eq_true rfl⟩ (Nat.le_of_ble_eq_true rfl) ⟨Nat.le_of_ble_eq_true rfl, Nat.le_of_ble_eq_true rfl⟩ ?_
  rw [show (if (0 : Int32) < (4 : Int32) then (4 : Int32) else (0 : Int32)) = (4 : Int32) by decide]
  refine ww_newa (pc := 10) hC 13 (by decide) (by decide) rfl (ct0 hW _) (n := 119) (by decide +kernel) (by decide) (N := 4) (by decide) (Z' := cZ365) rfl (X' := cX366) rfl (by decide) qy_FieldType_int dX3_init_10 (Nat.le_of_ble_eq_true rfl) (Nat.le_of_ble_eq_true rfl) ?_
  refine ww_putR (pc := 12) hC (i := 118) (t := 119) 3 0 ⟨by decide +kernel, by decide +kernel⟩ RX3 (by decide) (by decide) rfl qf_X3_15 rfl hin rfl rfl rfl rfl (Z' := cZ367) rfl dX3_init_12 ?_
  exact ww_vret (pc := 15) hC hr (u := ()) (r := ()) rfl dX3_init_15
def cZ368 : XS := stR cZ367 113 8 118
def cZ369 : XS := newO 120 cZ368 3
def cX370 : XD := zX cX366 120
def cZ371 : XS := newA 121 cZ369 13 6
def cX372 : XD := zX cX370 121
def cZ373 : XS := stR cZ371 120 0 121
set_option maxHeartbeats 40000000 in
set_option maxRecDepth 100000 in
theorem ciX3_init_36 {l : Launch} {E : XE} {w : XW} (hW : ∀ i : Nat, w.1 i = w.1 0 + i) : Ct l E w yX3_init (wsM yX3_init cX3_init 2 none) (rmX 1 1 6) 1 6 [.ref (w.1 120), .int (6 : Int32)] (w.1 (sn cZ369)) (w.1 (sn cZ373)) cZ369 cZ373 cX370 cX372 none := by
  refine ct_of (by decide) (Nat.le_of_ble_eq_true rfl) ?_
  intro p e s m args below meth c hC hr hin hav
  refine ww_lv (lv' := [(0, .ref (w.1 120)), (1, .int (6 : Int32))]) rfl ?_
  refine ww_aload_n (pc := 0) hC dX3_init_0 0 rfl ?_
  refine ww_objInit (pc := 1) hC ql_X3_3 qi_java_lang_Object__init_ qc_java_lang_Object__init_ dX3_init_1 ⟨Nat.le_of_ble_eq_true rfl, Nat.le_of_ble_eq_true rfl⟩ (Nat.le_of_ble_eq_true rfl) ?_
  refine ww_aload_n (pc := 4) hC dX3_init_4 0 rfl ?_
  refine ww_iconst (pc := 5) hC (v := (0 : Int32)) dX3_init_5 (by decide) ?_
  refine ww_iload_n (pc := 6) hC dX3_init_6 1 rfl ?_
  refine ww_max (pc := 7) hC ql_X3_9 qt_J9_max_7cf53 qn_J9 qc_J9_max_7cf53 dX3_init_7 ⟨Nat.le_of_ble_eq_true rfl, Nat.le_of_ble_eq_true rfl⟩ (Nat.le_of_ble_eq_true rfl) ⟨Nat.le_of_ble_eq_true rfl, Nat.le_of_ble_eq_true rfl⟩ ?_
  rw [show (if (0 : Int32) < (6 : Int32) then (6 : Int32) else (0 : Int32)) = (6 : Int32) by decide]
  refine ww_newa (pc := 10) hC 13 (by decide) (by decide) rfl (ct0 hW _) (n := 121) (by decide +kernel) (by decide) (N := 6) (by decide) (Z' := cZ371) rfl (X' := cX372) rfl (by decide) qy_FieldType_int dX3_init_10 (Nat.le_of_ble_eq_true rfl) (Nat.le_of_ble_eq_true rfl) ?_
  refine ww_putR (pc := 12) hC (i := 120) (t := 121) 3 0 ⟨by decide +kernel, by decide +kernel⟩ RX3 (by decide) (by decide) rfl qf_X3_15 rfl hin rfl rfl rfl rfl (Z' := cZ373) rfl dX3_init_12 ?_
  exact ww_vret (pc := 15) hC hr (u := ()) (r := ()) rfl dX3_init_15
def cZ374 : XS := stR cZ373 113 9 120
def cZ375 : XS := newO 122 cZ374 3
def cX376 : XD := zX cX372 122
def cZ377 : XS := newA 123 cZ375 13 10
def cX378 : XD := zX cX376 123
def cZ379 : XS := stR cZ377 122 0 123
set_option maxHeartbeats 40000000 in
set_option maxRecDepth 100000 in
theorem ciX3_init_37 {l : Launch} {E : XE} {w : XW} (hW : ∀ i : Nat, w.1 i = w.1 0 + i) : Ct l E w yX3_init (wsM yX3_init cX3_init 2 none) (rmX 1 1 10) 1 10 [.ref (w.1 122), .int (10 : Int32)] (w.1 (sn cZ375)) (w.1 (sn cZ379)) cZ375 cZ379 cX376 cX378 none := by
  refine ct_of (by decide) (Nat.le_of_ble_eq_true rfl) ?_
  intro p e s m args below meth c hC hr hin hav
  refine ww_lv (lv' := [(0, .ref (w.1 122)), (1, .int (10 : Int32))]) rfl ?_
  refine ww_aload_n (pc := 0) hC dX3_init_0 0 rfl ?_
  refine ww_objInit (pc := 1) hC ql_X3_3 qi_java_lang_Object__init_ qc_java_lang_Object__init_ dX3_init_1 ⟨Nat.le_of_ble_eq_true rfl, Nat.le_of_ble_eq_true rfl⟩ (Nat.le_of_ble_eq_true rfl) ?_
  refine ww_aload_n (pc := 4) hC dX3_init_4 0 rfl ?_
  refine ww_iconst (pc := 5) hC (v := (0 : Int32)) dX3_init_5 (by decide) ?_
  refine ww_iload_n (pc := 6) hC dX3_init_6 1 rfl ?_
  refine ww_max (pc := 7) hC ql_X3_9 qt_J9_max_7cf53 qn_J9 qc_J9_max_7cf53 dX3_init_7 ⟨Nat.le_of_ble_eq_true rfl, Nat.le_of_ble_eq_true rfl⟩ (Nat.le_of_ble_eq_true rfl) ⟨Nat.le_of_ble_eq_true rfl, Nat.le_of_ble_eq_true rfl⟩ ?_
  rw [show (if (0 : Int32) < (10 : Int32) then (10 : Int32) else (0 : Int32)) = (10 : Int32) by decide]
  refine ww_newa (pc := 10) hC 13 (by decide) (by decide) rfl (ct0 hW _) (n := 123) (by decide +kernel) (by decide) (N := 10) (by decide) (Z' := cZ377) rfl (X' := cX378) rfl (by decide) qy_FieldType_int dX3_init_10 (Nat.le_of_ble_eq_true rfl) (Nat.le_of_ble_eq_true rfl) ?_
  refine ww_putR (pc := 12) hC (i := 122) (t := 123) 3 0 ⟨by decide +kernel, by decide +kernel⟩ RX3 (by decide) (by decide) rfl qf_X3_15 rfl hin rfl rfl rfl rfl (Z' := cZ379) rfl dX3_init_12 ?_
  exact ww_vret (pc := 15) hC hr (u := ()) (r := ()) rfl dX3_init_15
def cZ380 : XS := stR cZ379 113 10 122
def cZ381 : XS := newO 124 cZ380 3
def cX382 : XD := zX cX378 124
def cZ383 : XS := newA 125 cZ381 13 10
def cX384 : XD := zX cX382 125
def cZ385 : XS := stR cZ383 124 0 125
set_option maxHeartbeats 40000000 in
set_option maxRecDepth 100000 in
theorem ciX3_init_38 {l : Launch} {E : XE} {w : XW} (hW : ∀ i : Nat, w.1 i = w.1 0 + i) : Ct l E w yX3_init (wsM yX3_init cX3_init 2 none) (rmX 1 1 10) 1 10 [.ref (w.1 124), .int (10 : Int32)] (w.1 (sn cZ381)) (w.1 (sn cZ385)) cZ381 cZ385 cX382 cX384 none := by
  refine ct_of (by decide) (Nat.le_of_ble_eq_true rfl) ?_
  intro p e s m args below meth c hC hr hin hav
  refine ww_lv (lv' := [(0, .ref (w.1 124)), (1, .int (10 : Int32))]) rfl ?_
  refine ww_aload_n (pc := 0) hC dX3_init_0 0 rfl ?_
  refine ww_objInit (pc := 1) hC ql_X3_3 qi_java_lang_Object__init_ qc_java_lang_Object__init_ dX3_init_1 ⟨Nat.le_of_ble_eq_true rfl, Nat.le_of_ble_eq_true rfl⟩ (Nat.le_of_ble_eq_true rfl) ?_
  refine ww_aload_n (pc := 4) hC dX3_init_4 0 rfl ?_
  refine ww_iconst (pc := 5) hC (v := (0 : Int32)) dX3_init_5 (by decide) ?_
  refine ww_iload_n (pc := 6) hC dX3_init_6 1 rfl ?_
  refine ww_max (pc := 7) hC ql_X3_9 qt_J9_max_7cf53 qn_J9 qc_J9_max_7cf53 dX3_init_7 ⟨Nat.le_of_ble_eq_true rfl, Nat.le_of_ble_eq_true rfl⟩ (Nat.le_of_ble_eq_true rfl) ⟨Nat.le_of_ble_eq_true rfl, Nat.le_of_ble_eq_true rfl⟩ ?_
  rw [show (if (0 : Int32) < (10 : Int32) then (10 : Int32) else (0 : Int32)) = (10 : Int32) by decide]
  refine ww_newa (pc := 10) hC 13 (by decide) (by decide) rfl (ct0 hW _) (n := 125) (by decide +kernel) (by decide) (N := 10) (by decide) (Z' := cZ383) rfl (X' := cX384) rfl (by decide) qy_FieldType_int dX3_init_10 (Nat.le_of_ble_eq_true rfl) (Nat.le_of_ble_eq_true rfl) ?_
  refine ww_putR (pc := 12) hC (i := 124) (t := 125) 3 0 ⟨by decide +kernel, by decide +kernel⟩ RX3 (by decide) (by decide) rfl qf_X3_15 rfl hin rfl rfl rfl rfl (Z' := cZ385) rfl dX3_init_12 ?_
  exact ww_vret (pc := 15) hC hr (u := ()) (r := ()) rfl dX3_init_15
def cZ386 : XS := stR cZ385 113 11 124
set_option maxHeartbeats 40000000 in
set_option maxRecDepth 100000 in
theorem ciX6_init_34 {l : Launch} {E : XE} {w : XW} (hW : ∀ i : Nat, w.1 i = w.1 0 + i) : Ct l E w yX6_init (wsM yX6_init cX6_init 1 none) (rmX 2 12 84) 12 84 [.ref (w.1 113)] (w.1 (sn cZ347)) (w.1 (sn cZ386)) cZ347 cZ386 cX348 cX384 none := by
  refine ct_of (by decide) (Nat.le_of_ble_eq_true rfl) ?_
  intro p e s m args below meth c hC hr hin hav
  refine ww_lv (lv' := [(0, .ref (w.1 113))]) rfl ?_
  refine ww_aload_n (pc := 0) hC dX6_init_0 0 rfl ?_
  refine ww_objInit (pc := 1) hC ql_X6_3 qi_java_lang_Object__init_ qc_java_lang_Object__init_ dX6_init_1 ⟨Nat.le_of_ble_eq_true rfl, Nat.le_of_ble_eq_true rfl⟩ (Nat.le_of_ble_eq_true rfl) ?_
  refine ww_aload_n (pc := 4) hC dX6_init_4 0 rfl ?_
  refine ww_iconst (pc := 5) hC (v := (-1 : Int32)) dX6_init_5 (by decide) ?_
  refine ww_putI (pc := 6) hC (i := 113) 6 1 ⟨by decide +kernel, by decide +kernel⟩ RX6 (by decide) (by decide) rfl qf_X6_9 rfl rfl rfl rfl dX6_init_6 ?_
  refine ww_nmX (X' := cX349) rfl ?_
  refine ww_aload_n (pc := 9) hC dX6_init_9 0 rfl ?_
  refine ww_bipush (pc := 10) hC (v := (6 : Int32)) dX6_init_10 (by decide) ?_
  refine ww_newa (pc := 12) hC 13 (by decide) (by decide) rfl (ct0 hW _) (n := 114) (by decide +kernel) (by decide) (N := 6) (by decide) (Z' := cZ350) rfl (X' := cX351) rfl (by decide) qy_FieldType_int dX6_init_12 (Nat.le_of_ble_eq_true rfl) (Nat.le_of_ble_eq_true rfl) ?_
  refine ww_putR (pc := 14) hC (i := 113) (t := 114) 6 4 ⟨by decide +kernel, by decide +kernel⟩ RX6 (by decide) (by decide) rfl qf_X6_15 rfl hin rfl rfl rfl rfl (Z' := cZ352) rfl dX6_init_14 ?_
  refine ww_aload_n (pc := 17) hC dX6_init_17 0 rfl ?_
  refine ww_getR (pc := 18) hC (i := 113) 6 4 114 ⟨by decide +kernel, by decide +kernel⟩ RX6 (by decide) (by decide) rfl (by decide +kernel) qf_X6_15 rfl dX6_init_18 ?_
  refine ww_iconst (pc := 21) hC (v := (3 : Int32)) dX6_init_21 (by decide) ?_
  refine ww_callSv (pc := 22) hC [.ref (w.1 114), .int (3 : Int32)] (X' := cX353) (ceJ7_fill_53178 (show KA cZ352 114 13 (sL cZ352 114) from ⟨by decide +kernel, by decide +kernel, rfl⟩) (fill_eq (n := 6) (by decide) (show sL cZ352 114 = 6 by decide +kernel))) ql_X6_19 qt_J7_fill_53178 qn_J7 qc_J7_fill_53178 ⟨by decide, by decide, rfl⟩ rfl ⟨Nat.le_of_ble_eq_true rfl, Nat.le_of_ble_eq_true rfl⟩ (by decide) (rest := []) (Nat.le_of_ble_eq_true rfl) dX6_init_22 ⟨Nat.le_of_ble_eq_true rfl, Nat.le_of_ble_eq_true rfl⟩ rfl ?_
  refine ww_aload_n (pc := 25) hC dX6_init_25 0 rfl ?_
  refine ww_bipush (pc := 26) hC (v := (6 : Int32)) dX6_init_26 (by decide) ?_
  refine ww_newa (pc := 28) hC 13 (by decide) (by decide) rfl (ct0 hW _) (n := 115) (by decide +kernel) (by decide) (N := 6) (by decide) (Z' := cZ354) rfl (X' := cX355) rfl (by decide) qy_FieldType_int dX6_init_28 (Nat.le_of_ble_eq_true rfl) (Nat.le_of_ble_eq_true rfl) ?_
  refine ww_putR (pc := 30) hC (i := 113) (t := 115) 6 5 ⟨by decide +kernel, by decide +kernel⟩ RX6 (by decide) (by decide) rfl qf_X6_25 rfl hin rfl rfl rfl rfl (Z' := cZ356) rfl dX6_init_30 ?_
  refine ww_aload_n (pc := 33) hC dX6_init_33 0 rfl ?_
  refine ww_bipush (pc := 34) hC (v := (6 : Int32)) dX6_init_34 (by decide) ?_
  refine ww_newa (pc := 36) hC 13 (by decide) (by decide) rfl (ct0 hW _) (n := 116) (by decide +kernel) (by decide) (N := 6) (by decide) (Z' := cZ357) rfl (X' := cX358) rfl (by decide) qy_FieldType_int dX6_init_36 (Nat.le_of_ble_eq_true rfl) (Nat.le_of_ble_eq_true rfl) ?_
  refine ww_putR (pc := 38) hC (i := 113) (t := 116) 6 6 ⟨by decide +kernel, by decide +kernel⟩ RX6 (by decide) (by decide) rfl qf_X6_28 rfl hin rfl rfl rfl rfl (Z' := cZ359) rfl dX6_init_38 ?_
  refine ww_aload_n (pc := 41) hC dX6_init_41 0 rfl ?_
  refine ww_bipush (pc := 42) hC (v := (24 : Int32)) dX6_init_42 (by decide) ?_
  refine ww_newa (pc := 44) hC 13 (by decide) (by decide) rfl (ct0 hW _) (n := 117) (by decide +kernel) (by decide) (N := 24) (by decide) (Z' := cZ360) rfl (X' := cX361) rfl (by decide) qy_FieldType_int dX6_init_44 (Nat.le_of_ble_eq_true rfl) (Nat.le_of_ble_eq_true rfl) ?_
  refine ww_putR (pc := 46) hC (i := 113) (t := 117) 6 7 ⟨by decide +kernel, by decide +kernel⟩ RX6 (by decide) (by decide) rfl qf_X6_31 rfl hin rfl rfl rfl rfl (Z' := cZ362) rfl dX6_init_46 ?_
  refine ww_aload_n (pc := 49) hC dX6_init_49 0 rfl ?_
  refine ww_new (pc := 50) hC 3 (by decide) (ct0 hW _) (n := 118) (by decide +kernel) rfl (Z' := cZ363) rfl (X' := cX364) rfl qk_X6_34 qa_X3 qn_X3 dX6_init_50 (Nat.le_of_ble_eq_true rfl) (Nat.le_of_ble_eq_true rfl) ?_
  refine ww_dup (pc := 53) hC dX6_init_53 rfl ?_
  refine ww_iconst (pc := 54) hC (v := (4 : Int32)) dX6_init_54 (by decide) ?_
  refine ww_callI (pc := 55) hC [.int (4 : Int32)] (mc := 1) (ms := 4) (Z' := cZ367) (X' := cX366) (ciX3_init_35 hW) ql_X6_36 qi_X3_init qn_X3 qc_X3_init rfl ⟨by decide, by decide, rfl⟩ rfl ⟨Nat.le_of_ble_eq_true rfl, Nat.le_of_ble_eq_true rfl⟩ (by decide) (rest := [.ref (w.1 118), .ref (w.1 113)]) (Nat.le_of_ble_eq_true rfl) dX6_init_55 ⟨Nat.le_of_ble_eq_true rfl, Nat.le_of_ble_eq_true rfl⟩ rfl ?_
  refine ww_putR (pc := 58) hC (i := 113) (t := 118) 6 8 ⟨by decide +kernel, by decide +kernel⟩ RX6 (by decide) (by decide) rfl qf_X6_39 rfl hin rfl rfl rfl rfl (Z' := cZ368) rfl dX6_init_58 ?_
  refine ww_aload_n (pc := 61) hC dX6_init_61 0 rfl ?_
  refine ww_new (pc := 62) hC 3 (by decide) (ct0 hW _) (n := 120) (by decide +kernel) rfl (Z' := cZ369) rfl (X' := cX370) rfl qk_X6_34 qa_X3 qn_X3 dX6_init_62 (Nat.le_of_ble_eq_true rfl) (Nat.le_of_ble_eq_true rfl) ?_
  refine ww_dup (pc := 65) hC dX6_init_65 rfl ?_
  refine ww_bipush (pc := 66) hC (v := (6 : Int32)) dX6_init_66 (by decide) ?_
  refine ww_callI (pc := 68) hC [.int (6 : Int32)] (mc := 1) (ms := 6) (Z' := cZ373) (X' := cX372) (ciX3_init_36 hW) ql_X6_36 qi_X3_init qn_X3 qc_X3_init rfl ⟨by decide, by decide, rfl⟩ rfl ⟨Nat.le_of_ble_eq_true rfl, Nat.le_of_ble_eq_true rfl⟩ (by decide) (rest := [.ref (w.1 120), .ref (w.1 113)]) (Nat.le_of_ble_eq_true rfl) dX6_init_68 ⟨Nat.le_of_ble_eq_true rfl, Nat.le_of_ble_eq_true rfl⟩ rfl ?_
  refine ww_putR (pc := 71) hC (i := 113) (t := 120) 6 9 ⟨by decide +kernel, by decide +kernel⟩ RX6 (by decide) (by decide) rfl qf_X6_43 rfl hin rfl rfl rfl rfl (Z' := cZ374) rfl dX6_init_71 ?_
  refine ww_aload_n (pc := 74) hC dX6_init_74 0 rfl ?_
  refine ww_new (pc := 75) hC 3 (by decide) (ct0 hW _) (n := 122) (by decide +kernel) rfl (Z' := cZ375) rfl (X' := cX376) rfl qk_X6_34 qa_X3 qn_X3 dX6_init_75 (Nat.le_of_ble_eq_true rfl) (Nat.le_of_ble_eq_true rfl) ?_
  refine ww_dup (pc := 78) hC dX6_init_78 rfl ?_
  refine ww_bipush (pc := 79) hC (v := (10 : Int32)) dX6_init_79 (by decide) ?_
  refine ww_callI (pc := 81) hC [.int (10 : Int32)] (mc := 1) (ms := 10) (Z' := cZ379) (X' := cX378) (ciX3_init_37 hW) ql_X6_36 qi_X3_init qn_X3 qc_X3_init rfl ⟨by decide, by decide, rfl⟩ rfl ⟨Nat.le_of_ble_eq_true rfl, Nat.le_of_ble_eq_true rfl⟩ (by decide) (rest := [.ref (w.1 122), .ref (w.1 113)]) (Nat.le_of_ble_eq_true rfl) dX6_init_81 ⟨Nat.le_of_ble_eq_true rfl, Nat.le_of_ble_eq_true rfl⟩ rfl ?_
  refine ww_putR (pc := 84) hC (i := 113) (t := 122) 6 10 ⟨by decide +kernel, by decide +kernel⟩ RX6 (by decide) (by decide) rfl qf_X6_46 rfl hin rfl rfl rfl rfl (Z' := cZ380) rfl dX6_init_84 ?_
  refine ww_aload_n (pc := 87) hC dX6_init_87 0 rfl ?_
  refine ww_new (pc := 88) hC 3 (by decide) (ct0 hW _) (n := 124) (by decide +kernel) rfl (Z' := cZ381) rfl (X' := cX382) rfl qk_X6_34 qa_X3 qn_X3 dX6_init_88 (Nat.le_of_ble_eq_true rfl) (Nat.le_of_ble_eq_true rfl) ?_
  refine ww_dup (pc := 91) hC dX6_init_91 rfl ?_
  refine ww_bipush (pc := 92) hC (v := (10 : Int32)) dX6_init_92 (by decide) ?_
  refine ww_callI (pc := 94) hC [.int (10 : Int32)] (mc := 1) (ms := 10) (Z' := cZ385) (X' := cX384) (ciX3_init_38 hW) ql_X6_36 qi_X3_init qn_X3 qc_X3_init rfl ⟨by decide, by decide, rfl⟩ rfl ⟨Nat.le_of_ble_eq_true rfl, Nat.le_of_ble_eq_true rfl⟩ (by decide) (rest := [.ref (w.1 124), .ref (w.1 113)]) (Nat.le_of_ble_eq_true rfl) dX6_init_94 ⟨Nat.le_of_ble_eq_true rfl, Nat.le_of_ble_eq_true rfl⟩ rfl ?_
  refine ww_putR (pc := 97) hC (i := 113) (t := 124) 6 11 ⟨by decide +kernel, by decide +kernel⟩ RX6 (by decide) (by decide) rfl qf_X6_49 rfl hin rfl rfl rfl rfl (Z' := cZ386) rfl dX6_init_97 ?_
  exact ww_vret (pc := 100) hC hr (u := ()) (r := ()) rfl dX6_init_100
def cZ387 : XS := stR cZ386 73 3 113
def cZ388 : XS := newO 126 cZ387 6
def cX389 : XD := zX cX384 126
def cX390 : XD := wI cX389 126 1 (-1 : Int32)
def cZ391 : XS := newA 127 cZ388 13 6
def cX392 : XD := zX cX390 127
def cZ393 : XS := stR cZ391 126 4 127
def cX394 : XD := fillI cX392 127 6 (3 : Int32)
def cZ395 : XS := newA 128 cZ393 13 6
def cX396 : XD := zX cX394 128
def cZ397 : XS := stR cZ395 126 5 128
def cZ398 : XS := newA 129 cZ397 13 6
def cX399 : XD := zX cX396 129
def cZ400 : XS := stR cZ398 126 6 129
def cZ401 : XS := newA 130 cZ400 13 24
def cX402 : XD := zX cX399 130
def cZ403 : XS := stR cZ401 126 7 130
def cZ404 : XS := newO 131 cZ403 3
def cX405 : XD := zX cX402 131
def cZ406 : XS := newA 132 cZ404 13 4
def cX407 : XD := zX cX405 132
def cZ408 : XS := stR cZ406 131 0 132
set_option maxHeartbeats 40000000 in
set_option maxRecDepth 100000 in
theorem ciX3_init_40 {l : Launch} {E : XE} {w : XW} (hW : ∀ i : Nat, w.1 i = w.1 0 + i) : Ct l E w yX3_init (wsM yX3_init cX3_init 2 none) (rmX 1 1 4) 1 4 [.ref (w.1 131), .int (4 : Int32)] (w.1 (sn cZ404)) (w.1 (sn cZ408)) cZ404 cZ408 cX405 cX407 none := by
  refine ct_of (by decide) (Nat.le_of_ble_eq_true rfl) ?_
  intro p e s m args below meth c hC hr hin hav
  refine ww_lv (lv' := [(0, .ref (w.1 131)), (1, .int (4 : Int32))]) rfl ?_
  refine ww_aload_n (pc := 0) hC dX3_init_0 0 rfl ?_
  refine ww_objInit (pc := 1) hC ql_X3_3 qi_java_lang_Object__init_ qc_java_lang_Object__init_ dX3_init_1 ⟨Nat.le_of_ble_eq_true rfl, Nat.le_of_ble_eq_true rfl⟩ (Nat.le_of_ble_eq_true rfl) ?_
  refine ww_aload_n (pc := 4) hC dX3_init_4 0 rfl ?_
  refine ww_iconst (pc := 5) hC (v := (0 : Int32)) dX3_init_5 (by decide) ?_
  refine ww_iload_n (pc := 6) hC dX3_init_6 1 rfl ?_
  refine ww_max (pc := 7) hC ql_X3_9 qt_J9_max_7cf53 qn_J9 qc_J9_max_7cf53 dX3_init_7 ⟨Nat.le_of_ble_eq_true rfl, Nat.le_of_ble_eq_true rfl⟩ (Nat.le_of_ble_eq_true rfl) ⟨Nat.le_of_ble_eq_true rfl, Nat.le_of_ble_eq_true rfl⟩ ?_
  rw [show (if (0 : Int32) < (4 : Int32) then (4 : Int32) else (0 : Int32)) = (4 : Int32) by decide]
  refine ww_newa (pc := 10) hC 13 (by decide) (by decide) rfl (ct0 hW _) (n := 132) (by decide +kernel) (by decide) (N := 4) (by decide) (Z' := cZ406) rfl (X' := cX407) rfl (by decide) qy_FieldType_int dX3_init_10 (Nat.le_of_ble_eq_true rfl) (Nat.le_of_ble_eq_true rfl) ?_
  refine ww_putR (pc := 12) hC (i := 131) (t := 132) 3 0 ⟨by decide +kernel, by decide +kernel⟩ RX3 (by decide) (by decide) rfl qf_X3_15 rfl hin rfl rfl rfl rfl (Z' := cZ408) rfl dX3_init_12 ?_
  exact ww_vret (pc := 15) hC hr (u := ()) (r := ()) rfl dX3_init_15
def cZ409 : XS := stR cZ408 126 8 131
def cZ410 : XS := newO 133 cZ409 3
def cX411 : XD := zX cX407 133
def cZ412 : XS := newA 134 cZ410 13 6
def cX413 : XD := zX cX411 134
def cZ414 : XS := stR cZ412 133 0 134
set_option maxHeartbeats 40000000 in
set_option maxRecDepth 100000 in
theorem ciX3_init_41 {l : Launch} {E : XE} {w : XW} (hW : ∀ i : Nat, w.1 i = w.1 0 + i) : Ct l E w yX3_init (wsM yX3_init cX3_init 2 none) (rmX 1 1 6) 1 6 [.ref (w.1 133), .int (6 : Int32)] (w.1 (sn cZ410)) (w.1 (sn cZ414)) cZ410 cZ414 cX411 cX413 none := by
  refine ct_of (by decide) (Nat.le_of_ble_eq_true rfl) ?_
  intro p e s m args below meth c hC hr hin hav
  refine ww_lv (lv' := [(0, .ref (w.1 133)), (1, .int (6 : Int32))]) rfl ?_
  refine ww_aload_n (pc := 0) hC dX3_init_0 0 rfl ?_
  refine ww_objInit (pc := 1) hC ql_X3_3 qi_java_lang_Object__init_ qc_java_lang_Object__init_ dX3_init_1 ⟨Nat.le_of_ble_eq_true rfl, Nat.le_of_ble_eq_true rfl⟩ (Nat.le_of_ble_eq_true rfl) ?_
  refine ww_aload_n (pc := 4) hC dX3_init_4 0 rfl ?_
  refine ww_iconst (pc := 5) hC (v := (0 : Int32)) dX3_init_5 (by decide) ?_
  refine ww_iload_n (pc := 6) hC dX3_init_6 1 rfl ?_
  refine ww_max (pc := 7) hC ql_X3_9 qt_J9_max_7cf53 qn_J9 qc_J9_max_7cf53 dX3_init_7 ⟨Nat.le_of_ble_eq_true rfl, Nat.le_of_ble_eq_true rfl⟩ (Nat.le_of_ble_eq_true rfl) ⟨Nat.le_of_ble_eq_true rfl, Nat.le_of_ble_eq_true rfl⟩ ?_
  rw [show (if (0 : Int32) < (6 : Int32) then (6 : Int32) else (0 : Int32)) = (6 : Int32) by decide]
  refine ww_newa (pc := 10) hC 13 (by decide) (by decide) rfl (ct0 hW _) (n := 134) (by decide +kernel) (by decide) (N := 6) (by decide) (Z' := cZ412) rfl (X' := cX413) rfl (by decide) qy_FieldType_int dX3_init_10 (Nat.le_of_ble_eq_true rfl) (Nat.le_of_ble_eq_true rfl) ?_
  refine ww_putR (pc := 12) hC (i := 133) (t := 134) 3 0 ⟨by decide +kernel, by decide +kernel⟩ RX3 (by decide) (by decide) rfl qf_X3_15 rfl hin rfl rfl rfl rfl (Z' := cZ414) rfl dX3_init_12 ?_
  exact ww_vret (pc := 15) hC hr (u := ()) (r := ()) rfl dX3_init_15
def cZ415 : XS := stR cZ414 126 9 133
def cZ416 : XS := newO 135 cZ415 3
def cX417 : XD := zX cX413 135
def cZ418 : XS := newA 136 cZ416 13 10
def cX419 : XD := zX cX417 136
def cZ420 : XS := stR cZ418 135 0 136
set_option maxHeartbeats 40000000 in
set_option maxRecDepth 100000 in
theorem ciX3_init_42 {l : Launch} {E : XE} {w : XW} (hW : ∀ i : Nat, w.1 i = w.1 0 + i) : Ct l E w yX3_init (wsM yX3_init cX3_init 2 none) (rmX 1 1 10) 1 10 [.ref (w.1 135), .int (10 : Int32)] (w.1 (sn cZ416)) (w.1 (sn cZ420)) cZ416 cZ420 cX417 cX419 none := by
  refine ct_of (by decide) (Nat.le_of_ble_eq_true rfl) ?_
  intro p e s m args below meth c hC hr hin hav
  refine ww_lv (lv' := [(0, .ref (w.1 135)), (1, .int (10 : Int32))]) rfl ?_
  refine ww_aload_n (pc := 0) hC dX3_init_0 0 rfl ?_
  refine ww_objInit (pc := 1) hC ql_X3_3 qi_java_lang_Object__init_ qc_java_lang_Object__init_ dX3_init_1 ⟨Nat.le_of_ble_eq_true rfl, Nat.le_of_ble_eq_true rfl⟩ (Nat.le_of_ble_eq_true rfl) ?_
  refine ww_aload_n (pc := 4) hC dX3_init_4 0 rfl ?_
  refine ww_iconst (pc := 5) hC (v := (0 : Int32)) dX3_init_5 (by decide) ?_
  refine ww_iload_n (pc := 6) hC dX3_init_6 1 rfl ?_
  refine ww_max (pc := 7) hC ql_X3_9 qt_J9_max_7cf53 qn_J9 qc_J9_max_7cf53 dX3_init_7 ⟨Nat.le_of_ble_eq_true rfl, Nat.le_of_ble_eq_true rfl⟩ (Nat.le_of_ble_eq_true rfl) ⟨Nat.le_of_ble_eq_true rfl, Nat.le_of_ble_eq_true rfl⟩ ?_
  rw [show (if (0 : Int32) < (10 : Int32) then (10 : Int32) else (0 : Int32)) = (10 : Int32) by decide]
  refine ww_newa (pc := 10) hC 13 (by decide) (by decide) rfl (ct0 hW _) (n := 136) (by decide +kernel) (by decide) (N := 10) (by decide) (Z' := cZ418) rfl (X' := cX419) rfl (by decide) qy_FieldType_int dX3_init_10 (Nat.le_of_ble_eq_true rfl) (Nat.le_of_ble_eq_true rfl) ?_
  refine ww_putR (pc := 12) hC (i := 135) (t := 136) 3 0 ⟨by decide +kernel, by decide +kernel⟩ RX3 (by decide) (by decide) rfl qf_X3_15 rfl hin rfl rfl rfl rfl (Z' := cZ420) rfl dX3_init_12 ?_
  exact ww_vret (pc := 15) hC hr (u := ()) (r := ()) rfl dX3_init_15
def cZ421 : XS := stR cZ420 126 10 135
def cZ422 : XS := newO 137 cZ421 3
def cX423 : XD := zX cX419 137
def cZ424 : XS := newA 138 cZ422 13 10
def cX425 : XD := zX cX423 138
def cZ426 : XS := stR cZ424 137 0 138
set_option maxHeartbeats 40000000 in
set_option maxRecDepth 100000 in
theorem ciX3_init_43 {l : Launch} {E : XE} {w : XW} (hW : ∀ i : Nat, w.1 i = w.1 0 + i) : Ct l E w yX3_init (wsM yX3_init cX3_init 2 none) (rmX 1 1 10) 1 10 [.ref (w.1 137), .int (10 : Int32)] (w.1 (sn cZ422)) (w.1 (sn cZ426)) cZ422 cZ426 cX423 cX425 none := by
  refine ct_of (by decide) (Nat.le_of_ble_eq_true rfl) ?_
  intro p e s m args below meth c hC hr hin hav
  refine ww_lv (lv' := [(0, .ref (w.1 137)), (1, .int (10 : Int32))]) rfl ?_
  refine ww_aload_n (pc := 0) hC dX3_init_0 0 rfl ?_
  refine ww_objInit (pc := 1) hC ql_X3_3 qi_java_lang_Object__init_ qc_java_lang_Object__init_ dX3_init_1 ⟨Nat.le_of_ble_eq_true rfl, Nat.le_of_ble_eq_true rfl⟩ (Nat.le_of_ble_eq_true rfl) ?_
  refine ww_aload_n (pc := 4) hC dX3_init_4 0 rfl ?_
  refine ww_iconst (pc := 5) hC (v := (0 : Int32)) dX3_init_5 (by decide) ?_
  refine ww_iload_n (pc := 6) hC dX3_init_6 1 rfl ?_
  refine ww_max (pc := 7) hC ql_X3_9 qt_J9_max_7cf53 qn_J9 qc_J9_max_7cf53 dX3_init_7 ⟨Nat.le_of_ble_eq_true rfl, Nat.le_of_ble_eq_true rfl⟩ (Nat.le_of_ble_eq_true rfl) ⟨Nat.le_of_ble_eq_true rfl, Nat.le_of_ble_eq_true rfl⟩ ?_
  rw [show (if (0 : Int32) < (10 : Int32) then (10 : Int32) else (0 : Int32)) = (10 : Int32) by decide]
  refine ww_newa (pc := 10) hC 13 (by decide) (by decide) rfl (ct0 hW _) (n := 138) (by decide +kernel) (by decide) (N := 10) (by decide) (Z' := cZ424) rfl (X' := cX425) rfl (by decide) qy_FieldType_int dX3_init_10 (Nat.le_of_ble_eq_true rfl) (Nat.le_of_ble_eq_true rfl) ?_
  refine ww_putR (pc := 12) hC (i := 137) (t := 138) 3 0 ⟨by decide +kernel, by decide +kernel⟩ RX3 (by decide) (by decide) rfl qf_X3_15 rfl hin rfl rfl rfl rfl (Z' := cZ426) rfl dX3_init_12 ?_
  exact ww_vret (pc := 15) hC hr (u := ()) (r := ()) rfl dX3_init_15
def cZ427 : XS := stR cZ426 126 11 137
set_option maxHeartbeats 40000000 in
set_option maxRecDepth 100000 in
theorem ciX6_init_39 {l : Launch} {E : XE} {w : XW} (hW : ∀ i : Nat, w.1 i = w.1 0 + i) : Ct l E w yX6_init (wsM yX6_init cX6_init 1 none) (rmX 2 12 84) 12 84 [.ref (w.1 126)] (w.1 (sn cZ388)) (w.1 (sn cZ427)) cZ388 cZ427 cX389 cX425 none := by
  refine ct_of (by decide) (Nat.le_of_ble_eq_true rfl) ?_
  intro p e s m args below meth c hC hr hin hav
  refine ww_lv (lv' := [(0, .ref (w.1 126))]) rfl ?_
  refine ww_aload_n (pc := 0) hC dX6_init_0 0 rfl ?_
  refine ww_objInit (pc := 1) hC ql_X6_3 qi_java_lang_Object__init_ qc_java_lang_Object__init_ dX6_init_1 ⟨Nat.le_of_ble_eq_true rfl, Nat.le_of_ble_eq_true rfl⟩ (Nat.le_of_ble_eq_true rfl) ?_
  refine ww_aload_n (pc := 4) hC dX6_init_4 0 rfl ?_
  refine ww_iconst (pc := 5) hC (v := (-1 : Int32)) dX6_init_5 (by decide) ?_
  refine ww_putI (pc := 6) hC (i := 126) 6 1 ⟨by decide +kernel, by decide +kernel⟩ RX6 (by decide) (by decide) rfl qf_X6_9 rfl rfl rfl rfl dX6_init_6 ?_
  refine ww_nmX (X' := cX390) rfl ?_
  refine ww_aload_n (pc := 9) hC dX6_init_9 0 rfl ?_
  refine ww_bipush (pc := 10) hC (v := (6 : Int32)) dX6_init_10 (by decide) ?_
  refine ww_newa (pc := 12) hC 13 (by decide) (by decide) rfl (ct0 hW _) (n := 127) (by decide +kernel) (by decide) (N := 6) (by decide) (Z' := cZ391) rfl (X' := cX392) rfl (by decide) qy_FieldType_int dX6_init_12 (Nat.le_of_ble_eq_true rfl) (Nat.le_of_ble_eq_true rfl) ?_
  refine ww_putR (pc := 14) hC (i := 126) (t := 127) 6 4 ⟨by decide +kernel, by decide +kernel⟩ RX6 (by decide) (by decide) rfl qf_X6_15 rfl hin rfl rfl rfl rfl (Z' := cZ393) rfl dX6_init_14 ?_
  refine ww_aload_n (pc := 17) hC dX6_init_17 0 rfl ?_
  refine ww_getR (pc := 18) hC (i := 126) 6 4 127 ⟨by decide +kernel, by decide +kernel⟩ RX6 (by decide) (by decide) rfl (by decide +kernel) qf_X6_15 rfl dX6_init_18 ?_
  refine ww_iconst (pc := 21) hC (v := (3 : Int32)) dX6_init_21 (by decide) ?_
  refine ww_callSv (pc := 22) hC [.ref (w.1 127), .int (3 : Int32)] (X' := cX394) (ceJ7_fill_53178 (show KA cZ393 127 13 (sL cZ393 127) from ⟨by decide +kernel, by decide +kernel, rfl⟩) (fill_eq (n := 6) (by decide) (show sL cZ393 127 = 6 by decide +kernel))) ql_X6_19 qt_J7_fill_53178 qn_J7 qc_J7_fill_53178 ⟨by decide, by decide, rfl⟩ rfl ⟨Nat.le_of_ble_eq_true rfl, Nat.le_of_ble_eq_true rfl⟩ (by decide) (rest := []) (Nat.le_of_ble_eq_true rfl) dX6_init_22 ⟨Nat.le_of_ble_eq_true rfl, Nat.le_of_ble_eq_true rfl⟩ rfl ?_
  refine ww_aload_n (pc := 25) hC dX6_init_25 0 rfl ?_
  refine ww_bipush (pc := 26) hC (v := (6 : Int32)) dX6_init_26 (by decide) ?_
  refine ww_newa (pc := 28) hC 13 (by decide) (by decide) rfl (ct0 hW _) (n := 128) (by decide +kernel) (by decide) (N := 6) (by decide) (Z' := cZ395) rfl (X' := cX396) rfl (by decide) qy_FieldType_int dX6_init_28 (Nat.le_of_ble_eq_true rfl) (Nat.le_of_ble_eq_true rfl) ?_
  refine ww_putR (pc := 30) hC (i := 126) (t := 128) 6 5 ⟨by decide +kernel, by decide +kernel⟩ RX6 (by decide) (by decide) rfl qf_X6_25 rfl hin rfl rfl rfl rfl (Z' := cZ397) rfl dX6_init_30 ?_
  refine ww_aload_n (pc := 33) hC dX6_init_33 0 rfl ?_
  refine ww_bipush (pc := 34) hC (v := (6 : Int32)) dX6_init_34 (by decide) ?_
  refine ww_newa (pc := 36) hC 13 (by decide) (by decide) rfl (ct0 hW _) (n := 129) (by decide +kernel) (by decide) (N := 6) (by decide) (Z' := cZ398) rfl (X' := cX399) rfl (by decide) qy_FieldType_int dX6_init_36 (Nat.le_of_ble_eq_true rfl) (Nat.le_of_ble_eq_true rfl) ?_
  refine ww_putR (pc := 38) hC (i := 126) (t := 129) 6 6 ⟨by decide +kernel, by decide +kernel⟩ RX6 (by decide) (by decide) rfl qf_X6_28 rfl hin rfl rfl rfl rfl (Z' := cZ400) rfl dX6_init_38 ?_
  refine ww_aload_n (pc := 41) hC dX6_init_41 0 rfl ?_
  refine ww_bipush (pc := 42) hC (v := (24 : Int32)) dX6_init_42 (by decide) ?_
  refine ww_newa (pc := 44) hC 13 (by decide) (by decide) rfl (ct0 hW _) (n := 130) (by decide +kernel) (by decide) (N := 24) (by decide) (Z' := cZ401) rfl (X' := cX402) rfl (by decide) qy_FieldType_int dX6_init_44 (Nat.le_of_ble_eq_true rfl) (Nat.le_of_ble_eq_true rfl) ?_
  refine ww_putR (pc := 46) hC (i := 126) (t := 130) 6 7 ⟨by decide +kernel, by decide +kernel⟩ RX6 (by decide) (by decide) rfl qf_X6_31 rfl hin rfl rfl rfl rfl (Z' := cZ403) rfl dX6_init_46 ?_
  refine ww_aload_n (pc := 49) hC dX6_init_49 0 rfl ?_
  refine ww_new (pc := 50) hC 3 (by decide) (ct0 hW _) (n := 131) (by decide +kernel) rfl (Z' := cZ404) rfl (X' := cX405) rfl qk_X6_34 qa_X3 qn_X3 dX6_init_50 (Nat.le_of_ble_eq_true rfl) (Nat.le_of_ble_eq_true rfl) ?_
  refine ww_dup (pc := 53) hC dX6_init_53 rfl ?_
  refine ww_iconst (pc := 54) hC (v := (4 : Int32)) dX6_init_54 (by decide) ?_
  refine ww_callI (pc := 55) hC [.int (4 : Int32)] (mc := 1) (ms := 4) (Z' := cZ408) (X' := cX407) (ciX3_init_40 hW) ql_X6_36 qi_X3_init qn_X3 qc_X3_init rfl ⟨by decide, by decide, rfl⟩ rfl ⟨Nat.le_of_ble_eq_true rfl, Nat.le_of_ble_eq_true rfl⟩ (by decide) (rest := [.ref (w.1 131), .ref (w.1 126)]) (Nat.le_of_ble_eq_true rfl) dX6_init_55 ⟨Nat.le_of_ble_eq_true rfl, Nat.le_of_ble_eq_true rfl⟩ rfl ?_
  refine ww_putR (pc := 58) hC (i := 126) (t := 131) 6 8 ⟨by decide +kernel, by decide +kernel⟩ RX6 (by decide) (by decide) rfl qf_X6_39 rfl hin rfl rfl rfl rfl (Z' := cZ409) rfl dX6_init_58 ?_
  refine ww_aload_n (pc := 61) hC dX6_init_61 0 rfl ?_
  refine ww_new (pc := 62) hC 3 (by decide) (ct0 hW _) (n := 133) (by decide +kernel) rfl (Z' := cZ410) rfl (X' := cX411) rfl qk_X6_34 qa_X3 qn_X3 dX6_init_62 (Nat.le_of_ble_eq_true rfl) (Nat.le_of_ble_eq_true rfl) ?_
  refine ww_dup (pc := 65) hC dX6_init_65 rfl ?_
  refine ww_bipush (pc := 66) hC (v := (6 : Int32)) dX6_init_66 (by decide) ?_
  refine ww_callI (pc := 68) hC [.int (6 : Int32)] (mc := 1) (ms := 6) (Z' := cZ414) (X' := cX413) (ciX3_init_41 hW) ql_X6_36 qi_X3_init qn_X3 qc_X3_init rfl ⟨by decide, by decide, rfl⟩ rfl ⟨Nat.le_of_ble_eq_true rfl, Nat.le_of_ble_eq_true rfl⟩ (by decide) (rest := [.ref (w.1 133), .ref (w.1 126)]) (Nat.le_of_ble_eq_true rfl) dX6_init_68 ⟨Nat.le_of_ble_eq_true rfl, Nat.le_of_ble_eq_true rfl⟩ rfl ?_
  refine ww_putR (pc := 71) hC (i := 126) (t := 133) 6 9 ⟨by decide +kernel, by decide +kernel⟩ RX6 (by decide) (by decide) rfl qf_X6_43 rfl hin rfl rfl rfl rfl (Z' := cZ415) rfl dX6_init_71 ?_
  refine ww_aload_n (pc := 74) hC dX6_init_74 0 rfl ?_
  refine ww_new (pc := 75) hC 3 (by decide) (ct0 hW _) (n := 135) (by decide +kernel) rfl (Z' := cZ416) rfl (X' := cX417) rfl qk_X6_34 qa_X3 qn_X3 dX6_init_75 (Nat.le_of_ble_eq_true rfl) (Nat.le_of_ble_eq_true rfl) ?_
  refine ww_dup (pc := 78) hC dX6_init_78 rfl ?_
  refine ww_bipush (pc := 79) hC (v := (10 : Int32)) dX6_init_79 (by decide) ?_
  refine ww_callI (pc := 81) hC [.int (10 : Int32)] (mc := 1) (ms := 10) (Z' := cZ420) (X' := cX419) (ciX3_init_42 hW) ql_X6_36 qi_X3_init qn_X3 qc_X3_init rfl ⟨by decide, by decide, rfl⟩ rfl ⟨Nat.le_of_ble_eq_true rfl, Nat.le_of_ble_eq_true rfl⟩ (by decide) (rest := [.ref (w.1 135), .ref (w.1 126)]) (Nat.le_of_ble_eq_true rfl) dX6_init_81 ⟨Nat.le_of_ble_eq_true rfl, Nat.le_of_ble_eq_true rfl⟩ rfl ?_
  refine ww_putR (pc := 84) hC (i := 126) (t := 135) 6 10 ⟨by decide +kernel, by decide +kernel⟩ RX6 (by decide) (by decide) rfl qf_X6_46 rfl hin rfl rfl rfl rfl (Z' := cZ421) rfl dX6_init_84 ?_
  refine ww_aload_n (pc := 87) hC dX6_init_87 0 rfl ?_
  refine ww_new (pc := 88) hC 3 (by decide) (ct0 hW _) (n := 137) (by decide +kernel) rfl (Z' := cZ422) rfl (X' := cX423) rfl qk_X6_34 qa_X3 qn_X3 dX6_init_88 (Nat.le_of_ble_eq_true rfl) (Nat.le_of_ble_eq_true rfl) ?_
  refine ww_dup (pc := 91) hC dX6_init_91 rfl ?_
  refine ww_bipush (pc := 92) hC (v := (10 : Int32)) dX6_init_92 (by decide) ?_
  refine ww_callI (pc := 94) hC [.int (10 : Int32)] (mc := 1) (ms := 10) (Z' := cZ426) (X' := cX425) (ciX3_init_43 hW) ql_X6_36 qi_X3_init qn_X3 qc_X3_init rfl ⟨by decide, by decide, rfl⟩ rfl ⟨Nat.le_of_ble_eq_true rfl, Nat.le_of_ble_eq_true rfl⟩ (by decide) (rest := [.ref (w.1 137), .ref (w.1 126)]) (Nat.le_of_ble_eq_true rfl) dX6_init_94 ⟨Nat.le_of_ble_eq_true rfl, Nat.le_of_ble_eq_true rfl⟩ rfl ?_
  refine ww_putR (pc := 97) hC (i := 126) (t := 137) 6 11 ⟨by decide +kernel, by decide +kernel⟩ RX6 (by decide) (by decide) rfl qf_X6_49 rfl hin rfl rfl rfl rfl (Z' := cZ427) rfl dX6_init_97 ?_
  exact ww_vret (pc := 100) hC hr (u := ()) (r := ()) rfl dX6_init_100
def cZ428 : XS := stR cZ427 73 4 126
def cZ429 : XS := newO 139 cZ428 9
def cX430 : XD := zX cX425 139
def cZ431 : XS := newA 140 cZ429 13 3
def cX432 : XD := zX cX430 140
def cZ433 : XS := stR cZ431 139 0 140
def cZ434 : XS := newA 141 cZ433 13 3
def cX435 : XD := zX cX432 141
def cZ436 : XS := stR cZ434 139 1 141
set_option maxHeartbeats 40000000 in
set_option maxRecDepth 100000 in
theorem ciX9_init_44 {l : Launch} {E : XE} {w : XW} (hW : ∀ i : Nat, w.1 i = w.1 0 + i) : Ct l E w yX9_init (wsM yX9_init cX9_init 1 none) (rmX 1 2 6) 2 6 [.ref (w.1 139)] (w.1 (sn cZ429)) (w.1 (sn cZ436)) cZ429 cZ436 cX430 cX435 none := by
  refine ct_of (by decide) (Nat.le_of_ble_eq_true rfl) ?_
  intro p e s m args below meth c hC hr hin hav
  refine ww_lv (lv' := [(0, .ref (w.1 139))]) rfl ?_
  refine ww_aload_n (pc := 0) hC dX9_init_0 0 rfl ?_
  refine ww_objInit (pc := 1) hC ql_X9_3 qi_java_lang_Object__init_ qc_java_lang_Object__init_ dX9_init_1 ⟨Nat.le_of_ble_eq_true rfl, Nat.le_of_ble_eq_true rfl⟩ (Nat.le_of_ble_eq_true rfl) ?_
  refine ww_aload_n (pc := 4) hC dX9_init_4 0 rfl ?_
  refine ww_iconst (pc := 5) hC (v := (3 : Int32)) dX9_init_5 (by decide) ?_
  refine ww_newa (pc := 6) hC 13 (by decide) (by decide) rfl (ct0 hW _) (n := 140) (by decide +kernel) (by decide) (N := 3) (by decide) (Z' := cZ431) rfl (X' := cX432) rfl (by decide) qy_FieldType_int dX9_init_6 (Nat.le_of_ble_eq_true rfl) (Nat.le_of_ble_eq_true rfl) ?_
  refine ww_putR (pc := 8) hC (i := 139) (t := 140) 9 0 ⟨by decide +kernel, by decide +kernel⟩ RX9 (by decide) (by decide) rfl qf_X9_9 rfl hin rfl rfl rfl rfl (Z' := cZ433) rfl dX9_init_8 ?_
  refine ww_aload_n (pc := 11) hC dX9_init_11 0 rfl ?_
  refine ww_iconst (pc := 12) hC (v := (3 : Int32)) dX9_init_12 (by decide) ?_
  refine ww_newa (pc := 13) hC 13 (by decide) (by decide) rfl (ct0 hW _) (n := 141) (by decide +kernel) (by decide) (N := 3) (by decide) (Z' := cZ434) rfl (X' := cX435) rfl (by decide) qy_FieldType_int dX9_init_13 (Nat.le_of_ble_eq_true rfl) (Nat.le_of_ble_eq_true rfl) ?_
  refine ww_putR (pc := 15) hC (i := 139) (t := 141) 9 1 ⟨by decide +kernel, by decide +kernel⟩ RX9 (by decide) (by decide) rfl qf_X9_15 rfl hin rfl rfl rfl rfl (Z' := cZ436) rfl dX9_init_15 ?_
  exact ww_vret (pc := 18) hC hr (u := ()) (r := ()) rfl dX9_init_18
def cZ437 : XS := stR cZ436 0 8 139
def cZ438 : XS := newO 142 cZ437 3
def cX439 : XD := zX cX435 142
def cZ440 : XS := newA 143 cZ438 13 20
def cX441 : XD := zX cX439 143
def cZ442 : XS := stR cZ440 142 0 143
set_option maxHeartbeats 40000000 in
set_option maxRecDepth 100000 in
theorem ciX3_init_45 {l : Launch} {E : XE} {w : XW} (hW : ∀ i : Nat, w.1 i = w.1 0 + i) : Ct l E w yX3_init (wsM yX3_init cX3_init 2 none) (rmX 1 1 20) 1 20 [.ref (w.1 142), .int (20 : Int32)] (w.1 (sn cZ438)) (w.1 (sn cZ442)) cZ438 cZ442 cX439 cX441 none := by
  refine ct_of (by decide) (Nat.le_of_ble_eq_true rfl) ?_
  intro p e s m args below meth c hC hr hin hav
  refine ww_lv (lv' := [(0, .ref (w.1 142)), (1, .int (20 : Int32))]) rfl ?_
  refine ww_aload_n (pc := 0) hC dX3_init_0 0 rfl ?_
  refine ww_objInit (pc := 1) hC ql_X3_3 qi_java_lang_Object__init_ qc_java_lang_Object__init_ dX3_init_1 ⟨Nat.le_of_ble_eq_true rfl, Nat.le_of_ble_eq_true rfl⟩ (Nat.le_of_ble_eq_true rfl) ?_
  refine ww_aload_n (pc := 4) hC dX3_init_4 0 rfl ?_
  refine ww_iconst (pc := 5) hC (v := (0 : Int32)) dX3_init_5 (by decide) ?_
  refine ww_iload_n (pc := 6) hC dX3_init_6 1 rfl ?_
  refine ww_max (pc := 7) hC ql_X3_9 qt_J9_max_7cf53 qn_J9 qc_J9_max_7cf53 dX3_init_7 ⟨Nat.le_of_ble_eq_true rfl, Nat.le_of_ble_eq_true rfl⟩ (Nat.le_of_ble_eq_true rfl) ⟨Nat.le_of_ble_eq_true rfl, Nat.le_of_ble_eq_true rfl⟩ ?_
  rw [show (if (0 : Int32) < (20 : Int32) then (20 : Int32) else (0 : Int32)) = (20 : Int32) by decide]
  refine ww_newa (pc := 10) hC 13 (by decide) (by decide) rfl (ct0 hW _) (n := 143) (by decide +kernel) (by decide) (N := 20) (by decide) (Z' := cZ440) rfl (X' := cX441) rfl (by decide) qy_FieldType_int dX3_init_10 (Nat.le_of_ble_eq_true rfl) (Nat.le_of_ble_eq_true rfl) ?_
  refine ww_putR (pc := 12) hC (i := 142) (t := 143) 3 0 ⟨by decide +kernel, by decide +kernel⟩ RX3 (by decide) (by decide) rfl qf_X3_15 rfl hin rfl rfl rfl rfl (Z' := cZ442) rfl dX3_init_12 ?_
  exact ww_vret (pc := 15) hC hr (u := ()) (r := ()) rfl dX3_init_15
def cZ443 : XS := stR cZ442 0 9 142
def cZ444 : XS := newM 144 cZ443 6 60
def cX445 : XD := zM cX441 144 6
def cZ446 : XS := stR cZ444 0 10 144
def cZ447 : XS := newA 151 cZ446 13 6
def cX448 : XD := zX cX445 151
def cZ449 : XS := stR cZ447 0 11 151
def cX450 : XD := fillI cX448 151 6 (-1 : Int32)
def cZ451 : XS := newA 152 cZ449 13 6
def cX452 : XD := zX cX450 152
def cZ453 : XS := stR cZ451 0 12 152
def cZ454 : XS := newA 153 cZ453 14 5
def cX455 : XD := zX cX452 153
def cZ456 : XS := stR cZ454 0 13 153
def cZ457 : XS := newA 154 cZ456 14 5
def cX458 : XD := zX cX455 154
def cZ459 : XS := stR cZ457 0 14 154
def cZ460 : XS := newA 155 cZ459 13 4
def cX461 : XD := zX cX458 155
def cZ462 : XS := stR cZ460 0 15 155
def cZ463 : XS := newA 156 cZ462 13 4
def cX464 : XD := zX cX461 156
def cZ465 : XS := stR cZ463 0 16 156
set_option maxHeartbeats 40000000 in
set_option maxRecDepth 100000 in
theorem ciX11_init_1 {l : Launch} {E : XE} {w : XW} (hW : ∀ i : Nat, w.1 i = w.1 0 + i) : Ct l E w yX11_init (wsM yX11_init cX11_init 2 none) (rmX 3 156 2150) 156 2150 [.ref (w.1 0)] (w.1 (sn cZ0)) (w.1 (sn cZ465)) cZ0 cZ465 cX0 cX464 none := by
  refine ct_of (by decide) (Nat.le_of_ble_eq_true rfl) ?_
  intro p e s m args below meth c hC hr hin hav
  refine ww_lv (lv' := [(0, .ref (w.1 0))]) rfl ?_
  refine ww_aload_n (pc := 0) hC dX11_init_0 0 rfl ?_
  refine ww_objInit (pc := 1) hC ql_X11_3 qi_java_lang_Object__init_ qc_java_lang_Object__init_ dX11_init_1 ⟨Nat.le_of_ble_eq_true rfl, Nat.le_of_ble_eq_true rfl⟩ (Nat.le_of_ble_eq_true rfl) ?_
  refine ww_aload_n (pc := 4) hC dX11_init_4 0 rfl ?_
  refine ww_bipush (pc := 5) hC (v := (6 : Int32)) dX11_init_5 (by decide) ?_
  refine ww_anew (pc := 7) hC 17 (by decide) (by decide) rfl hC.2.2.2.2.2.2.2.2.2.2.2.2.2.1 (ct0 hW _) (n := 1) (by decide +kernel) (by decide) (N := 6) (by decide) (Z' := cZ1) rfl (X' := cX2) rfl (by decide) qk_X11_11 dX11_init_7 (Nat.le_of_ble_eq_true rfl) (Nat.le_of_ble_eq_true rfl) ?_
  refine ww_putR (pc := 10) hC (i := 0) (t := 1) 11 0 ⟨by decide +kernel, by decide +kernel⟩ RX11 (by decide) (by decide) rfl qf_X11_13 rfl hin rfl rfl rfl rfl (Z' := cZ3) rfl dX11_init_10 ?_
  refine ww_aload_n (pc := 13) hC dX11_init_13 0 rfl ?_
  refine ww_bipush (pc := 14) hC (v := (6 : Int32)) dX11_init_14 (by decide) ?_
  refine ww_anew (pc := 16) hC 16 (by decide) (by decide) rfl hC.2.2.2.2.2.2.2.2.2.2.2.2.2.2.1 (ct0 hW _) (n := 2) (by decide +kernel) (by decide) (N := 6) (by decide) (Z' := cZ4) rfl (X' := cX5) rfl (by decide) qk_X11_17 dX11_init_16 (Nat.le_of_ble_eq_true rfl) (Nat.le_of_ble_eq_true rfl) ?_
  refine ww_putR (pc := 19) hC (i := 0) (t := 2) 11 1 ⟨by decide +kernel, by decide +kernel⟩ RX11 (by decide) (by decide) rfl qf_X11_19 rfl hin rfl rfl rfl rfl (Z' := cZ6) rfl dX11_init_19 ?_
  refine ww_iconst (pc := 22) hC (v := (0 : Int32)) dX11_init_22 (by decide) ?_
  refine ww_istore_n (pc := 23) hC [(1, .int (0 : Int32)), (0, .ref (w.1 0))] dX11_init_23 rfl (by decide) rfl ?_
  refine ww_iload_n (pc := 24) hC dX11_init_24 0 rfl ?_
  refine ww_aload_n (pc := 25) hC dX11_init_25 1 rfl ?_
  refine ww_getR (pc := 26) hC (i := 0) 11 1 2 ⟨by decide +kernel, by decide +kernel⟩ RX11 (by decide) (by decide) rfl (by decide +kernel) qf_X11_19 rfl dX11_init_26 ?_
  refine ww_alen (pc := 29) hC (n := 6) (d := 16) (6 : Int32) ⟨by decide +kernel, by decide +kernel, by decide +kernel⟩ (by decide) (by decide) (by decide) dX11_init_29 ?_
  refine ww_icmp_ge (pc := 30) hC (x := (0 : Int32)) (y := (6 : Int32)) (d := Classical.propDecidable _) (α := Unit) (f1 := none) (f2 := some ()) (r := ()) (if_neg (by decide)) 52 dX11_init_30 (by decide) (fun q => by cases q) (fun q => ?_)
  refine ww_aload_n (pc := 33) hC dX11_init_33 1 rfl ?_
  refine ww_getR (pc := 34) hC (i := 0) 11 1 2 ⟨by decide +kernel, by decide +kernel⟩ RX11 (by decide) (by decide) rfl (by decide +kernel) qf_X11_19 rfl dX11_init_34 ?_
  refine ww_iload_n (pc := 37) hC dX11_init_37 0 rfl ?_
  refine ww_new (pc := 38) hC 1 (by decide) (ct0 hW _) (n := 3) (by decide +kernel) rfl (Z' := cZ7) rfl (X' := cX8) rfl qk_X11_17 qa_X1 qn_X1 dX11_init_38 (Nat.le_of_ble_eq_true rfl) (Nat.le_of_ble_eq_true rfl) ?_
  refine ww_dup (pc := 41) hC dX11_init_41 rfl ?_
  refine ww_callI (pc := 42) hC [] (mc := 6) (ms := 146) (Z' := cZ26) (X' := cX25) (ciX1_init_2 hW) ql_X11_23 qi_X1_init qn_X1 qc_X1_init rfl ⟨by decide, by decide, rfl⟩ rfl ⟨Nat.le_of_ble_eq_true rfl, Nat.le_of_ble_eq_true rfl⟩ (by decide) (rest := [.ref (w.1 3), .int (0 : Int32), .ref (w.1 2)]) (Nat.le_of_ble_eq_true rfl) dX11_init_42 ⟨Nat.le_of_ble_eq_true rfl, Nat.le_of_ble_eq_true rfl⟩ rfl ?_
  refine ww_aast (pc := 45) hC (a := 2) (t := 3) (n := 6) 16 1 ⟨by decide +kernel, by decide +kernel, by decide +kernel⟩ (by decide) (by decide) rfl ⟨by decide +kernel, by decide +kernel⟩ (by decide) (Or.inl rfl) (by unfold vp_in; decide) (Z' := cZ27) rfl dX11_init_45 ?_
  refine ww_iinc (pc := 46) hC (1 : Int32) [(1, .int (1 : Int32)), (0, .ref (w.1 0))] dX11_init_46 0 rfl (by decide) (by decide) rfl ?_
  refine ww_goto (pc := 49) hC 24 dX11_init_49 (by decide) ?_
  refine ww_iload_n (pc := 24) hC dX11_init_24 0 rfl ?_
  refine ww_aload_n (pc := 25) hC dX11_init_25 1 rfl ?_
  refine ww_getR (pc := 26) hC (i := 0) 11 1 2 ⟨by decide +kernel, by decide +kernel⟩ RX11 (by decide) (by decide) rfl (by decide +kernel) qf_X11_19 rfl dX11_init_26 ?_
  refine ww_alen (pc := 29) hC (n := 6) (d := 16) (6 : Int32) ⟨by decide +kernel, by decide +kernel, by decide +kernel⟩ (by decide) (by decide) (by decide) dX11_init_29 ?_
  refine ww_icmp_ge (pc := 30) hC (x := (1 : Int32)) (y := (6 : Int32)) (d := Classical.propDecidable _) (α := Unit) (f1 := none) (f2 := some ()) (r := ()) (if_neg (by decide)) 52 dX11_init_30 (by decide) (fun q => by cases q) (fun q => ?_)
  refine ww_aload_n (pc := 33) hC dX11_init_33 1 rfl ?_
  refine ww_getR (pc := 34) hC (i := 0) 11 1 2 ⟨by decide +kernel, by decide +kernel⟩ RX11 (by decide) (by decide) rfl (by decide +kernel) qf_X11_19 rfl dX11_init_34 ?_
  refine ww_iload_n (pc := 37) hC dX11_init_37 0 rfl ?_
  refine ww_new (pc := 38) hC 1 (by decide) (ct0 hW _) (n := 10) (by decide +kernel) rfl (Z' := cZ28) rfl (X' := cX29) rfl qk_X11_17 qa_X1 qn_X1 dX11_init_38 (Nat.le_of_ble_eq_true rfl) (Nat.le_of_ble_eq_true rfl) ?_
  refine ww_dup (pc := 41) hC dX11_init_41 rfl ?_
  refine ww_callI (pc := 42) hC [] (mc := 6) (ms := 146) (Z' := cZ47) (X' := cX46) (ciX1_init_3 hW) ql_X11_23 qi_X1_init qn_X1 qc_X1_init rfl ⟨by decide, by decide, rfl⟩ rfl ⟨Nat.le_of_ble_eq_true rfl, Nat.le_of_ble_eq_true rfl⟩ (by decide) (rest := [.ref (w.1 10), .int (1 : Int32), .ref (w.1 2)]) (Nat.le_of_ble_eq_true rfl) dX11_init_42 ⟨Nat.le_of_ble_eq_true rfl, Nat.le_of_ble_eq_true rfl⟩ rfl ?_
  refine ww_aast (pc := 45) hC (a := 2) (t := 10) (n := 6) 16 1 ⟨by decide +kernel, by decide +kernel, by decide +kernel⟩ (by decide) (by decide) rfl ⟨by decide +kernel, by decide +kernel⟩ (by decide) (Or.inl rfl) (by unfold vp_in; decide) (Z' := cZ48) rfl dX11_init_45 ?_
  refine ww_iinc (pc := 46) hC (2 : Int32) [(1, .int (2 : Int32)), (0, .ref (w.1 0))] dX11_init_46 0 rfl (by decide) (by decide) rfl ?_
  refine ww_goto (pc := 49) hC 24 dX11_init_49 (by decide) ?_
  refine ww_iload_n (pc := 24) hC dX11_init_24 0 rfl ?_
  refine ww_aload_n (pc := 25) hC dX11_init_25 1 rfl ?_
  refine ww_getR (pc := 26) hC (i := 0) 11 1 2 ⟨by decide +kernel, by decide +kernel⟩ RX11 (by decide) (by decide) rfl (by decide +kernel) qf_X11_19 rfl dX11_init_26 ?_
  refine ww_alen (pc := 29) hC (n := 6) (d := 16) (6 : Int32) ⟨by decide +kernel, by decide +kernel, by decide +kernel⟩ (by decide) (by decide) (by decide) dX11_init_29 ?_
  refine ww_icmp_ge (pc := 30) hC (x := (2 : Int32)) (y := (6 : Int32)) (d := Classical.propDecidable _) (α := Unit) (f1 := none) (f2 := some ()) (r := ()) (if_neg (by decide)) 52 dX11_init_30 (by decide) (fun q => by cases q) (fun q => ?_)
  refine ww_aload_n (pc := 33) hC dX11_init_33 1 rfl ?_
  refine ww_getR (pc := 34) hC (i := 0) 11 1 2 ⟨by decide +kernel, by decide +kernel⟩ RX11 (by decide) (by decide) rfl (by decide +kernel) qf_X11_19 rfl dX11_init_34 ?_
  refine ww_iload_n (pc := 37) hC dX11_init_37 0 rfl ?_
  refine ww_new (pc := 38) hC 1 (by decide) (ct0 hW _) (n := 17) (by decide +kernel) rfl (Z' := cZ49) rfl (X' := cX50) rfl qk_X11_17 qa_X1 qn_X1 dX11_init_38 (Nat.le_of_ble_eq_true rfl) (Nat.le_of_ble_eq_true rfl) ?_
  refine ww_dup (pc := 41) hC dX11_init_41 rfl ?_
  refine ww_callI (pc := 42) hC [] (mc := 6) (ms := 146) (Z' := cZ68) (X' := cX67) (ciX1_init_4 hW) ql_X11_23 qi_X1_init qn_X1 qc_X1_init rfl ⟨by decide, by decide, rfl⟩ rfl ⟨Nat.le_of_ble_eq_true rfl, Nat.le_of_ble_eq_true rfl⟩ (by decide) (rest := [.ref (w.1 17), .int (2 : Int32), .ref (w.1 2)]) (Nat.le_of_ble_eq_true rfl) dX11_init_42 ⟨Nat.le_of_ble_eq_true rfl, Nat.le_of_ble_eq_true rfl⟩ rfl ?_
  refine ww_aast (pc := 45) hC (a := 2) (t := 17) (n := 6) 16 1 ⟨by decide +kernel, by decide +kernel, by decide +kernel⟩ (by decide) (by decide) rfl ⟨by decide +kernel, by decide +kernel⟩ (by decide) (Or.inl rfl) (by unfold vp_in; decide) (Z' := cZ69) rfl dX11_init_45 ?_
  refine ww_iinc (pc := 46) hC (3 : Int32) [(1, .int (3 : Int32)), (0, .ref (w.1 0))] dX11_init_46 0 rfl (by decide) (by decide) rfl ?_
  refine ww_goto (pc := 49) hC 24 dX11_init_49 (by decide) ?_
  refine ww_iload_n (pc := 24) hC dX11_init_24 0 rfl ?_
  refine ww_aload_n (pc := 25) hC dX11_init_25 1 rfl ?_
  refine ww_getR (pc := 26) hC (i := 0) 11 1 2 ⟨by decide +kernel, by decide +kernel⟩ RX11 (by decide) (by decide) rfl (by decide +kernel) qf_X11_19 rfl dX11_init_26 ?_
  refine ww_alen (pc := 29) hC (n := 6) (d := 16) (6 : Int32) ⟨by decide +kernel, by decide +kernel, by decide +kernel⟩ (by decide) (by decide) (by decide) dX11_init_29 ?_
  refine ww_icmp_ge (pc := 30) hC (x := (3 : Int32)) (y := (6 : Int32)) (d := Classical.propDecidable _) (α := Unit) (f1 := none) (f2 := some ()) (r := ()) (if_neg (by decide)) 52 dX11_init_30 (by decide) (fun q => by cases q) (fun q => ?_)
  refine ww_aload_n (pc := 33) hC dX11_init_33 1 rfl ?_
  refine ww_getR (pc := 34) hC (i := 0) 11 1 2 ⟨by decide +kernel, by decide +kernel⟩ RX11 (by decide) (by decide) rfl (by decide +kernel) qf_X11_19 rfl dX11_init_34 ?_
  refine ww_iload_n (pc := 37) hC dX11_init_37 0 rfl ?_
  refine ww_new (pc := 38) hC 1 (by decide) (ct0 hW _) (n := 24) (by decide +kernel) rfl (Z' := cZ70) rfl (X' := cX71) rfl qk_X11_17 qa_X1 qn_X1 dX11_init_38 (Nat.le_of_ble_eq_true rfl) (Nat.le_of_ble_eq_true rfl) ?_
  refine ww_dup (pc := 41) hC dX11_init_41 rfl ?_
  refine ww_callI (pc := 42) hC [] (mc := 6) (ms := 146) (Z' := cZ89) (X' := cX88) (ciX1_init_5 hW) ql_X11_23 qi_X1_init qn_X1 qc_X1_init rfl ⟨by decide, by decide, rfl⟩ rfl ⟨Nat.le_of_ble_eq_true rfl, Nat.le_of_ble_eq_true rfl⟩ (by decide) (rest := [.ref (w.1 24), .int (3 : Int32), .ref (w.1 2)]) (Nat.le_of_ble_eq_true rfl) dX11_init_42 ⟨Nat.le_of_ble_eq_true rfl, Nat.le_of_ble_eq_true rfl⟩ rfl ?_
  refine ww_aast (pc := 45) hC (a := 2) (t := 24) (n := 6) 16 1 ⟨by decide +kernel, by decide +kernel, by decide +kernel⟩ (by decide) (by decide) rfl ⟨by decide +kernel, by decide +kernel⟩ (by decide) (Or.inl rfl) (by unfold vp_in; decide) (Z' := cZ90) rfl dX11_init_45 ?_
  refine ww_iinc (pc := 46) hC (4 : Int32) [(1, .int (4 : Int32)), (0, .ref (w.1 0))] dX11_init_46 0 rfl (by decide) (by decide) rfl ?_
  refine ww_goto (pc := 49) hC 24 dX11_init_49 (by decide) ?_
  refine ww_iload_n (pc := 24) hC dX11_init_24 0 rfl ?_
  refine ww_aload_n (pc := 25) hC dX11_init_25 1 rfl ?_
  refine ww_getR (pc := 26) hC (i := 0) 11 1 2 ⟨by decide +kernel, by decide +kernel⟩ RX11 (by decide) (by decide) rfl (by decide +kernel) qf_X11_19 rfl dX11_init_26 ?_
  refine ww_alen (pc := 29) hC (n := 6) (d := 16) (6 : Int32) ⟨by decide +kernel, by decide +kernel, by decide +kernel⟩ (by decide) (by decide) (by decide) dX11_init_29 ?_
  refine ww_icmp_ge (pc := 30) hC (x := (4 : Int32)) (y := (6 : Int32)) (d := Classical.propDecidable _) (α := Unit) (f1 := none) (f2 := some ()) (r := ()) (if_neg (by decide)) 52 dX11_init_30 (by decide) (fun q => by cases q) (fun q => ?_)
  refine ww_aload_n (pc := 33) hC dX11_init_33 1 rfl ?_
  refine ww_getR (pc := 34) hC (i := 0) 11 1 2 ⟨by decide +kernel, by decide +kernel⟩ RX11 (by decide) (by decide) rfl (by decide +kernel) qf_X11_19 rfl dX11_init_34 ?_
  refine ww_iload_n (pc := 37) hC dX11_init_37 0 rfl ?_
  refine ww_new (pc := 38) hC 1 (by decide) (ct0 hW _) (n := 31) (by decide +kernel) rfl (Z' := cZ91) rfl (X' := cX92) rfl qk_X11_17 qa_X1 qn_X1 dX11_init_38 (Nat.le_of_ble_eq_true rfl) (Nat.le_of_ble_eq_true rfl) ?_
  refine ww_dup (pc := 41) hC dX11_init_41 rfl ?_
  refine ww_callI (pc := 42) hC [] (mc := 6) (ms := 146) (Z' := cZ110) (X' := cX109) (ciX1_init_6 hW) ql_X11_23 qi_X1_init qn_X1 qc_X1_init rfl ⟨by decide, by decide, rfl⟩ rfl ⟨Nat.le_of_ble_eq_true rfl, Nat.le_of_ble_eq_true rfl⟩ (by decide) (rest := [.ref (w.1 31), .int (4 : Int32), .ref (w.1 2)]) (Nat.le_of_ble_eq_true rfl) dX11_init_42 ⟨Nat.le_of_ble_eq_true rfl, Nat.le_of_ble_eq_true rfl⟩ rfl ?_
  refine ww_aast (pc := 45) hC (a := 2) (t := 31) (n := 6) 16 1 ⟨by decide +kernel, by decide +kernel, by decide +kernel⟩ (by decide) (by decide) rfl ⟨by decide +kernel, by decide +kernel⟩ (by decide) (Or.inl rfl) (by unfold vp_in; decide) (Z' := cZ111) rfl dX11_init_45 ?_
  refine ww_iinc (pc := 46) hC (5 : Int32) [(1, .int (5 : Int32)), (0, .ref (w.1 0))] dX11_init_46 0 rfl (by decide) (by decide) rfl ?_
  refine ww_goto (pc := 49) hC 24 dX11_init_49 (by decide) ?_
  refine ww_iload_n (pc := 24) hC dX11_init_24 0 rfl ?_
  refine ww_aload_n (pc := 25) hC dX11_init_25 1 rfl ?_
  refine ww_getR (pc := 26) hC (i := 0) 11 1 2 ⟨by decide +kernel, by decide +kernel⟩ RX11 (by decide) (by decide) rfl (by decide +kernel) qf_X11_19 rfl dX11_init_26 ?_
  refine ww_alen (pc := 29) hC (n := 6) (d := 16) (6 : Int32) ⟨by decide +kernel, by decide +kernel, by decide +kernel⟩ (by decide) (by decide) (by decide) dX11_init_29 ?_
  refine ww_icmp_ge (pc := 30) hC (x := (5 : Int32)) (y := (6 : Int32)) (d := Classical.propDecidable _) (α := Unit) (f1 := none) (f2 := some ()) (r := ()) (if_neg (by decide)) 52 dX11_init_30 (by decide) (fun q => by cases q) (fun q => ?_)
  refine ww_aload_n (pc := 33) hC dX11_init_33 1 rfl ?_
  refine ww_getR (pc := 34) hC (i := 0) 11 1 2 ⟨by decide +kernel, by decide +kernel⟩ RX11 (by decide) (by decide) rfl (by decide +kernel) qf_X11_19 rfl dX11_init_34 ?_
  refine ww_iload_n (pc := 37) hC dX11_init_37 0 rfl ?_
  refine ww_new (pc := 38) hC 1 (by decide) (ct0 hW _) (n := 38) (by decide +kernel) rfl (Z' := cZ112) rfl (X' := cX113) rfl qk_X11_17 qa_X1 qn_X1 dX11_init_38 (Nat.le_of_ble_eq_true rfl) (Nat.le_of_ble_eq_true rfl) ?_
  refine ww_dup (pc := 41) hC dX11_init_41 rfl ?_
  refine ww_callI (pc := 42) hC [] (mc := 6) (ms := 146) (Z' := cZ131) (X' := cX130) (ciX1_init_7 hW) ql_X11_23 qi_X1_init qn_X1 qc_X1_init rfl ⟨by decide, by decide, rfl⟩ rfl ⟨Nat.le_of_ble_eq_true rfl, Nat.le_of_ble_eq_true rfl⟩ (by decide) (rest := [.ref (w.1 38), .int (5 : Int32), .ref (w.1 2)]) (Nat.le_of_ble_eq_true rfl) dX11_init_42 ⟨Nat.le_of_ble_eq_true rfl, Nat.le_of_ble_eq_true rfl⟩ rfl ?_
  refine ww_aast (pc := 45) hC (a := 2) (t := 38) (n := 6) 16 1 ⟨by decide +kernel, by decide +kernel, by decide +kernel⟩ (by decide) (by decide) rfl ⟨by decide +kernel, by decide +kernel⟩ (by decide) (Or.inl rfl) (by unfold vp_in; decide) (Z' := cZ132) rfl dX11_init_45 ?_
  refine ww_iinc (pc := 46) hC (6 : Int32) [(1, .int (6 : Int32)), (0, .ref (w.1 0))] dX11_init_46 0 rfl (by decide) (by decide) rfl ?_
  refine ww_goto (pc := 49) hC 24 dX11_init_49 (by decide) ?_
  refine ww_iload_n (pc := 24) hC dX11_init_24 0 rfl ?_
  refine ww_aload_n (pc := 25) hC dX11_init_25 1 rfl ?_
  refine ww_getR (pc := 26) hC (i := 0) 11 1 2 ⟨by decide +kernel, by decide +kernel⟩ RX11 (by decide) (by decide) rfl (by decide +kernel) qf_X11_19 rfl dX11_init_26 ?_
  refine ww_alen (pc := 29) hC (n := 6) (d := 16) (6 : Int32) ⟨by decide +kernel, by decide +kernel, by decide +kernel⟩ (by decide) (by decide) (by decide) dX11_init_29 ?_
  refine ww_icmp_ge (pc := 30) hC (x := (6 : Int32)) (y := (6 : Int32)) (d := Classical.propDecidable _) (α := Unit) (f1 := some ()) (f2 := none) (r := ()) (if_pos (by decide)) 52 dX11_init_30 (by decide) (fun q => ?_) (fun q => by cases q)
  refine ww_aload_n (pc := 52) hC dX11_init_52 1 rfl ?_
  refine ww_new (pc := 53) hC 3 (by decide) (ct0 hW _) (n := 45) (by decide +kernel) rfl (Z' := cZ133) rfl (X' := cX134) rfl qk_X11_24 qa_X3 qn_X3 dX11_init_53 (Nat.le_of_ble_eq_true rfl) (Nat.le_of_ble_eq_true rfl) ?_
  refine ww_dup (pc := 56) hC dX11_init_56 rfl ?_
  refine ww_bipush (pc := 57) hC (v := (100 : Int32)) dX11_init_57 (by decide) ?_
  refine ww_callI (pc := 59) hC [.int (100 : Int32)] (mc := 1) (ms := 100) (Z' := cZ137) (X' := cX136) (ciX3_init_8 hW) ql_X11_26 qi_X3_init qn_X3 qc_X3_init rfl ⟨by decide, by decide, rfl⟩ rfl ⟨Nat.le_of_ble_eq_true rfl, Nat.le_of_ble_eq_true rfl⟩ (by decide) (rest := [.ref (w.1 45), .ref (w.1 0)]) (Nat.le_of_ble_eq_true rfl) dX11_init_59 ⟨Nat.le_of_ble_eq_true rfl, Nat.le_of_ble_eq_true rfl⟩ rfl ?_
  refine ww_putR (pc := 62) hC (i := 0) (t := 45) 11 3 ⟨by decide +kernel, by decide +kernel⟩ RX11 (by decide) (by decide) rfl qf_X11_29 rfl hin rfl rfl rfl rfl (Z' := cZ138) rfl dX11_init_62 ?_
  refine ww_aload_n (pc := 65) hC dX11_init_65 1 rfl ?_
  refine ww_new (pc := 66) hC 6 (by decide) (ct0 hW _) (n := 47) (by decide +kernel) rfl (Z' := cZ139) rfl (X' := cX140) rfl qk_X11_33 qa_X6 qn_X6 dX11_init_66 (Nat.le_of_ble_eq_true rfl) (Nat.le_of_ble_eq_true rfl) ?_
  refine ww_dup (pc := 69) hC dX11_init_69 rfl ?_
  refine ww_callI (pc := 70) hC [] (mc := 12) (ms := 84) (Z' := cZ178) (X' := cX176) (ciX6_init_9 hW) ql_X11_35 qi_X6_init qn_X6 qc_X6_init rfl ⟨by decide, by decide, rfl⟩ rfl ⟨Nat.le_of_ble_eq_true rfl, Nat.le_of_ble_eq_true rfl⟩ (by decide) (rest := [.ref (w.1 47), .ref (w.1 0)]) (Nat.le_of_ble_eq_true rfl) dX11_init_70 ⟨Nat.le_of_ble_eq_true rfl, Nat.le_of_ble_eq_true rfl⟩ rfl ?_
  refine ww_putR (pc := 73) hC (i := 0) (t := 47) 11 4 ⟨by decide +kernel, by decide +kernel⟩ RX11 (by decide) (by decide) rfl qf_X11_36 rfl hin rfl rfl rfl rfl (Z' := cZ179) rfl dX11_init_73 ?_
  refine ww_aload_n (pc := 76) hC dX11_init_76 1 rfl ?_
  refine ww_new (pc := 77) hC 6 (by decide) (ct0 hW _) (n := 60) (by decide +kernel) rfl (Z' := cZ180) rfl (X' := cX181) rfl qk_X11_33 qa_X6 qn_X6 dX11_init_77 (Nat.le_of_ble_eq_true rfl) (Nat.le_of_ble_eq_true rfl) ?_
  refine ww_dup (pc := 80) hC dX11_init_80 rfl ?_
  refine ww_callI (pc := 81) hC [] (mc := 12) (ms := 84) (Z' := cZ219) (X' := cX217) (ciX6_init_14 hW) ql_X11_35 qi_X6_init qn_X6 qc_X6_init rfl ⟨by decide, by decide, rfl⟩ rfl ⟨Nat.le_of_ble_eq_true rfl, Nat.le_of_ble_eq_true rfl⟩ (by decide) (rest := [.ref (w.1 60), .ref (w.1 0)]) (Nat.le_of_ble_eq_true rfl) dX11_init_81 ⟨Nat.le_of_ble_eq_true rfl, Nat.le_of_ble_eq_true rfl⟩ rfl ?_
  refine ww_putR (pc := 84) hC (i := 0) (t := 60) 11 5 ⟨by decide +kernel, by decide +kernel⟩ RX11 (by decide) (by decide) rfl qf_X11_40 rfl hin rfl rfl rfl rfl (Z' := cZ220) rfl dX11_init_84 ?_
  refine ww_aload_n (pc := 87) hC dX11_init_87 1 rfl ?_
  refine ww_iconst (pc := 88) hC (v := (5 : Int32)) dX11_init_88 (by decide) ?_
  refine ww_anew (pc := 89) hC 18 (by decide) (by decide) rfl hC.2.2.2.2.2.2.2.2.2.2.2.2.2.2.2.1 (ct0 hW _) (n := 73) (by decide +kernel) (by decide) (N := 5) (by decide) (Z' := cZ221) rfl (X' := cX222) rfl (by decide) qk_X11_33 dX11_init_89 (Nat.le_of_ble_eq_true rfl) (Nat.le_of_ble_eq_true rfl) ?_
  refine ww_putR (pc := 92) hC (i := 0) (t := 73) 11 7 ⟨by decide +kernel, by decide +kernel⟩ RX11 (by decide) (by decide) rfl qf_X11_43 rfl hin rfl rfl rfl rfl (Z' := cZ223) rfl dX11_init_92 ?_
  refine ww_iconst (pc := 95) hC (v := (0 : Int32)) dX11_init_95 (by decide) ?_
  refine ww_istore_n (pc := 96) hC [(1, .int (0 : Int32)), (0, .ref (w.1 0))] dX11_init_96 rfl (by decide) rfl ?_
  refine ww_iload_n (pc := 97) hC dX11_init_97 0 rfl ?_
  refine ww_aload_n (pc := 98) hC dX11_init_98 1 rfl ?_
  refine ww_getR (pc := 99) hC (i := 0) 11 7 73 ⟨by decide +kernel, by decide +kernel⟩ RX11 (by decide) (by decide) rfl (by decide +kernel) qf_X11_43 rfl dX11_init_99 ?_
  refine ww_alen (pc := 102) hC (n := 5) (d := 18) (5 : Int32) ⟨by decide +kernel, by decide +kernel, by decide +kernel⟩ (by decide) (by decide) (by decide) dX11_init_102 ?_
  refine ww_icmp_ge (pc := 103) hC (x := (0 : Int32)) (y := (5 : Int32)) (d := Classical.propDecidable _) (α := Unit) (f1 := none) (f2 := some ()) (r := ()) (if_neg (by decide)) 125 dX11_init_103 (by decide) (fun q => by cases q) (fun q => ?_)
  refine ww_aload_n (pc := 106) hC dX11_init_106 1 rfl ?_
  refine ww_getR (pc := 107) hC (i := 0) 11 7 73 ⟨by decide +kernel, by decide +kernel⟩ RX11 (by decide) (by decide) rfl (by decide +kernel) qf_X11_43 rfl dX11_init_107 ?_
  refine ww_iload_n (pc := 110) hC dX11_init_110 0 rfl ?_
  refine ww_new (pc := 111) hC 6 (by decide) (ct0 hW _) (n := 74) (by decide +kernel) rfl (Z' := cZ224) rfl (X' := cX225) rfl qk_X11_33 qa_X6 qn_X6 dX11_init_111 (Nat.le_of_ble_eq_true rfl) (Nat.le_of_ble_eq_true rfl) ?_
  refine ww_dup (pc := 114) hC dX11_init_114 rfl ?_
  refine ww_callI (pc := 115) hC [] (mc := 12) (ms := 84) (Z' := cZ263) (X' := cX261) (ciX6_init_19 hW) ql_X11_35 qi_X6_init qn_X6 qc_X6_init rfl ⟨by decide, by decide, rfl⟩ rfl ⟨Nat.le_of_ble_eq_true rfl, Nat.le_of_ble_eq_true rfl⟩ (by decide) (rest := [.ref (w.1 74), .int (0 : Int32), .ref (w.1 73)]) (Nat.le_of_ble_eq_true rfl) dX11_init_115 ⟨Nat.le_of_ble_eq_true rfl, Nat.le_of_ble_eq_true rfl⟩ rfl ?_
  refine ww_aast (pc := 118) hC (a := 73) (t := 74) (n := 5) 18 6 ⟨by decide +kernel, by decide +kernel, by decide +kernel⟩ (by decide) (by decide) rfl ⟨by decide +kernel, by decide +kernel⟩ (by decide) (Or.inl rfl) (by unfold vp_in; decide) (Z' := cZ264) rfl dX11_init_118 ?_
  refine ww_iinc (pc := 119) hC (1 : Int32) [(1, .int (1 : Int32)), (0, .ref (w.1 0))] dX11_init_119 0 rfl (by decide) (by decide) rfl ?_
  refine ww_goto (pc := 122) hC 97 dX11_init_122 (by decide) ?_
  refine ww_iload_n (pc := 97) hC dX11_init_97 0 rfl ?_
  refine ww_aload_n (pc := 98) hC dX11_init_98 1 rfl ?_
  refine ww_getR (pc := 99) hC (i := 0) 11 7 73 ⟨by decide +kernel, by decide +kernel⟩ RX11 (by decide) (by decide) rfl (by decide +kernel) qf_X11_43 rfl dX11_init_99 ?_
  refine ww_alen (pc := 102) hC (n := 5) (d := 18) (5 : Int32) ⟨by decide +kernel, by decide +kernel, by decide +kernel⟩ (by decide) (by decide) (by decide) dX11_init_102 ?_
  refine ww_icmp_ge (pc := 103) hC (x := (1 : Int32)) (y := (5 : Int32)) (d := Classical.propDecidable _) (α := Unit) (f1 := none) (f2 := some ()) (r := ()) (if_neg (by decide)) 125 dX11_init_103 (by decide) (fun q => by cases q) (fun q => ?_)
  refine ww_aload_n (pc := 106) hC dX11_init_106 1 rfl ?_
  refine ww_getR (pc := 107) hC (i := 0) 11 7 73 ⟨by decide +kernel, by decide +kernel⟩ RX11 (by decide) (by decide) rfl (by decide +kernel) qf_X11_43 rfl dX11_init_107 ?_
  refine ww_iload_n (pc := 110) hC dX11_init_110 0 rfl ?_
  refine ww_new (pc := 111) hC 6 (by decide) (ct0 hW _) (n := 87) (by decide +kernel) rfl (Z' := cZ265) rfl (X' := cX266) rfl qk_X11_33 qa_X6 qn_X6 dX11_init_111 (Nat.le_of_ble_eq_true rfl) (Nat.le_of_ble_eq_true rfl) ?_
  refine ww_dup (pc := 114) hC dX11_init_114 rfl ?_
  refine ww_callI (pc := 115) hC [] (mc := 12) (ms := 84) (Z' := cZ304) (X' := cX302) (ciX6_init_24 hW) ql_X11_35 qi_X6_init qn_X6 qc_X6_init rfl ⟨by decide, by decide, rfl⟩ rfl ⟨Nat.le_of_ble_eq_true rfl, Nat.le_of_ble_eq_true rfl⟩ (by decide) (rest := [.ref (w.1 87), .int (1 : Int32), .ref (w.1 73)]) (Nat.le_of_ble_eq_true rfl) dX11_init_115 ⟨Nat.le_of_ble_eq_true rfl, Nat.le_of_ble_eq_true rfl⟩ rfl ?_
  refine ww_aast (pc := 118) hC (a := 73) (t := 87) (n := 5) 18 6 ⟨by decide +kernel, by decide +kernel, by decide +kernel⟩ (by decide) (by decide) rfl ⟨by decide +kernel, by decide +kernel⟩ (by decide) (Or.inl rfl) (by unfold vp_in; decide) (Z' := cZ305) rfl dX11_init_118 ?_
  refine ww_iinc (pc := 119) hC (2 : Int32) [(1, .int (2 : Int32)), (0, .ref (w.1 0))] dX11_init_119 0 rfl (by decide) (by decide) rfl ?_
  refine ww_goto (pc := 122) hC 97 dX11_init_122 (by decide) ?_
  refine ww_iload_n (pc := 97) hC dX11_init_97 0 rfl ?_
  refine ww_aload_n (pc := 98) hC dX11_init_98 1 rfl ?_
  refine ww_getR (pc := 99) hC (i := 0) 11 7 73 ⟨by decide +kernel, by decide +kernel⟩ RX11 (by decide) (by decide) rfl (by decide +kernel) qf_X11_43 rfl dX11_init_99 ?_
  refine ww_alen (pc := 102) hC (n := 5) (d := 18) (5 : Int32) ⟨by decide +kernel, by decide +kernel, by decide +kernel⟩ (by decide) (by decide) (by decide) dX11_init_102 ?_
  refine ww_icmp_ge (pc := 103) hC (x := (2 : Int32)) (y := (5 : Int32)) (d := Classical.propDecidable _) (α := Unit) (f1 := none) (f2 := some ()) (r := ()) (if_neg (by decide)) 125 dX11_init_103 (by decide) (fun q => by cases q) (fun q => ?_)
  refine ww_aload_n (pc := 106) hC dX11_init_106 1 rfl ?_
  refine ww_getR (pc := 107) hC (i := 0) 11 7 73 ⟨by decide +kernel, by decide +kernel⟩ RX11 (by decide) (by decide) rfl (by decide +kernel) qf_X11_43 rfl dX11_init_107 ?_
  refine ww_iload_n (pc := 110) hC dX11_init_110 0 rfl ?_
  refine ww_new (pc := 111) hC 6 (by decide) (ct0 hW _) (n := 100) (by decide +kernel) rfl (Z' := cZ306) rfl (X' := cX307) rfl qk_X11_33 qa_X6 qn_X6 dX11_init_111 (Nat.le_of_ble_eq_true rfl) (Nat.le_of_ble_eq_true rfl) ?_
  refine ww_dup (pc := 114) hC dX11_init_114 rfl ?_
  refine ww_callI (pc := 115) hC [] (mc := 12) (ms := 84) (Z' := cZ345) (X' := cX343) (ciX6_init_29 hW) ql_X11_35 qi_X6_init qn_X6 qc_X6_init rfl ⟨by decide, by decide, rfl⟩ rfl ⟨Nat.le_of_ble_eq_true rfl, Nat.le_of_ble_eq_true rfl⟩ (by decide) (rest := [.ref (w.1 100), .int (2 : Int32), .ref (w.1 73)]) (Nat.le_of_ble_eq_true rfl) dX11_init_115 ⟨Nat.le_of_ble_eq_true rfl, Nat.le_of_ble_eq_true rfl⟩ rfl ?_
  refine ww_aast (pc := 118) hC (a := 73) (t := 100) (n := 5) 18 6 ⟨by decide +kernel, by decide +kernel, by decide +kernel⟩ (by decide) (by decide) rfl ⟨by decide +kernel, by decide +kernel⟩ (by decide) (Or.inl rfl) (by unfold vp_in; decide) (Z' := cZ346) rfl dX11_init_118 ?_
  refine ww_iinc (pc := 119) hC (3 : Int32) [(1, .int (3 : Int32)), (0, .ref (w.1 0))] dX11_init_119 0 rfl (by decide) (by decide) rfl ?_
  refine ww_goto (pc := 122) hC 97 dX11_init_122 (by decide) ?_
  refine ww_iload_n (pc := 97) hC dX11_init_97 0 rfl ?_
  refine ww_aload_n (pc := 98) hC dX11_init_98 1 rfl ?_
  refine ww_getR (pc := 99) hC (i := 0) 11 7 73 ⟨by decide +kernel, by decide +kernel⟩ RX11 (by decide) (by decide) rfl (by decide +kernel) qf_X11_43 rfl dX11_init_99 ?_
  refine ww_alen (pc := 102) hC (n := 5) (d := 18) (5 : Int32) ⟨by decide +kernel, by decide +kernel, by decide +kernel⟩ (by decide) (by decide) (by decide) dX11_init_102 ?_
  refine ww_icmp_ge (pc := 103) hC (x := (3 : Int32)) (y := (5 : Int32)) (d := Classical.propDecidable _) (α := Unit) (f1 := none) (f2 := some ()) (r := ()) (if_neg (by decide)) 125 dX11_init_103 (by decide) (fun q => by cases q) (fun q => ?_)
  refine ww_aload_n (pc := 106) hC dX11_init_106 1 rfl ?_
  refine ww_getR (pc := 107) hC (i := 0) 11 7 73 ⟨by decide +kernel, by decide +kernel⟩ RX11 (by decide) (by decide) rfl (by decide +kernel) qf_X11_43 rfl dX11_init_107 ?_
  refine ww_iload_n (pc := 110) hC dX11_init_110 0 rfl ?_
  refine ww_new (pc := 111) hC 6 (by decide) (ct0 hW _) (n := 113) (by decide +kernel) rfl (Z' := cZ347) rfl (X' := cX348) rfl qk_X11_33 qa_X6 qn_X6 dX11_init_111 (Nat.le_of_ble_eq_true rfl) (Nat.le_of_ble_eq_true rfl) ?_
  refine ww_dup (pc := 114) hC dX11_init_114 rfl ?_
  refine ww_callI (pc := 115) hC [] (mc := 12) (ms := 84) (Z' := cZ386) (X' := cX384) (ciX6_init_34 hW) ql_X11_35 qi_X6_init qn_X6 qc_X6_init rfl ⟨by decide, by decide, rfl⟩ rfl ⟨Nat.le_of_ble_eq_true rfl, Nat.le_of_ble_eq_true rfl⟩ (by decide) (rest := [.ref (w.1 113), .int (3 : Int32), .ref (w.1 73)]) (Nat.le_of_ble_eq_true rfl) dX11_init_115 ⟨Nat.le_of_ble_eq_true rfl, Nat.le_of_ble_eq_true rfl⟩ rfl ?_
  refine ww_aast (pc := 118) hC (a := 73) (t := 113) (n := 5) 18 6 ⟨by decide +kernel, by decide +kernel, by decide +kernel⟩ (by decide) (by decide) rfl ⟨by decide +kernel, by decide +kernel⟩ (by decide) (Or.inl rfl) (by unfold vp_in; decide) (Z' := cZ387) rfl dX11_init_118 ?_
  refine ww_iinc (pc := 119) hC (4 : Int32) [(1, .int (4 : Int32)), (0, .ref (w.1 0))] dX11_init_119 0 rfl (by decide) (by decide) rfl ?_
  refine ww_goto (pc := 122) hC 97 dX11_init_122 (by decide) ?_
  refine ww_iload_n (pc := 97) hC dX11_init_97 0 rfl ?_
  refine ww_aload_n (pc := 98) hC dX11_init_98 1 rfl ?_
  refine ww_getR (pc := 99) hC (i := 0) 11 7 73 ⟨by decide +kernel, by decide +kernel⟩ RX11 (by decide) (by decide) rfl (by decide +kernel) qf_X11_43 rfl dX11_init_99 ?_
  refine ww_alen (pc := 102) hC (n := 5) (d := 18) (5 : Int32) ⟨by decide +kernel, by decide +kernel, by decide +kernel⟩ (by decide) (by decide) (by decide) dX11_init_102 ?_
  refine ww_icmp_ge (pc := 103) hC (x := (4 : Int32)) (y := (5 : Int32)) (d := Classical.propDecidable _) (α := Unit) (f1 := none) (f2 := some ()) (r := ()) (if_neg (by decide)) 125 dX11_init_103 (by decide) (fun q => by cases q) (fun q => ?_)
  refine ww_aload_n (pc := 106) hC dX11_init_106 1 rfl ?_
  refine ww_getR (pc := 107) hC (i := 0) 11 7 73 ⟨by decide +kernel, by decide +kernel⟩ RX11 (by decide) (by decide) rfl (by decide +kernel) qf_X11_43 rfl dX11_init_107 ?_
  refine ww_iload_n (pc := 110) hC dX11_init_110 0 rfl ?_
  refine ww_new (pc := 111) hC 6 (by decide) (ct0 hW _) (n := 126) (by decide +kernel) rfl (Z' := cZ388) rfl (X' := cX389) rfl qk_X11_33 qa_X6 qn_X6 dX11_init_111 (Nat.le_of_ble_eq_true rfl) (Nat.le_of_ble_eq_true rfl) ?_
  refine ww_dup (pc := 114) hC dX11_init_114 rfl ?_
  refine ww_callI (pc := 115) hC [] (mc := 12) (ms := 84) (Z' := cZ427) (X' := cX425) (ciX6_init_39 hW) ql_X11_35 qi_X6_init qn_X6 qc_X6_init rfl ⟨by decide, by decide, rfl⟩ rfl ⟨Nat.le_of_ble_eq_true rfl, Nat.le_of_ble_eq_true rfl⟩ (by decide) (rest := [.ref (w.1 126), .int (4 : Int32), .ref (w.1 73)]) (Nat.le_of_ble_eq_true rfl) dX11_init_115 ⟨Nat.le_of_ble_eq_true rfl, Nat.le_of_ble_eq_true rfl⟩ rfl ?_
  refine ww_aast (pc := 118) hC (a := 73) (t := 126) (n := 5) 18 6 ⟨by decide +kernel, by decide +kernel, by decide +kernel⟩ (by decide) (by decide) rfl ⟨by decide +kernel, by decide +kernel⟩ (by decide) (Or.inl rfl) (by unfold vp_in; decide) (Z' := cZ428) rfl dX11_init_118 ?_
  refine ww_iinc (pc := 119) hC (5 : Int32) [(1, .int (5 : Int32)), (0, .ref (w.1 0))] dX11_init_119 0 rfl (by decide) (by decide) rfl ?_
  refine ww_goto (pc := 122) hC 97 dX11_init_122 (by decide) ?_
  refine ww_iload_n (pc := 97) hC dX11_init_97 0 rfl ?_
  refine ww_aload_n (pc := 98) hC dX11_init_98 1 rfl ?_
  refine ww_getR (pc := 99) hC (i := 0) 11 7 73 ⟨by decide +kernel, by decide +kernel⟩ RX11 (by decide) (by decide) rfl (by decide +kernel) qf_X11_43 rfl dX11_init_99 ?_
  refine ww_alen (pc := 102) hC (n := 5) (d := 18) (5 : Int32) ⟨by decide +kernel, by decide +kernel, by decide +kernel⟩ (by decide) (by decide) (by decide) dX11_init_102 ?_
  refine ww_icmp_ge (pc := 103) hC (x := (5 : Int32)) (y := (5 : Int32)) (d := Classical.propDecidable _) (α := Unit) (f1 := some ()) (f2 := none) (r := ()) (if_pos (by decide)) 125 dX11_init_103 (by decide) (fun q => ?_) (fun q => by cases q)
  refine ww_aload_n (pc := 125) hC dX11_init_125 1 rfl ?_
  refine ww_new (pc := 126) hC 9 (by decide) (ct0 hW _) (n := 139) (by decide +kernel) rfl (Z' := cZ429) rfl (X' := cX430) rfl qk_X11_47 qa_X9 qn_X9 dX11_init_126 (Nat.le_of_ble_eq_true rfl) (Nat.le_of_ble_eq_true rfl) ?_
  refine ww_dup (pc := 129) hC dX11_init_129 rfl ?_
  refine ww_callI (pc := 130) hC [] (mc := 2) (ms := 6) (Z' := cZ436) (X' := cX435) (ciX9_init_44 hW) ql_X11_49 qi_X9_init qn_X9 qc_X9_init rfl ⟨by decide, by decide, rfl⟩ rfl ⟨Nat.le_of_ble_eq_true rfl, Nat.le_of_ble_eq_true rfl⟩ (by decide) (rest := [.ref (w.1 139), .ref (w.1 0)]) (Nat.le_of_ble_eq_true rfl) dX11_init_130 ⟨Nat.le_of_ble_eq_true rfl, Nat.le_of_ble_eq_true rfl⟩ rfl ?_
  refine ww_putR (pc := 133) hC (i := 0) (t := 139) 11 8 ⟨by decide +kernel, by decide +kernel⟩ RX11 (by decide) (by decide) rfl qf_X11_50 rfl hin rfl rfl rfl rfl (Z' := cZ437) rfl dX11_init_133 ?_
  refine ww_aload_n (pc := 136) hC dX11_init_136 1 rfl ?_
  refine ww_new (pc := 137) hC 3 (by decide) (ct0 hW _) (n := 142) (by decide +kernel) rfl (Z' := cZ438) rfl (X' := cX439) rfl qk_X11_24 qa_X3 qn_X3 dX11_init_137 (Nat.le_of_ble_eq_true rfl) (Nat.le_of_ble_eq_true rfl) ?_
  refine ww_dup (pc := 140) hC dX11_init_140 rfl ?_
  refine ww_bipush (pc := 141) hC (v := (20 : Int32)) dX11_init_141 (by decide) ?_
  refine ww_callI (pc := 143) hC [.int (20 : Int32)] (mc := 1) (ms := 20) (Z' := cZ442) (X' := cX441) (ciX3_init_45 hW) ql_X11_26 qi_X3_init qn_X3 qc_X3_init rfl ⟨by decide, by decide, rfl⟩ rfl ⟨Nat.le_of_ble_eq_true rfl, Nat.le_of_ble_eq_true rfl⟩ (by decide) (rest := [.ref (w.1 142), .ref (w.1 0)]) (Nat.le_of_ble_eq_true rfl) dX11_init_143 ⟨Nat.le_of_ble_eq_true rfl, Nat.le_of_ble_eq_true rfl⟩ rfl ?_
  refine ww_putR (pc := 146) hC (i := 0) (t := 142) 11 9 ⟨by decide +kernel, by decide +kernel⟩ RX11 (by decide) (by decide) rfl qf_X11_54 rfl hin rfl rfl rfl rfl (Z' := cZ443) rfl dX11_init_146 ?_
  refine ww_aload_n (pc := 149) hC dX11_init_149 1 rfl ?_
  refine ww_bipush (pc := 150) hC (v := (6 : Int32)) dX11_init_150 (by decide) ?_
  refine ww_bipush (pc := 152) hC (v := (60 : Int32)) dX11_init_152 (by decide) ?_
  refine ww_mna (pc := 154) hC (ct0 hW _) (n := 144) (by decide +kernel) (by decide) (by decide) (N := 6) (K := 60) (by decide) (by decide) (by decide) (Z' := cZ444) rfl (X' := cX445) rfl qk_X11_57 qy_FieldType_long dX11_init_154 (Nat.le_of_ble_eq_true rfl) (Nat.le_of_ble_eq_true rfl) ?_
  refine ww_putR (pc := 158) hC (i := 0) (t := 144) 11 10 ⟨by decide +kernel, by decide +kernel⟩ RX11 (by decide) (by decide) rfl qf_X11_59 rfl hin rfl rfl rfl rfl (Z' := cZ446) rfl dX11_init_158 ?_
  refine ww_aload_n (pc := 161) hC dX11_init_161 1 rfl ?_
  refine ww_bipush (pc := 162) hC (v := (6 : Int32)) dX11_init_162 (by decide) ?_
  refine ww_newa (pc := 164) hC 13 (by decide) (by decide) rfl (ct0 hW _) (n := 151) (by decide +kernel) (by decide) (N := 6) (by decide) (Z' := cZ447) rfl (X' := cX448) rfl (by decide) qy_FieldType_int dX11_init_164 (Nat.le_of_ble_eq_true rfl) (Nat.le_of_ble_eq_true rfl) ?_
  refine ww_putR (pc := 166) hC (i := 0) (t := 151) 11 11 ⟨by decide +kernel, by decide +kernel⟩ RX11 (by decide) (by decide) rfl qf_X11_62 rfl hin rfl rfl rfl rfl (Z' := cZ449) rfl dX11_init_166 ?_
  refine ww_aload_n (pc := 169) hC dX11_init_169 1 rfl ?_
  refine ww_getR (pc := 170) hC (i := 0) 11 11 151 ⟨by decide +kernel, by decide +kernel⟩ RX11 (by decide) (by decide) rfl (by decide +kernel) qf_X11_62 rfl dX11_init_170 ?_
  refine ww_iconst (pc := 173) hC (v := (-1 : Int32)) dX11_init_173 (by decide) ?_
  refine ww_callSv (pc := 174) hC [.ref (w.1 151), .int (-1 : Int32)] (X' := cX450) (ceJ7_fill_53178 (show KA cZ449 151 13 (sL cZ449 151) from ⟨by decide +kernel, by decide +kernel, rfl⟩) (fill_eq (n := 6) (by decide) (show sL cZ449 151 = 6 by decide +kernel))) ql_X11_66 qt_J7_fill_53178 qn_J7 qc_J7_fill_53178 ⟨by decide, by decide, rfl⟩ rfl ⟨Nat.le_of_ble_eq_true rfl, Nat.le_of_ble_eq_true rfl⟩ (by decide) (rest := []) (Nat.le_of_ble_eq_true rfl) dX11_init_174 ⟨Nat.le_of_ble_eq_true rfl, Nat.le_of_ble_eq_true rfl⟩ rfl ?_
  refine ww_aload_n (pc := 177) hC dX11_init_177 1 rfl ?_
  refine ww_bipush (pc := 178) hC (v := (6 : Int32)) dX11_init_178 (by decide) ?_
  refine ww_newa (pc := 180) hC 13 (by decide) (by decide) rfl (ct0 hW _) (n := 152) (by decide +kernel) (by decide) (N := 6) (by decide) (Z' := cZ451) rfl (X' := cX452) rfl (by decide) qy_FieldType_int dX11_init_180 (Nat.le_of_ble_eq_true rfl) (Nat.le_of_ble_eq_true rfl) ?_
  refine ww_putR (pc := 182) hC (i := 0) (t := 152) 11 12 ⟨by decide +kernel, by decide +kernel⟩ RX11 (by decide) (by decide) rfl qf_X11_72 rfl hin rfl rfl rfl rfl (Z' := cZ453) rfl dX11_init_182 ?_
  refine ww_aload_n (pc := 185) hC dX11_init_185 1 rfl ?_
  refine ww_iconst (pc := 186) hC (v := (5 : Int32)) dX11_init_186 (by decide) ?_
  refine ww_newa (pc := 187) hC 14 (by decide) (by decide) rfl (ct0 hW _) (n := 153) (by decide +kernel) (by decide) (N := 5) (by decide) (Z' := cZ454) rfl (X' := cX455) rfl (by decide) qy_FieldType_long dX11_init_187 (Nat.le_of_ble_eq_true rfl) (Nat.le_of_ble_eq_true rfl) ?_
  refine ww_putR (pc := 189) hC (i := 0) (t := 153) 11 13 ⟨by decide +kernel, by decide +kernel⟩ RX11 (by decide) (by decide) rfl qf_X11_75 rfl hin rfl rfl rfl rfl (Z' := cZ456) rfl dX11_init_189 ?_
  refine ww_aload_n (pc := 192) hC dX11_init_192 1 rfl ?_
  refine ww_iconst (pc := 193) hC (v := (5 : Int32)) dX11_init_193 (by decide) ?_
  refine ww_newa (pc := 194) hC 14 (by decide) (by decide) rfl (ct0 hW _) (n := 154) (by decide +kernel) (by decide) (N := 5) (by decide) (Z' := cZ457) rfl (X' := cX458) rfl (by decide) qy_FieldType_long dX11_init_194 (Nat.le_of_ble_eq_true rfl) (Nat.le_of_ble_eq_true rfl) ?_
  refine ww_putR (pc := 196) hC (i := 0) (t := 154) 11 14 ⟨by decide +kernel, by decide +kernel⟩ RX11 (by decide) (by decide) rfl qf_X11_79 rfl hin rfl rfl rfl rfl (Z' := cZ459) rfl dX11_init_196 ?_
  refine ww_aload_n (pc := 199) hC dX11_init_199 1 rfl ?_
  refine ww_iconst (pc := 200) hC (v := (4 : Int32)) dX11_init_200 (by decide) ?_
  refine ww_newa (pc := 201) hC 13 (by decide) (by decide) rfl (ct0 hW _) (n := 155) (by decide +kernel) (by decide) (N := 4) (by decide) (Z' := cZ460) rfl (X' := cX461) rfl (by decide) qy_FieldType_int dX11_init_201 (Nat.le_of_ble_eq_true rfl) (Nat.le_of_ble_eq_true rfl) ?_
  refine ww_putR (pc := 203) hC (i := 0) (t := 155) 11 15 ⟨by decide +kernel, by decide +kernel⟩ RX11 (by decide) (by decide) rfl qf_X11_82 rfl hin rfl rfl rfl rfl (Z' := cZ462) rfl dX11_init_203 ?_
  refine ww_aload_n (pc := 206) hC dX11_init_206 1 rfl ?_
  refine ww_iconst (pc := 207) hC (v := (4 : Int32)) dX11_init_207 (by decide) ?_
  refine ww_newa (pc := 208) hC 13 (by decide) (by decide) rfl (ct0 hW _) (n := 156) (by decide +kernel) (by decide) (N := 4) (by decide) (Z' := cZ463) rfl (X' := cX464) rfl (by decide) qy_FieldType_int dX11_init_208 (Nat.le_of_ble_eq_true rfl) (Nat.le_of_ble_eq_true rfl) ?_
  refine ww_putR (pc := 210) hC (i := 0) (t := 156) 11 16 ⟨by decide +kernel, by decide +kernel⟩ RX11 (by decide) (by decide) rfl qf_X11_85 rfl hin rfl rfl rfl rfl (Z' := cZ465) rfl dX11_init_210 ?_
  exact ww_vret (pc := 213) hC hr (u := ()) (r := ()) rfl dX11_init_213
abbrev cZE : XS := cZ465
abbrev cXE : XD := cX464
