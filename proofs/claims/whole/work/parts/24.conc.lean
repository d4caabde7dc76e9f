/-! references lead to what is there -/
def RC (Z : XS) : Prop := ∀ i j t, sR Z i j = some t → t < sn Z
theorem RC.o {Z : XS} {n d : Nat} (h : RC Z) (hn : sn Z = n) : RC (newO n Z d) := by
  subst hn
  intro i j t q
  have q : (if i = sn Z then fun _ => none else sR Z i) j = some t := q
  by_cases e : i = sn Z
  · rw [if_pos e] at q; cases q
  · rw [if_neg e] at q; exact Nat.lt_succ_of_lt (h i j t q)
theorem RC.a {Z : XS} {n d k : Nat} (h : RC Z) (hn : sn Z = n) : RC (newA n Z d k) := by
  subst hn
  intro i j t q
  have q : (if i = sn Z then fun _ => none else sR Z i) j = some t := q
  by_cases e : i = sn Z
  · rw [if_pos e] at q; cases q
  · rw [if_neg e] at q; exact Nat.lt_succ_of_lt (h i j t q)
theorem RC.m {Z : XS} {n N K : Nat} (h : RC Z) (hn : sn Z = n) : RC (newM n Z N K) := by
  subst hn
  intro i j t q
  have q : (if i = sn Z then fun j => if j < N then some (sn Z + 1 + j) else none else sR Z i) j = some t := q
  show t < sn Z + 1 + N
  by_cases e : i = sn Z
  · rw [if_pos e] at q
    by_cases e2 : j < N
    · have q : (if j < N then some (sn Z + 1 + j) else none) = some t := q
      rw [if_pos e2] at q
      have := Option.some.inj q
      omega
    · have q : (if j < N then some (sn Z + 1 + j) else none) = some t := q
      rw [if_neg e2] at q; cases q
  · rw [if_neg e] at q
    have := h i j t q
    omega
theorem RC.s {Z : XS} {i k t : Nat} (h : RC Z) (ht : t < sn Z) : RC (stR Z i k t) := by
  intro b j t' q
  have q : (if b = i ∧ j = k then some t else sR Z b j) = some t' := q
  show t' < sn Z
  by_cases e : b = i ∧ j = k
  · rw [if_pos e] at q; rw [← Option.some.inj q]; exact ht
  · rw [if_neg e] at q; exact h b j t' q
theorem rc_cZ0 : RC cZ0 := RC.o (Z := zE) (fun _ _ _ h => by cases h) rfl
/-! data of a row filled with one number -/
def fillI (X : XD) (a n : Nat) (v : Int32) : XD := (fun q => if q = a then fun j => if j < n then v else X.1 a j else X.1 q, X.2)
theorem fillI_0 (X : XD) (a : Nat) (v : Int32) : fillI X a 0 v = X := by
  unfold fillI
  refine Prod.ext ?_ rfl
  funext q
  by_cases h : q = a
  · subst h; simp
  · simp [h]
theorem fillI_s (X : XD) (a k : Nat) (v : Int32) : wI (fillI X a k v) a k v = fillI X a (k + 1) v := by
  unfold fillI wI up2
  refine Prod.ext ?_ rfl
  funext q j
  by_cases h : q = a
  · subst h
    by_cases hj : j = k
    · subst hj; simp
    · by_cases hk : j < k
      · simp [hj, hk, show j < k + 1 by omega]
      · simp [hj, hk, show ¬ j < k + 1 by omega]
  · simp [h]
theorem i32n {k : Nat} (h : k < 2147483648) : (Int32.ofNat k).toNatClampNeg = k := by
  rw [Int32.toNatClampNeg, Int32.toInt_ofNat_of_lt (by omega)]; rfl
theorem fill_lp {Z : XS} {a n : Nat} {v : Int32} {X : XD} (hn : n ≤ 1000) (hl : sL Z a = n) : ∀ (d k m : Nat), k + d = n → d < m → fJ7_fill_53178_5 Z a m v (Int32.ofNat k) (Int32.ofNat n) (fillI X a k v) = some ((), fillI X a n v) := by
  intro d
  induction d with
  | zero =>
    intro k m h1 h2
    obtain ⟨m, rfl⟩ : ∃ q, m = q + 1 := ⟨m - 1, by omega⟩
    rw [fJ7_fill_53178_5_s, if_pos]
    · rw [show k = n by omega]
    · rw [show k = n by omega]; exact Int32.le_refl _
  | succ d ih =>
    intro k m h1 h2
    obtain ⟨m, rfl⟩ : ∃ q, m = q + 1 := ⟨m - 1, by omega⟩
    have e1 : (Int32.ofNat k).toInt = k := Int32.toInt_ofNat_of_lt (by omega)
    have e2 : (Int32.ofNat n).toInt = n := Int32.toInt_ofNat_of_lt (by omega)
    rw [fJ7_fill_53178_5_s, if_neg (by rw [Int32.le_iff_toInt_le, e1, e2]; omega)]
    unfold gin nm
    rw [hl, if_neg (by
      rw [Int32.lt_iff_toInt_lt, e1, i32n (by omega)]
      have : (0 : Int32).toInt = 0 := rfl
      omega)]
    rw [i32n (by omega), fillI_s, show Int32.ofNat k + 1 = Int32.ofNat (k + 1) from (Int32.ofNat_add k 1).symm]
    exact ih (k + 1) m (by omega) (by omega)
theorem fill_eq {Z : XS} {a n : Nat} {v : Int32} {X : XD} (hn : n ≤ 1000) (hl : sL Z a = n) : fJ7_fill_53178 Z a v X = some ((), fillI X a n v) := by
  unfold fJ7_fill_53178 nm
  rw [hl]
  have := fill_lp (v := v) (X := X) hn hl n 0 FU (by omega) (by unfold FU; omega)
  rw [fillI_0] at this
  exact this
def cZ1 : XS := newA 1 cZ0 17 6
theorem rc_cZ1 : RC cZ1 := RC.a rc_cZ0 (by decide +kernel)
def cX2 : XD := zX cX0 1
def cZ3 : XS := stR cZ1 0 0 1
theorem rc_cZ3 : RC cZ3 := RC.s rc_cZ1 (by decide +kernel)
def cZ4 : XS := newA 2 cZ3 16 6
theorem rc_cZ4 : RC cZ4 := RC.a rc_cZ3 (by decide +kernel)
def cX5 : XD := zX cX2 2
def cZ6 : XS := stR cZ4 0 1 2
theorem rc_cZ6 : RC cZ6 := RC.s rc_cZ4 (by decide +kernel)
def cZ7 : XS := newO 3 cZ6 1
theorem rc_cZ7 : RC cZ7 := RC.o rc_cZ6 (by decide +kernel)
def cX8 : XD := zX cX5 3
def cZ9 : XS := newA 4 cZ7 13 10
theorem rc_cZ9 : RC cZ9 := RC.a rc_cZ7 (by decide +kernel)
def cX10 : XD := zX cX8 4
def cZ11 : XS := stR cZ9 3 0 4
theorem rc_cZ11 : RC cZ11 := RC.s rc_cZ9 (by decide +kernel)
def cZ12 : XS := newA 5 cZ11 13 10
theorem rc_cZ12 : RC cZ12 := RC.a rc_cZ11 (by decide +kernel)
def cX13 : XD := zX cX10 5
def cZ14 : XS := stR cZ12 3 1 5
theorem rc_cZ14 : RC cZ14 := RC.s rc_cZ12 (by decide +kernel)
def cZ15 : XS := newA 6 cZ14 13 10
theorem rc_cZ15 : RC cZ15 := RC.a rc_cZ14 (by decide +kernel)
def cX16 : XD := zX cX13 6
def cZ17 : XS := stR cZ15 3 2 6
theorem rc_cZ17 : RC cZ17 := RC.s rc_cZ15 (by decide +kernel)
def cZ18 : XS := newA 7 cZ17 13 10
theorem rc_cZ18 : RC cZ18 := RC.a rc_cZ17 (by decide +kernel)
def cX19 : XD := zX cX16 7
def cZ20 : XS := stR cZ18 3 3 7
theorem rc_cZ20 : RC cZ20 := RC.s rc_cZ18 (by decide +kernel)
def cZ21 : XS := newA 8 cZ20 13 100
theorem rc_cZ21 : RC cZ21 := RC.a rc_cZ20 (by decide +kernel)
def cX22 : XD := zX cX19 8
def cZ23 : XS := stR cZ21 3 5 8
theorem rc_cZ23 : RC cZ23 := RC.s rc_cZ21 (by decide +kernel)
def cZ24 : XS := newA 9 cZ23 13 6
theorem rc_cZ24 : RC cZ24 := RC.a rc_cZ23 (by decide +kernel)
def cX25 : XD := zX cX22 9
def cZ26 : XS := stR cZ24 3 8 9
theorem rc_cZ26 : RC cZ26 := RC.s rc_cZ24 (by decide +kernel)
set_option maxHeartbeats 40000000 in
set_option maxRecDepth 100000 in
theorem ciX1_init_2 {l : Launch} {E : XE} {w : XW} (hW : ∀ i : Nat, w.1 i = w.1 0 + i) : Ct l E w yX1_init (wsM yX1_init cX1_init 1 none) (rmX 1 6 146) 6 146 [.ref (w.1 3)] (w.1 (sn cZ7)) (w.1 (sn cZ26)) cZ7 cZ26 cX8 cX25 none := by
  refine ct_of (by decide) (Nat.le_of_ble_eq_true rfl) ?_
  intro p e s m args below meth c hC hr hin hav
  refine ww_lv (lv' := [(0, .ref (w.1 3))]) rfl ?_
  refine ww_aload_n (pc := 0) hC dX1_init_0 0 rfl ?_
  refine ww_objInit (pc := 1) hC ql_X1_3 qi_java_lang_Object__init_ qc_java_lang_Object__init_ dX1_init_1 ⟨Nat.le_of_ble_eq_true rfl, Nat.le_of_ble_eq_true rfl⟩ (Nat.le_of_ble_eq_true rfl) ?_
  refine ww_aload_n (pc := 4) hC dX1_init_4 0 rfl ?_
  refine ww_bipush (pc := 5) hC (v := (10 : Int32)) dX1_init_5 (by decide) ?_
  refine ww_newa (pc := 7) hC 13 (by decide) (by decide) rfl (ct0 hW _) (n := 4) (by decide +kernel) (by decide) (N := 10) (by decide) (Z' := cZ9) rfl (X' := cX10) rfl (by decide) qy_FieldType_int dX1_init_7 (Nat.le_of_ble_eq_true rfl) (Nat.le_of_ble_eq_true rfl) ?_
  refine ww_putR (pc := 9) hC (i := 3) (t := 4) 1 0 ⟨by decide +kernel, by decide +kernel⟩ RX1 (by decide) (by decide) rfl qf_X1_9 rfl hin rfl rfl rfl rfl (Z' := cZ11) rfl dX1_init_9 ?_
  refine ww_aload_n (pc := 12) hC dX1_init_12 0 rfl ?_
  refine ww_bipush (pc := 13) hC (v := (10 : Int32)) dX1_init_13 (by decide) ?_
  refine ww_newa (pc := 15) hC 13 (by decide) (by decide) rfl (ct0 hW _) (n := 5) (by decide +kernel) (by decide) (N := 10) (by decide) (Z' := cZ12) rfl (X' := cX13) rfl (by decide) qy_FieldType_int dX1_init_15 (Nat.le_of_ble_eq_true rfl) (Nat.le_of_ble_eq_true rfl) ?_
  refine ww_putR (pc := 17) hC (i := 3) (t := 5) 1 1 ⟨by decide +kernel, by decide +kernel⟩ RX1 (by decide) (by decide) rfl qf_X1_15 rfl hin rfl rfl rfl rfl (Z' := cZ14) rfl dX1_init_17 ?_
  refine ww_aload_n (pc := 20) hC dX1_init_20 0 rfl ?_
  refine ww_bipush (pc := 21) hC (v := (10 : Int32)) dX1_init_21 (by decide) ?_
  refine ww_newa (pc := 23) hC 13 (by decide) (by decide) rfl (ct0 hW _) (n := 6) (by decide +kernel) (by decide) (N := 10) (by decide) (Z' := cZ15) rfl (X' := cX16) rfl (by decide) qy_FieldType_int dX1_init_23 (Nat.le_of_ble_eq_true rfl) (Nat.le_of_ble_eq_true rfl) ?_
  refine ww_putR (pc := 25) hC (i := 3) (t := 6) 1 2 ⟨by decide +kernel, by decide +kernel⟩ RX1 (by decide) (by decide) rfl qf_X1_18 rfl hin rfl rfl rfl rfl (Z' := cZ17) rfl dX1_init_25 ?_
  refine ww_aload_n (pc := 28) hC dX1_init_28 0 rfl ?_
  refine ww_bipush (pc := 29) hC (v := (10 : Int32)) dX1_init_29 (by decide) ?_
  refine ww_newa (pc := 31) hC 13 (by decide) (by decide) rfl (ct0 hW _) (n := 7) (by decide +kernel) (by decide) (N := 10) (by decide) (Z' := cZ18) rfl (X' := cX19) rfl (by decide) qy_FieldType_int dX1_init_31 (Nat.le_of_ble_eq_true rfl) (Nat.le_of_ble_eq_true rfl) ?_
  refine ww_putR (pc := 33) hC (i := 3) (t := 7) 1 3 ⟨by decide +kernel, by decide +kernel⟩ RX1 (by decide) (by decide) rfl qf_X1_21 rfl hin rfl rfl rfl rfl (Z' := cZ20) rfl dX1_init_33 ?_
  refine ww_aload_n (pc := 36) hC dX1_init_36 0 rfl ?_
  refine ww_bipush (pc := 37) hC (v := (100 : Int32)) dX1_init_37 (by decide) ?_
  refine ww_newa (pc := 39) hC 13 (by decide) (by decide) rfl (ct0 hW _) (n := 8) (by decide +kernel) (by decide) (N := 100) (by decide) (Z' := cZ21) rfl (X' := cX22) rfl (by decide) qy_FieldType_int dX1_init_39 (Nat.le_of_ble_eq_true rfl) (Nat.le_of_ble_eq_true rfl) ?_
  refine ww_putR (pc := 41) hC (i := 3) (t := 8) 1 5 ⟨by decide +kernel, by decide +kernel⟩ RX1 (by decide) (by decide) rfl qf_X1_24 rfl hin rfl rfl rfl rfl (Z' := cZ23) rfl dX1_init_41 ?_
  refine ww_aload_n (pc := 44) hC dX1_init_44 0 rfl ?_
  refine ww_bipush (pc := 45) hC (v := (6 : Int32)) dX1_init_45 (by decide) ?_
  refine ww_newa (pc := 47) hC 13 (by decide) (by decide) rfl (ct0 hW _) (n := 9) (by decide +kernel) (by decide) (N := 6) (by decide) (Z' := cZ24) rfl (X' := cX25) rfl (by decide) qy_FieldType_int dX1_init_47 (Nat.le_of_ble_eq_true rfl) (Nat.le_of_ble_eq_true rfl) ?_
  refine ww_putR (pc := 49) hC (i := 3) (t := 9) 1 8 ⟨by decide +kernel, by decide +kernel⟩ RX1 (by decide) (by decide) rfl qf_X1_27 rfl hin rfl rfl rfl rfl (Z' := cZ26) rfl dX1_init_49 ?_
  exact ww_vret (pc := 52) hC hr (u := ()) (r := ()) rfl dX1_init_52
def cZ27 : XS := stR cZ26 2 0 3
theorem rc_cZ27 : RC cZ27 := RC.s rc_cZ26 (by decide +kernel)
def cZ28 : XS := newO 10 cZ27 1
theorem rc_cZ28 : RC cZ28 := RC.o rc_cZ27 (by decide +kernel)
def cX29 : XD := zX cX25 10
def cZ30 : XS := newA 11 cZ28 13 10
theorem rc_cZ30 : RC cZ30 := RC.a rc_cZ28 (by decide +kernel)
def cX31 : XD := zX cX29 11
def cZ32 : XS := stR cZ30 10 0 11
theorem rc_cZ32 : RC cZ32 := RC.s rc_cZ30 (by decide +kernel)
def cZ33 : XS := newA 12 cZ32 13 10
theorem rc_cZ33 : RC cZ33 := RC.a rc_cZ32 (by decide +kernel)
def cX34 : XD := zX cX31 12
def cZ35 : XS := stR cZ33 10 1 12
theorem rc_cZ35 : RC cZ35 := RC.s rc_cZ33 (by decide +kernel)
def cZ36 : XS := newA 13 cZ35 13 10
theorem rc_cZ36 : RC cZ36 := RC.a rc_cZ35 (by decide +kernel)
def cX37 : XD := zX cX34 13
def cZ38 : XS := stR cZ36 10 2 13
theorem rc_cZ38 : RC cZ38 := RC.s rc_cZ36 (by decide +kernel)
def cZ39 : XS := newA 14 cZ38 13 10
theorem rc_cZ39 : RC cZ39 := RC.a rc_cZ38 (by decide +kernel)
def cX40 : XD := zX cX37 14
def cZ41 : XS := stR cZ39 10 3 14
theorem rc_cZ41 : RC cZ41 := RC.s rc_cZ39 (by decide +kernel)
def cZ42 : XS := newA 15 cZ41 13 100
theorem rc_cZ42 : RC cZ42 := RC.a rc_cZ41 (by decide +kernel)
def cX43 : XD := zX cX40 15
def cZ44 : XS := stR cZ42 10 5 15
theorem rc_cZ44 : RC cZ44 := RC.s rc_cZ42 (by decide +kernel)
def cZ45 : XS := newA 16 cZ44 13 6
theorem rc_cZ45 : RC cZ45 := RC.a rc_cZ44 (by decide +kernel)
def cX46 : XD := zX cX43 16
def cZ47 : XS := stR cZ45 10 8 16
theorem rc_cZ47 : RC cZ47 := RC.s rc_cZ45 (by decide +kernel)
set_option maxHeartbeats 40000000 in
set_option maxRecDepth 100000 in
theorem ciX1_init_3 {l : Launch} {E : XE} {w : XW} (hW : ∀ i : Nat, w.1 i = w.1 0 + i) : Ct l E w yX1_init (wsM yX1_init cX1_init 1 none) (rmX 1 6 146) 6 146 [.ref (w.1 10)] (w.1 (sn cZ28)) (w.1 (sn cZ47)) cZ28 cZ47 cX29 cX46 none := by
  refine ct_of (by decide) (Nat.le_of_ble_eq_true rfl) ?_
  intro p e s m args below meth c hC hr hin hav
  refine ww_lv (lv' := [(0, .ref (w.1 10))]) rfl ?_
  refine ww_aload_n (pc := 0) hC dX1_init_0 0 rfl ?_
  refine ww_objInit (pc := 1) hC ql_X1_3 qi_java_lang_Object__init_ qc_java_lang_Object__init_ dX1_init_1 ⟨Nat.le_of_ble_eq_true rfl, Nat.le_of_ble_eq_true rfl⟩ (Nat.le_of_ble_eq_true rfl) ?_
  refine ww_aload_n (pc := 4) hC dX1_init_4 0 rfl ?_
  refine ww_bipush (pc := 5) hC (v := (10 : Int32)) dX1_init_5 (by decide) ?_
  refine ww_newa (pc := 7) hC 13 (by decide) (by decide) rfl (ct0 hW _) (n := 11) (by decide +kernel) (by decide) (N := 10) (by decide) (Z' := cZ30) rfl (X' := cX31) rfl (by decide) qy_FieldType_int dX1_init_7 (Nat.le_of_ble_eq_true rfl) (Nat.le_of_ble_eq_true rfl) ?_
  refine ww_putR (pc := 9) hC (i := 10) (t := 11) 1 0 ⟨by decide +kernel, by decide +kernel⟩ RX1 (by decide) (by decide) rfl qf_X1_9 rfl hin rfl rfl rfl rfl (Z' := cZ32) rfl dX1_init_9 ?_
  refine ww_aload_n (pc := 12) hC dX1_init_12 0 rfl ?_
  refine ww_bipush (pc := 13) hC (v := (10 : Int32)) dX1_init_13 (by decide) ?_
  refine ww_newa (pc := 15) hC 13 (by decide) (by decide) rfl (ct0 hW _) (n := 12) (by decide +kernel) (by decide) (N := 10) (by decide) (Z' := cZ33) rfl (X' := cX34) rfl (by decide) qy_FieldType_int dX1_init_15 (Nat.le_of_ble_eq_true rfl) (Nat.le_of_ble_eq_true rfl) ?_
  refine ww_putR (pc := 17) hC (i := 10) (t := 12) 1 1 ⟨by decide +kernel, by decide +kernel⟩ RX1 (by decide) (by decide) rfl qf_X1_15 rfl hin rfl rfl rfl rfl (Z' := cZ35) rfl dX1_init_17 ?_
  refine ww_aload_n (pc := 20) hC dX1_init_20 0 rfl ?_
  refine ww_bipush (pc := 21) hC (v := (10 : Int32)) dX1_init_21 (by decide) ?_
  refine ww_newa (pc := 23) hC 13 (by decide) (by decide) rfl (ct0 hW _) (n := 13) (by decide +kernel) (by decide) (N := 10) (by decide) (Z' := cZ36) rfl (X' := cX37) rfl (by decide) qy_FieldType_int dX1_init_23 (Nat.le_of_ble_eq_true rfl) (Nat.le_of_ble_eq_true rfl) ?_
  refine ww_putR (pc := 25) hC (i := 10) (t := 13) 1 2 ⟨by decide +kernel, by decide +kernel⟩ RX1 (by decide) (by decide) rfl qf_X1_18 rfl hin rfl rfl rfl rfl (Z' := cZ38) rfl dX1_init_25 ?_
  refine ww_aload_n (pc := 28) hC dX1_init_28 0 rfl ?_
  refine ww_bipush (pc := 29) hC (v := (10 : Int32)) dX1_init_29 (by decide) ?_
  refine ww_newa (pc := 31) hC 13 (by decide) (by decide) rfl (ct0 hW _) (n := 14) (by decide +kernel) (by decide) (N := 10) (by decide) (Z' := cZ39) rfl (X' := cX40) rfl (by decide) qy_FieldType_int dX1_init_31 (Nat.le_of_ble_eq_true rfl) (Nat.le_of_ble_eq_true rfl) ?_
  refine ww_putR (pc := 33) hC (i := 10) (t := 14) 1 3 ⟨by decide +kernel, by decide +kernel⟩ RX1 (by decide) (by decide) rfl qf_X1_21 rfl hin rfl rfl rfl rfl (Z' := cZ41) rfl dX1_init_33 ?_
  refine ww_aload_n (pc := 36) hC dX1_init_36 0 rfl ?_
  refine ww_bipush (pc := 37) hC (v := (100 : Int32)) dX1_init_37 (by decide) ?_
  refine ww_newa (pc := 39) hC 13 (by decide) (by decide) rfl (ct0 hW _) (n := 15) (by decide +kernel) (by decide) (N := 100) (by decide) (Z' := cZ42) rfl (X' := cX43) rfl (by decide) qy_FieldType_int dX1_init_39 (Nat.le_of_ble_eq_true rfl) (Nat.le_of_ble_eq_true rfl) ?_
  refine ww_putR (pc := 41) hC (i := 10) (t := 15) 1 5 ⟨by decide +kernel, by decide +kernel⟩ RX1 (by decide) (by decide) rfl qf_X1_24 rfl hin rfl rfl rfl rfl (Z' := cZ44) rfl dX1_init_41 ?_
  refine ww_aload_n (pc := 44) hC dX1_init_44 0 rfl ?_
  refine ww_bipush (pc := 45) hC (v := (6 : Int32)) dX1_init_45 (by decide) ?_
  refine ww_newa (pc := 47) hC 13 (by decide) (by decide) rfl (ct0 hW _) (n := 16) (by decide +kernel) (by decide) (N := 6) (by decide) (Z' := cZ45) rfl (X' := cX46) rfl (by decide) qy_FieldType_int dX1_init_47 (Nat.le_of_ble_eq_true rfl) (Nat.le_of_ble_eq_true rfl) ?_
  refine ww_putR (pc := 49) hC (i := 10) (t := 16) 1 8 ⟨by decide +kernel, by decide +kernel⟩ RX1 (by decide) (by decide) rfl qf_X1_27 rfl hin rfl rfl rfl rfl (Z' := cZ47) rfl dX1_init_49 ?_
  exact ww_vret (pc := 52) hC hr (u := ()) (r := ()) rfl dX1_init_52
def cZ48 : XS := stR cZ47 2 1 10
theorem rc_cZ48 : RC cZ48 := RC.s rc_cZ47 (by decide +kernel)
def cZ49 : XS := newO 17 cZ48 1
theorem rc_cZ49 : RC cZ49 := RC.o rc_cZ48 (by decide +kernel)
def cX50 : XD := zX cX46 17
def cZ51 : XS := newA 18 cZ49 13 10
theorem rc_cZ51 : RC cZ51 := RC.a rc_cZ49 (by decide +kernel)
def cX52 : XD := zX cX50 18
def cZ53 : XS := stR cZ51 17 0 18
theorem rc_cZ53 : RC cZ53 := RC.s rc_cZ51 (by decide +kernel)
def cZ54 : XS := newA 19 cZ53 13 10
theorem rc_cZ54 : RC cZ54 := RC.a rc_cZ53 (by decide +kernel)
def cX55 : XD := zX cX52 19
def cZ56 : XS := stR cZ54 17 1 19
theorem rc_cZ56 : RC cZ56 := RC.s rc_cZ54 (by decide +kernel)
def cZ57 : XS := newA 20 cZ56 13 10
theorem rc_cZ57 : RC cZ57 := RC.a rc_cZ56 (by decide +kernel)
def cX58 : XD := zX cX55 20
def cZ59 : XS := stR cZ57 17 2 20
theorem rc_cZ59 : RC cZ59 := RC.s rc_cZ57 (by decide +kernel)
def cZ60 : XS := newA 21 cZ59 13 10
theorem rc_cZ60 : RC cZ60 := RC.a rc_cZ59 (by decide +kernel)
def cX61 : XD := zX cX58 21
def cZ62 : XS := stR cZ60 17 3 21
theorem rc_cZ62 : RC cZ62 := RC.s rc_cZ60 (by decide +kernel)
def cZ63 : XS := newA 22 cZ62 13 100
theorem rc_cZ63 : RC cZ63 := RC.a rc_cZ62 (by decide +kernel)
def cX64 : XD := zX cX61 22
def cZ65 : XS := stR cZ63 17 5 22
theorem rc_cZ65 : RC cZ65 := RC.s rc_cZ63 (by decide +kernel)
def cZ66 : XS := newA 23 cZ65 13 6
theorem rc_cZ66 : RC cZ66 := RC.a rc_cZ65 (by decide +kernel)
def cX67 : XD := zX cX64 23
def cZ68 : XS := stR cZ66 17 8 23
theorem rc_cZ68 : RC cZ68 := RC.s rc_cZ66 (by decide +kernel)
set_option maxHeartbeats 40000000 in
set_option maxRecDepth 100000 in
theorem ciX1_init_4 {l : Launch} {E : XE} {w : XW} (hW : ∀ i : Nat, w.1 i = w.1 0 + i) : Ct l E w yX1_init (wsM yX1_init cX1_init 1 none) (rmX 1 6 146) 6 146 [.ref (w.1 17)] (w.1 (sn cZ49)) (w.1 (sn cZ68)) cZ49 cZ68 cX50 cX67 none := by
  refine ct_of (by decide) (Nat.le_of_ble_eq_true rfl) ?_
  intro p e s m args below meth c hC hr hin hav
  refine ww_lv (lv' := [(0, .ref (w.1 17))]) rfl ?_
  refine ww_aload_n (pc := 0) hC dX1_init_0 0 rfl ?_
  refine ww_objInit (pc := 1) hC ql_X1_3 qi_java_lang_Object__init_ qc_java_lang_Object__init_ dX1_init_1 ⟨Nat.le_of_ble_eq_true rfl, Nat.le_of_ble_eq_true rfl⟩ (Nat.le_of_ble_eq_true rfl) ?_
  refine ww_aload_n (pc := 4) hC dX1_init_4 0 rfl ?_
  refine ww_bipush (pc := 5) hC (v := (10 : Int32)) dX1_init_5 (by decide) ?_
  refine ww_newa (pc := 7) hC 13 (by decide) (by decide) rfl (ct0 hW _) (n := 18) (by decide +kernel) (by decide) (N := 10) (by decide) (Z' := cZ51) rfl (X' := cX52) rfl (by decide) qy_FieldType_int dX1_init_7 (Nat.le_of_ble_eq_true rfl) (Nat.le_of_ble_eq_true rfl) ?_
  refine ww_putR (pc := 9) hC (i := 17) (t := 18) 1 0 ⟨by decide +kernel, by decide +kernel⟩ RX1 (by decide) (by decide) rfl qf_X1_9 rfl hin rfl rfl rfl rfl (Z' := cZ53) rfl dX1_init_9 ?_
  refine ww_aload_n (pc := 12) hC dX1_init_12 0 rfl ?_
  refine ww_bipush (pc := 13) hC (v := (10 : Int32)) dX1_init_13 (by decide) ?_
  refine ww_newa (pc := 15) hC 13 (by decide) (by decide) rfl (ct0 hW _) (n := 19) (by decide +kernel) (by decide) (N := 10) (by decide) (Z' := cZ54) rfl (X' := cX55) rfl (by decide) qy_FieldType_int dX1_init_15 (Nat.le_of_ble_eq_true rfl) (Nat.le_of_ble_eq_true rfl) ?_
  refine ww_putR (pc := 17) hC (i := 17) (t := 19) 1 1 ⟨by decide +kernel, by decide +kernel⟩ RX1 (by decide) (by decide) rfl qf_X1_15 rfl hin rfl rfl rfl rfl (Z' := cZ56) rfl dX1_init_17 ?_
  refine ww_aload_n (pc := 20) hC dX1_init_20 0 rfl ?_
  refine ww_bipush (pc := 21) hC (v := (10 : Int32)) dX1_init_21 (by decide) ?_
  refine ww_newa (pc := 23) hC 13 (by decide) (by decide) rfl (ct0 hW _) (n := 20) (by decide +kernel) (by decide) (N := 10) (by decide) (Z' := cZ57) rfl (X' := cX58) rfl (by decide) qy_FieldType_int dX1_init_23 (Nat.le_of_ble_eq_true rfl) (Nat.le_of_ble_eq_true rfl) ?_
  refine ww_putR (pc := 25) hC (i := 17) (t := 20) 1 2 ⟨by decide +kernel, by decide +kernel⟩ RX1 (by decide) (by decide) rfl qf_X1_18 rfl hin rfl rfl rfl rfl (Z' := cZ59) rfl dX1_init_25 ?_
  refine ww_aload_n (pc := 28) hC dX1_init_28 0 rfl ?_
  refine ww_bipush (pc := 29) hC (v := (10 : Int32)) dX1_init_29 (by decide) ?_
  refine ww_newa (pc := 31) hC 13 (by decide) (by decide) rfl (ct0 hW _) (n := 21) (by decide +kernel) (by decide) (N := 10) (by decide) (Z' := cZ60) rfl (X' := cX61) rfl (by decide) qy_FieldType_int dX1_init_31 (Nat.le_of_ble_eq_true rfl) (Nat.le_of_ble_eq_true rfl) ?_
  refine ww_putR (pc := 33) hC (i := 17) (t := 21) 1 3 ⟨by decide +kernel, by decide +kernel⟩ RX1 (by decide) (by decide) rfl qf_X1_21 rfl hin rfl rfl rfl rfl (Z' := cZ62) rfl dX1_init_33 ?_
  refine ww_aload_n (pc := 36) hC dX1_init_36 0 rfl ?_
  refine ww_bipush (pc := 37) hC (v := (100 : Int32)) dX1_init_37 (by decide) ?_
  refine ww_newa (pc := 39) hC 13 (by decide) (by decide) rfl (ct0 hW _) (n := 22) (by decide +kernel) (by decide) (N := 100) (by decide) (Z' := cZ63) rfl (X' := cX64) rfl (by decide) qy_FieldType_int dX1_init_39 (Nat.le_of_ble_eq_true rfl) (Nat.le_of_ble_eq_true rfl) ?_
  refine ww_putR (pc := 41) hC (i := 17) (t := 22) 1 5 ⟨by decide +kernel, by decide +kernel⟩ RX1 (by decide) (by decide) rfl qf_X1_24 rfl hin rfl rfl rfl rfl (Z' := cZ65) rfl dX1_init_41 ?_
  refine ww_aload_n (pc := 44) hC dX1_init_44 0 rfl ?_
  refine ww_bipush (pc := 45) hC (v := (6 : Int32)) dX1_init_45 (by decide) ?_
  refine ww_newa (pc := 47) hC 13 (by decide) (by decide) rfl (ct0 hW _) (n := 23) (by decide +kernel) (by decide) (N := 6) (by decide) (Z' := cZ66) rfl (X' := cX67) rfl (by decide) qy_FieldType_int dX1_init_47 (Nat.le_of_ble_eq_true rfl) (Nat.le_of_ble_eq_true rfl) ?_
  refine ww_putR (pc := 49) hC (i := 17) (t := 23) 1 8 ⟨by decide +kernel, by decide +kernel⟩ RX1 (by decide) (by decide) rfl qf_X1_27 rfl hin rfl rfl rfl rfl (Z' := cZ68) rfl dX1_init_49 ?_
  exact ww_vret (pc := 52) hC hr (u := ()) (r := ()) rfl dX1_init_52
def cZ69 : XS := stR cZ68 2 2 17
theorem rc_cZ69 : RC cZ69 := RC.s rc_cZ68 (by decide +kernel)
def cZ70 : XS := newO 24 cZ69 1
theorem rc_cZ70 : RC cZ70 := RC.o rc_cZ69 (by decide +kernel)
def cX71 : XD := zX cX67 24
def cZ72 : XS := newA 25 cZ70 13 10
theorem rc_cZ72 : RC cZ72 := RC.a rc_cZ70 (by decide +kernel)
def cX73 : XD := zX cX71 25
def cZ74 : XS := stR cZ72 24 0 25
theorem rc_cZ74 : RC cZ74 := RC.s rc_cZ72 (by decide +kernel)
def cZ75 : XS := newA 26 cZ74 13 10
theorem rc_cZ75 : RC cZ75 := RC.a rc_cZ74 (by decide +kernel)
def cX76 : XD := zX cX73 26
def cZ77 : XS := stR cZ75 24 1 26
theorem rc_cZ77 : RC cZ77 := RC.s rc_cZ75 (by decide +kernel)
def cZ78 : XS := newA 27 cZ77 13 10
theorem rc_cZ78 : RC cZ78 := RC.a rc_cZ77 (by decide +kernel)
def cX79 : XD := zX cX76 27
def cZ80 : XS := stR cZ78 24 2 27
theorem rc_cZ80 : RC cZ80 := RC.s rc_cZ78 (by decide +kernel)
def cZ81 : XS := newA 28 cZ80 13 10
theorem rc_cZ81 : RC cZ81 := RC.a rc_cZ80 (by decide +kernel)
def cX82 : XD := zX cX79 28
def cZ83 : XS := stR cZ81 24 3 28
theorem rc_cZ83 : RC cZ83 := RC.s rc_cZ81 (by decide +kernel)
def cZ84 : XS := newA 29 cZ83 13 100
theorem rc_cZ84 : RC cZ84 := RC.a rc_cZ83 (by decide +kernel)
def cX85 : XD := zX cX82 29
def cZ86 : XS := stR cZ84 24 5 29
theorem rc_cZ86 : RC cZ86 := RC.s rc_cZ84 (by decide +kernel)
def cZ87 : XS := newA 30 cZ86 13 6
theorem rc_cZ87 : RC cZ87 := RC.a rc_cZ86 (by decide +kernel)
def cX88 : XD := zX cX85 30
def cZ89 : XS := stR cZ87 24 8 30
theorem rc_cZ89 : RC cZ89 := RC.s rc_cZ87 (by decide +kernel)
set_option maxHeartbeats 40000000 in
set_option maxRecDepth 100000 in
theorem ciX1_init_5 {l : Launch} {E : XE} {w : XW} (hW : ∀ i : Nat, w.1 i = w.1 0 + i) : Ct l E w yX1_init (wsM yX1_init cX1_init 1 none) (rmX 1 6 146) 6 146 [.ref (w.1 24)] (w.1 (sn cZ70)) (w.1 (sn cZ89)) cZ70 cZ89 cX71 cX88 none := by
  refine ct_of (by decide) (Nat.le_of_ble_eq_true rfl) ?_
  intro p e s m args below meth c hC hr hin hav
  refine ww_lv (lv' := [(0, .ref (w.1 24))]) rfl ?_
  refine ww_aload_n (pc := 0) hC dX1_init_0 0 rfl ?_
  refine ww_objInit (pc := 1) hC ql_X1_3 qi_java_lang_Object__init_ qc_java_lang_Object__init_ dX1_init_1 ⟨Nat.le_of_ble_eq_true rfl, Nat.le_of_ble_eq_true rfl⟩ (Nat.le_of_ble_eq_true rfl) ?_
  refine ww_aload_n (pc := 4) hC dX1_init_4 0 rfl ?_
  refine ww_bipush (pc := 5) hC (v := (10 : Int32)) dX1_init_5 (by decide) ?_
  refine ww_newa (pc := 7) hC 13 (by decide) (by decide) rfl (ct0 hW _) (n := 25) (by decide +kernel) (by decide) (N := 10) (by decide) (Z' := cZ72) rfl (X' := cX73) rfl (by decide) qy_FieldType_int dX1_init_7 (Nat.le_of_ble_eq_true rfl) (Nat.le_of_ble_eq_true rfl) ?_
  refine ww_putR (pc := 9) hC (i := 24) (t := 25) 1 0 ⟨by decide +kernel, by decide +kernel⟩ RX1 (by decide) (by decide) rfl qf_X1_9 rfl hin rfl rfl rfl rfl (Z' := cZ74) rfl dX1_init_9 ?_
  refine ww_aload_n (pc := 12) hC dX1_init_12 0 rfl ?_
  refine ww_bipush (pc := 13) hC (v := (10 : Int32)) dX1_init_13 (by decide) ?_
  refine ww_newa (pc := 15) hC 13 (by decide) (by decide) rfl (ct0 hW _) (n := 26) (by decide +kernel) (by decide) (N := 10) (by decide) (Z' := cZ75) rfl (X' := cX76) rfl (by decide) qy_FieldType_int dX1_init_15 (Nat.le_of_ble_eq_true rfl) (Nat.le_of_ble_eq_true rfl) ?_
  refine ww_putR (pc := 17) hC (i := 24) (t := 26) 1 1 ⟨by decide +kernel, by decide +kernel⟩ RX1 (by decide) (by decide) rfl qf_X1_15 rfl hin rfl rfl rfl rfl (Z' := cZ77) rfl dX1_init_17 ?_
  refine ww_aload_n (pc := 20) hC dX1_init_20 0 rfl ?_
  refine ww_bipush (pc := 21) hC (v := (10 : Int32)) dX1_init_21 (by decide) ?_
  refine ww_newa (pc := 23) hC 13 (by decide) (by decide) rfl (ct0 hW _) (n := 27) (by decide +kernel) (by decide) (N := 10) (by decide) (Z' := cZ78) rfl (X' := cX79) rfl (by decide) qy_FieldType_int dX1_init_23 (Nat.le_of_ble_eq_true rfl) (Nat.le_of_ble_eq_true rfl) ?_
  refine ww_putR (pc := 25) hC (i := 24) (t := 27) 1 2 ⟨by decide +kernel, by decide +kernel⟩ RX1 (by decide) (by decide) rfl qf_X1_18 rfl hin rfl rfl rfl rfl (Z' := cZ80) rfl dX1_init_25 ?_
  refine ww_aload_n (pc := 28) hC dX1_init_28 0 rfl ?_
  refine ww_bipush (pc := 29) hC (v := (10 : Int32)) dX1_init_29 (by decide) ?_
  refine ww_newa (pc := 31) hC 13 (by decide) (by decide) rfl (ct0 hW _) (n := 28) (by decide +kernel) (by decide) (N := 10) (by decide) (Z' := cZ81) rfl (X' := cX82) rfl (by decide) qy_FieldType_int dX1_init_31 (Nat.le_of_ble_eq_true rfl) (Nat.le_of_ble_eq_true rfl) ?_
  refine ww_putR (pc := 33) hC (i := 24) (t := 28) 1 3 ⟨by decide +kernel, by decide +kernel⟩ RX1 (by decide) (by decide) rfl qf_X1_21 rfl hin rfl rfl rfl rfl (Z' := cZ83) rfl dX1_init_33 ?_
  refine ww_aload_n (pc := 36) hC dX1_init_36 0 rfl ?_
  refine ww_bipush (pc := 37) hC (v := (100 : Int32)) dX1_init_37 (by decide) ?_
  refine ww_newa (pc := 39) hC 13 (by decide) (by decide) rfl (ct0 hW _) (n := 29) (by decide +kernel) (by decide) (N := 100) (by decide) (Z' := cZ84) rfl (X' := cX85) rfl (by decide) qy_FieldType_int dX1_init_39 (Nat.le_of_ble_eq_true rfl) (Nat.le_of_ble_eq_true rfl) ?_
  refine ww_putR (pc := 41) hC (i := 24) (t := 29) 1 5 ⟨by decide +kernel, by decide +kernel⟩ RX1 (by decide) (by decide) rfl qf_X1_24 rfl hin rfl rfl rfl rfl (Z' := cZ86) rfl dX1_init_41 ?_
  refine ww_aload_n (pc := 44) hC dX1_init_44 0 rfl ?_
  refine ww_bipush (pc := 45) hC (v := (6 : Int32)) dX1_init_45 (by decide) ?_
  refine ww_newa (pc := 47) hC 13 (by decide) (by decide) rfl (ct0 hW _) (n := 30) (by decide +kernel) (by decide) (N := 6) (by decide) (Z' := cZ87) rfl (X' := cX88) rfl (by decide) qy_FieldType_int dX1_init_47 (Nat.le_of_ble_eq_true rfl) (Nat.le_of_ble_eq_true rfl) ?_
  refine ww_putR (pc := 49) hC (i := 24) (t := 30) 1 8 ⟨by decide +kernel, by decide +kernel⟩ RX1 (by decide) (by decide) rfl qf_X1_27 rfl hin rfl rfl rfl rfl (Z' := cZ89) rfl dX1_init_49 ?_
  exact ww_vret (pc := 52) hC hr (u := ()) (r := ()) rfl dX1_init_52
def cZ90 : XS := stR cZ89 2 3 24
theorem rc_cZ90 : RC cZ90 := RC.s rc_cZ89 (by decide +kernel)
def cZ91 : XS := newO 31 cZ90 1
theorem rc_cZ91 : RC cZ91 := RC.o rc_cZ90 (by decide +kernel)
def cX92 : XD := zX cX88 31
def cZ93 : XS := newA 32 cZ91 13 10
theorem rc_cZ93 : RC cZ93 := RC.a rc_cZ91 (by decide +kernel)
def cX94 : XD := zX cX92 32
def cZ95 : XS := stR cZ93 31 0 32
theorem rc_cZ95 : RC cZ95 := RC.s rc_cZ93 (by decide +kernel)
def cZ96 : XS := newA 33 cZ95 13 10
theorem rc_cZ96 : RC cZ96 := RC.a rc_cZ95 (by decide +kernel)
def cX97 : XD := zX cX94 33
def cZ98 : XS := stR cZ96 31 1 33
theorem rc_cZ98 : RC cZ98 := RC.s rc_cZ96 (by decide +kernel)
def cZ99 : XS := newA 34 cZ98 13 10
theorem rc_cZ99 : RC cZ99 := RC.a rc_cZ98 (by decide +kernel)
def cX100 : XD := zX cX97 34
def cZ101 : XS := stR cZ99 31 2 34
theorem rc_cZ101 : RC cZ101 := RC.s rc_cZ99 (by decide +kernel)
def cZ102 : XS := newA 35 cZ101 13 10
theorem rc_cZ102 : RC cZ102 := RC.a rc_cZ101 (by decide +kernel)
def cX103 : XD := zX cX100 35
def cZ104 : XS := stR cZ102 31 3 35
theorem rc_cZ104 : RC cZ104 := RC.s rc_cZ102 (by decide +kernel)
def cZ105 : XS := newA 36 cZ104 13 100
theorem rc_cZ105 : RC cZ105 := RC.a rc_cZ104 (by decide +kernel)
def cX106 : XD := zX cX103 36
def cZ107 : XS := stR cZ105 31 5 36
theorem rc_cZ107 : RC cZ107 := RC.s rc_cZ105 (by decide +kernel)
def cZ108 : XS := newA 37 cZ107 13 6
theorem rc_cZ108 : RC cZ108 := RC.a rc_cZ107 (by decide +kernel)
def cX109 : XD := zX cX106 37
def cZ110 : XS := stR cZ108 31 8 37
theorem rc_cZ110 : RC cZ110 := RC.s rc_cZ108 (by decide +kernel)
set_option maxHeartbeats 40000000 in
set_option maxRecDepth 100000 in
theorem ciX1_init_6 {l : Launch} {E : XE} {w : XW} (hW : ∀ i : Nat, w.1 i = w.1 0 + i) : Ct l E w yX1_init (wsM yX1_init cX1_init 1 none) (rmX 1 6 146) 6 146 [.ref (w.1 31)] (w.1 (sn cZ91)) (w.1 (sn cZ110)) cZ91 cZ110 cX92 cX109 none := by
  refine ct_of (by decide) (Nat.le_of_ble_eq_true rfl) ?_
  intro p e s m args below meth c hC hr hin hav
  refine ww_lv (lv' := [(0, .ref (w.1 31))]) rfl ?_
  refine ww_aload_n (pc := 0) hC dX1_init_0 0 rfl ?_
  refine ww_objInit (pc := 1) hC ql_X1_3 qi_java_lang_Object__init_ qc_java_lang_Object__init_ dX1_init_1 ⟨Nat.le_of_ble_eq_true rfl, Nat.le_of_ble_eq_true rfl⟩ (Nat.le_of_ble_eq_true rfl) ?_
  refine ww_aload_n (pc := 4) hC dX1_init_4 0 rfl ?_
  refine ww_bipush (pc := 5) hC (v := (10 : Int32)) dX1_init_5 (by decide) ?_
  refine ww_newa (pc := 7) hC 13 (by decide) (by decide) rfl (ct0 hW _) (n := 32) (by decide +kernel) (by decide) (N := 10) (by decide) (Z' := cZ93) rfl (X' := cX94) rfl (by decide) qy_FieldType_int dX1_init_7 (Nat.le_of_ble_eq_true rfl) (Nat.le_of_ble_eq_true rfl) ?_
  refine ww_putR (pc := 9) hC (i := 31) (t := 32) 1 0 ⟨by decide +kernel, by decide +kernel⟩ RX1 (by decide) (by decide) rfl qf_X1_9 rfl hin rfl rfl rfl rfl (Z' := cZ95) rfl dX1_init_9 ?_
  refine ww_aload_n (pc := 12) hC dX1_init_12 0 rfl ?_
  refine ww_bipush (pc := 13) hC (v := (10 : Int32)) dX1_init_13 (by decide) ?_
  refine ww_newa (pc := 15) hC 13 (by decide) (by decide) rfl (ct0 hW _) (n := 33) (by decide +kernel) (by decide) (N := 10) (by decide) (Z' := cZ96) rfl (X' := cX97) rfl (by decide) qy_FieldType_int dX1_init_15 (Nat.le_of_ble_eq_true rfl) (Nat.le_of_ble_eq_true rfl) ?_
  refine ww_putR (pc := 17) hC (i := 31) (t := 33) 1 1 ⟨by decide +kernel, by decide +kernel⟩ RX1 (by decide) (by decide) rfl qf_X1_15 rfl hin rfl rfl rfl rfl (Z' := cZ98) rfl dX1_init_17 ?_
  refine ww_aload_n (pc := 20) hC dX1_init_20 0 rfl ?_
  refine ww_bipush (pc := 21) hC (v := (10 : Int32)) dX1_init_21 (by decide) ?_
  refine ww_newa (pc := 23) hC 13 (by decide) (by decide) rfl (ct0 hW _) (n := 34) (by decide +kernel) (by decide) (N := 10) (by decide) (Z' := cZ99) rfl (X' := cX100) rfl (by decide) qy_FieldType_int dX1_init_23 (Nat.le_of_ble_eq_true rfl) (Nat.le_of_ble_eq_true rfl) ?_
  refine ww_putR (pc := 25) hC (i := 31) (t := 34) 1 2 ⟨by decide +kernel, by decide +kernel⟩ RX1 (by decide) (by decide) rfl qf_X1_18 rfl hin rfl rfl rfl rfl (Z' := cZ101) rfl dX1_init_25 ?_
  refine ww_aload_n (pc := 28) hC dX1_init_28 0 rfl ?_
  refine ww_bipush (pc := 29) hC (v := (10 : Int32)) dX1_init_29 (by decide) ?_
  refine ww_newa (pc := 31) hC 13 (by decide) (by decide) rfl (ct0 hW _) (n := 35) (by decide +kernel) (by decide) (N := 10) (by decide) (Z' := cZ102) rfl (X' := cX103) rfl (by decide) qy_FieldType_int dX1_init_31 (Nat.le_of_ble_eq_true rfl) (Nat.le_of_ble_eq_true rfl) ?_
  refine ww_putR (pc := 33) hC (i := 31) (t := 35) 1 3 ⟨by decide +kernel, by decide +kernel⟩ RX1 (by decide) (by decide) rfl qf_X1_21 rfl hin rfl rfl rfl rfl (Z' := cZ104) rfl dX1_init_33 ?_
  refine ww_aload_n (pc := 36) hC dX1_init_36 0 rfl ?_
  refine ww_bipush (pc := 37) hC (v := (100 : Int32)) dX1_init_37 (by decide) ?_
  refine ww_newa (pc := 39) hC 13 (by decide) (by decide) rfl (ct0 hW _) (n := 36) (by decide +kernel) (by decide) (N := 100) (by decide) (Z' := cZ105) rfl (X' := cX106) rfl (by decide) qy_FieldType_int dX1_init_39 (Nat.le_of_ble_eq_true rfl) (Nat.le_of_ble_eq_true rfl) ?_
  refine ww_putR (pc := 41) hC (i := 31) (t := 36) 1 5 ⟨by decide +kernel, by decide +kernel⟩ RX1 (by decide) (by decide) rfl qf_X1_24 rfl hin rfl rfl rfl rfl (Z' := cZ107) rfl dX1_init_41 ?_
  refine ww_aload_n (pc := 44) hC dX1_init_44 0 rfl ?_
  refine ww_bipush (pc := 45) hC (v := (6 : Int32)) dX1_init_45 (by decide) ?_
  refine ww_newa (pc := 47) hC 13 (by decide) (by decide) rfl (ct0 hW _) (n := 37) (by decide +kernel) (by decide) (N := 6) (by decide) (Z' := cZ108) rfl (X' := cX109) rfl (by decide) qy_FieldType_int dX1_init_47 (Nat.le_of_ble_eq_true rfl) (Nat.le_of_ble_eq_true rfl) ?_
  refine ww_putR (pc := 49) hC (i := 31) (t := 37) 1 8 ⟨by decide +kernel, by decide +kernel⟩ RX1 (by decide) (by decide) rfl qf_X1_27 rfl hin rfl rfl rfl rfl (Z' := cZ110) rfl dX1_init_49 ?_
  exact ww_vret (pc := 52) hC hr (u := ()) (r := ()) rfl dX1_init_52
def cZ111 : XS := stR cZ110 2 4 31
theorem rc_cZ111 : RC cZ111 := RC.s rc_cZ110 (by decide +kernel)
def cZ112 : XS := newO 38 cZ111 1
theorem rc_cZ112 : RC cZ112 := RC.o rc_cZ111 (by decide +kernel)
def cX113 : XD := zX cX109 38
def cZ114 : XS := newA 39 cZ112 13 10
theorem rc_cZ114 : RC cZ114 := RC.a rc_cZ112 (by decide +kernel)
def cX115 : XD := zX cX113 39
def cZ116 : XS := stR cZ114 38 0 39
theorem rc_cZ116 : RC cZ116 := RC.s rc_cZ114 (by decide +kernel)
def cZ117 : XS := newA 40 cZ116 13 10
theorem rc_cZ117 : RC cZ117 := RC.a rc_cZ116 (by decide +kernel)
def cX118 : XD := zX cX115 40
def cZ119 : XS := stR cZ117 38 1 40
theorem rc_cZ119 : RC cZ119 := RC.s rc_cZ117 (by decide +kernel)
def cZ120 : XS := newA 41 cZ119 13 10
theorem rc_cZ120 : RC cZ120 := RC.a rc_cZ119 (by decide +kernel)
def cX121 : XD := zX cX118 41
def cZ122 : XS := stR cZ120 38 2 41
theorem rc_cZ122 : RC cZ122 := RC.s rc_cZ120 (by decide +kernel)
def cZ123 : XS := newA 42 cZ122 13 10
theorem rc_cZ123 : RC cZ123 := RC.a rc_cZ122 (by decide +kernel)
def cX124 : XD := zX cX121 42
def cZ125 : XS := stR cZ123 38 3 42
theorem rc_cZ125 : RC cZ125 := RC.s rc_cZ123 (by decide +kernel)
def cZ126 : XS := newA 43 cZ125 13 100
theorem rc_cZ126 : RC cZ126 := RC.a rc_cZ125 (by decide +kernel)
def cX127 : XD := zX cX124 43
def cZ128 : XS := stR cZ126 38 5 43
theorem rc_cZ128 : RC cZ128 := RC.s rc_cZ126 (by decide +kernel)
def cZ129 : XS := newA 44 cZ128 13 6
theorem rc_cZ129 : RC cZ129 := RC.a rc_cZ128 (by decide +kernel)
def cX130 : XD := zX cX127 44
def cZ131 : XS := stR cZ129 38 8 44
theorem rc_cZ131 : RC cZ131 := RC.s rc_cZ129 (by decide +kernel)
set_option maxHeartbeats 40000000 in
set_option maxRecDepth 100000 in
theorem ciX1_init_7 {l : Launch} {E : XE} {w : XW} (hW : ∀ i : Nat, w.1 i = w.1 0 + i) : Ct l E w yX1_init (wsM yX1_init cX1_init 1 none) (rmX 1 6 146) 6 146 [.ref (w.1 38)] (w.1 (sn cZ112)) (w.1 (sn cZ131)) cZ112 cZ131 cX113 cX130 none := by
  refine ct_of (by decide) (Nat.le_of_ble_eq_true rfl) ?_
  intro p e s m args below meth c hC hr hin hav
  refine ww_lv (lv' := [(0, .ref (w.1 38))]) rfl ?_
  refine ww_aload_n (pc := 0) hC dX1_init_0 0 rfl ?_
  refine ww_objInit (pc := 1) hC ql_X1_3 qi_java_lang_Object__init_ qc_java_lang_Object__init_ dX1_init_1 ⟨Nat.le_of_ble_eq_true rfl, Nat.le_of_ble_eq_true rfl⟩ (Nat.le_of_ble_eq_true rfl) ?_
  refine ww_aload_n (pc := 4) hC dX1_init_4 0 rfl ?_
  refine ww_bipush (pc := 5) hC (v := (10 : Int32)) dX1_init_5 (by decide) ?_
  refine ww_newa (pc := 7) hC 13 (by decide) (by decide) rfl (ct0 hW _) (n := 39) (by decide +kernel) (by decide) (N := 10) (by decide) (Z' := cZ114) rfl (X' := cX115) rfl (by decide) qy_FieldType_int dX1_init_7 (Nat.le_of_ble_eq_true rfl) (Nat.le_of_ble_eq_true rfl) ?_
  refine ww_putR (pc := 9) hC (i := 38) (t := 39) 1 0 ⟨by decide +kernel, by decide +kernel⟩ RX1 (by decide) (by decide) rfl qf_X1_9 rfl hin rfl rfl rfl rfl (Z' := cZ116) rfl dX1_init_9 ?_
  refine ww_aload_n (pc := 12) hC dX1_init_12 0 rfl ?_
  refine ww_bipush (pc := 13) hC (v := (10 : Int32)) dX1_init_13 (by decide) ?_
  refine ww_newa (pc := 15) hC 13 (by decide) (by decide) rfl (ct0 hW _) (n := 40) (by decide +kernel) (by decide) (N := 10) (by decide) (Z' := cZ117) rfl (X' := cX118) rfl (by decide) qy_FieldType_int dX1_init_15 (Nat.le_of_ble_eq_true rfl) (Nat.le_of_ble_eq_true rfl) ?_
  refine ww_putR (pc := 17) hC (i := 38) (t := 40) 1 1 ⟨by decide +kernel, by decide +kernel⟩ RX1 (by decide) (by decide) rfl qf_X1_15 rfl hin rfl rfl rfl rfl (Z' := cZ119) rfl dX1_init_17 ?_
  refine ww_aload_n (pc := 20) hC dX1_init_20 0 rfl ?_
  refine ww_bipush (pc := 21) hC (v := (10 : Int32)) dX1_init_21 (by decide) ?_
  refine ww_newa (pc := 23) hC 13 (by decide) (by decide) rfl (ct0 hW _) (n := 41) (by decide +kernel) (by decide) (N := 10) (by decide) (Z' := cZ120) rfl (X' := cX121) rfl (by decide) qy_FieldType_int dX1_init_23 (Nat.le_of_ble_eq_true rfl) (Nat.le_of_ble_eq_true rfl) ?_
  refine ww_putR (pc := 25) hC (i := 38) (t := 41) 1 2 ⟨by decide +kernel, by decide +kernel⟩ RX1 (by decide) (by decide) rfl qf_X1_18 rfl hin rfl rfl rfl rfl (Z' := cZ122) rfl dX1_init_25 ?_
  refine ww_aload_n (pc := 28) hC dX1_init_28 0 rfl ?_
  refine ww_bipush (pc := 29) hC (v := (10 : Int32)) dX1_init_29 (by decide) ?_
  refine ww_newa (pc := 31) hC 13 (by decide) (by decide) rfl (ct0 hW _) (n := 42) (by decide +kernel) (by decide) (N := 10) (by decide) (Z' := cZ123) rfl (X' := cX124) rfl (by decide) qy_FieldType_int dX1_init_31 (Nat.le_of_ble_eq_true rfl) (Nat.le_of_ble_eq_true rfl) ?_
  refine ww_putR (pc := 33) hC (i := 38) (t := 42) 1 3 ⟨by decide +kernel, by decide +kernel⟩ RX1 (by decide) (by decide) rfl qf_X1_21 rfl hin rfl rfl rfl rfl (Z' := cZ125) rfl dX1_init_33 ?_
  refine ww_aload_n (pc := 36) hC dX1_init_36 0 rfl ?_
  refine ww_bipush (pc := 37) hC (v := (100 : Int32)) dX1_init_37 (by decide) ?_
  refine ww_newa (pc := 39) hC 13 (by decide) (by decide) rfl (ct0 hW _) (n := 43) (by decide +kernel) (by decide) (N := 100) (by decide) (Z' := cZ126) rfl (X' := cX127) rfl (by decide) qy_FieldType_int dX1_init_39 (Nat.le_of_ble_eq_true rfl) (Nat.le_of_ble_eq_true rfl) ?_
  refine ww_putR (pc := 41) hC (i := 38) (t := 43) 1 5 ⟨by decide +kernel, by decide +kernel⟩ RX1 (by decide) (by decide) rfl qf_X1_24 rfl hin rfl rfl rfl rfl (Z' := cZ128) rfl dX1_init_41 ?_
  refine ww_aload_n (pc := 44) hC dX1_init_44 0 rfl ?_
  refine ww_bipush (pc := 45) hC (v := (6 : Int32)) dX1_init_45 (by decide) ?_
  refine ww_newa (pc := 47) hC 13 (by decide) (by decide) rfl (ct0 hW _) (n := 44) (by decide +kernel) (by decide) (N := 6) (by decide) (Z' := cZ129) rfl (X' := cX130) rfl (by decide) qy_FieldType_int dX1_init_47 (Nat.le_of_ble_eq_true rfl) (Nat.le_of_ble_eq_true rfl) ?_
  refine ww_putR (pc := 49) hC (i := 38) (t := 44) 1 8 ⟨by decide +kernel, by decide +kernel⟩ RX1 (by decide) (by decide) rfl qf_X1_27 rfl hin rfl rfl rfl rfl (Z' := cZ131) rfl dX1_init_49 ?_
  exact ww_vret (pc := 52) hC hr (u := ()) (r := ()) rfl dX1_init_52
def cZ132 : XS := stR cZ131 2 5 38
theorem rc_cZ132 : RC cZ132 := RC.s rc_cZ131 (by decide +kernel)
def cZ133 : XS := newO 45 cZ132 3
theorem rc_cZ133 : RC cZ133 := RC.o rc_cZ132 (by decide +kernel)
def cX134 : XD := zX cX130 45
def cZ135 : XS := newA 46 cZ133 13 100
theorem rc_cZ135 : RC cZ135 := RC.a rc_cZ133 (by decide +kernel)
def cX136 : XD := zX cX134 46
def cZ137 : XS := stR cZ135 45 0 46
theorem rc_cZ137 : RC cZ137 := RC.s rc_cZ135 (by decide +kernel)
set_option maxHeartbeats 40000000 in
set_option maxRecDepth 100000 in
theorem ciX3_init_8 {l : Launch} {E : XE} {w : XW} (hW : ∀ i : Nat, w.1 i = w.1 0 + i) : Ct l E w yX3_init (wsM yX3_init cX3_init 2 none) (rmX 1 1 100) 1 100 [.ref (w.1 45), .int (100 : Int32)] (w.1 (sn cZ133)) (w.1 (sn cZ137)) cZ133 cZ137 cX134 cX136 none := by
  refine ct_of (by decide) (Nat.le_of_ble_eq_true rfl) ?_
  intro p e s m args below meth c hC hr hin hav
  refine ww_lv (lv' := [(0, .ref (w.1 45)), (1, .int (100 : Int32))]) rfl ?_
  refine ww_aload_n (pc := 0) hC dX3_init_0 0 rfl ?_
  refine ww_objInit (pc := 1) hC ql_X3_3 qi_java_lang_Object__init_ qc_java_lang_Object__init_ dX3_init_1 ⟨Nat.le_of_ble_eq_true rfl, Nat.le_of_ble_eq_true rfl⟩ (Nat.le_of_ble_eq_true rfl) ?_
  refine ww_aload_n (pc := 4) hC dX3_init_4 0 rfl ?_
  refine ww_iconst (pc := 5) hC (v := (0 : Int32)) dX3_init_5 (by decide) ?_
  refine ww_iload_n (pc := 6) hC dX3_init_6 1 rfl ?_
  refine ww_max (pc := 7) hC ql_X3_9 qt_J9_max_7cf53 qn_J9 qc_J9_max_7cf53 dX3_init_7 ⟨Nat.le_of_ble_eq_true rfl, Nat.le_of_ble_eq_true rfl⟩ (Nat.le_of_ble_eq_true rfl) ⟨Nat.le_of_ble_eq_true rfl, Nat.le_of_ble_eq_true rfl⟩ ?_
  rw [show (if (0 : Int32) < (100 : Int32) then (100 : Int32) else (0 : Int32)) = (100 : Int32) by decide]
  refine ww_newa (pc := 10) hC 13 (by decide) (by decide) rfl (ct0 hW _) (n := 46) (by decide +kernel) (by decide) (N := 100) (by decide) (Z' := cZ135) rfl (X' := cX136) rfl (by decide) qy_FieldType_int dX3_init_10 (Nat.le_of_ble_eq_true rfl) (Nat.le_of_ble_eq_true rfl) ?_
  refine ww_putR (pc := 12) hC (i := 45) (t := 46) 3 0 ⟨by decide +kernel, by decide +kernel⟩ RX3 (by decide) (by decide) rfl qf_X3_15 rfl hin rfl rfl rfl rfl (Z' := cZ137) rfl dX3_init_12 ?_
  exact ww_vret (pc := 15) hC hr (u := ()) (r := ()) rfl dX3_init_15
def cZ138 : XS := stR cZ137 0 3 45
theorem rc_cZ138 : RC cZ138 := RC.s rc_cZ137 (by decide +kernel)
def cZ139 : XS := newO 47 cZ138 6
theorem rc_cZ139 : RC cZ139 := RC.o rc_cZ138 (by decide +kernel)
def cX140 : XD := zX cX136 47
def cX141 : XD := wI cX140 47 1 (-1 : Int32)
def cZ142 : XS := newA 48 cZ139 13 6
theorem rc_cZ142 : RC cZ142 := RC.a rc_cZ139 (by decide +kernel)
def cX143 : XD := zX cX141 48
def cZ144 : XS := stR cZ142 47 4 48
theorem rc_cZ144 : RC cZ144 := RC.s rc_cZ142 (by decide +kernel)
def cX145 : XD := fillI cX143 48 6 (3 : Int32)
def cZ146 : XS := newA 49 cZ144 13 6
theorem rc_cZ146 : RC cZ146 := RC.a rc_cZ144 (by decide +kernel)
def cX147 : XD := zX cX145 49
def cZ148 : XS := stR cZ146 47 5 49
theorem rc_cZ148 : RC cZ148 := RC.s rc_cZ146 (by decide +kernel)
def cZ149 : XS := newA 50 cZ148 13 6
theorem rc_cZ149 : RC cZ149 := RC.a rc_cZ148 (by decide +kernel)
def cX150 : XD := zX cX147 50
def cZ151 : XS := stR cZ149 47 6 50
theorem rc_cZ151 : RC cZ151 := RC.s rc_cZ149 (by decide +kernel)
def cZ152 : XS := newA 51 cZ151 13 24
theorem rc_cZ152 : RC cZ152 := RC.a rc_cZ151 (by decide +kernel)
def cX153 : XD := zX cX150 51
def cZ154 : XS := stR cZ152 47 7 51
theorem rc_cZ154 : RC cZ154 := RC.s rc_cZ152 (by decide +kernel)
def cZ155 : XS := newO 52 cZ154 3
theorem rc_cZ155 : RC cZ155 := RC.o rc_cZ154 (by decide +kernel)
def cX156 : XD := zX cX153 52
def cZ157 : XS := newA 53 cZ155 13 4
theorem rc_cZ157 : RC cZ157 := RC.a rc_cZ155 (by decide +kernel)
def cX158 : XD := zX cX156 53
def cZ159 : XS := stR cZ157 52 0 53
theorem rc_cZ159 : RC cZ159 := RC.s rc_cZ157 (by decide +kernel)
set_option maxHeartbeats 40000000 in
set_option maxRecDepth 100000 in
theorem ciX3_init_10 {l : Launch} {E : XE} {w : XW} (hW : ∀ i : Nat, w.1 i = w.1 0 + i) : Ct l E w yX3_init (wsM yX3_init cX3_init 2 none) (rmX 1 1 4) 1 4 [.ref (w.1 52), .int (4 : Int32)] (w.1 (sn cZ155)) (w.1 (sn cZ159)) cZ155 cZ159 cX156 cX158 none := by
  refine ct_of (by decide) (Nat.le_of_ble_eq_true rfl) ?_
  intro p e s m args below meth c hC hr hin hav
  refine ww_lv (lv' := [(0, .ref (w.1 52)), (1, .int (4 : Int32))]) rfl ?_
  refine ww_aload_n (pc := 0) hC dX3_init_0 0 rfl ?_
  refine ww_objInit (pc := 1) hC ql_X3_3 qi_java_lang_Object__init_ qc_java_lang_Object__init_ dX3_init_1 ⟨Nat.le_of_ble_eq_true rfl, Nat.le_of_ble_eq_true rfl⟩ (Nat.le_of_ble_eq_true rfl) ?_
  refine ww_aload_n (pc := 4) hC dX3_init_4 0 rfl ?_
  refine ww_iconst (pc := 5) hC (v := (0 : Int32)) dX3_init_5 (by decide) ?_
  refine ww_iload_n (pc := 6) hC dX3_init_6 1 rfl ?_
  refine ww_max (pc := 7) hC ql_X3_9 qt_J9_max_7cf53 qn_J9 qc_J9_max_7cf53 dX3_init_7 ⟨Nat.le_of_ble_eq_true rfl, Nat.le_of_ble_eq_true rfl⟩ (Nat.le_of_ble_eq_true rfl) ⟨Nat.le_of_ble_eq_true rfl, Nat.le_of_ble_eq_true rfl⟩ ?_
  rw [show (if (0 : Int32) < (4 : Int32) then (4 : Int32) else (0 : Int32)) = (4 : Int32) by decide]
  refine ww_newa (pc := 10) hC 13 (by decide) (by decide) rfl (ct0 hW _) (n := 53) (by decide +kernel) (by decide) (N := 4) (by decide) (Z' := cZ157) rfl (X' := cX158) rfl (by decide) qy_FieldType_int dX3_init_10 (Nat.le_of_ble_eq_true rfl) (Nat.le_of_ble_eq_true rfl) ?_
  refine ww_putR (pc := 12) hC (i := 52) (t := 53) 3 0 ⟨by decide +kernel, by decide +kernel⟩ RX3 (by decide) (by decide) rfl qf_X3_15 rfl hin rfl rfl rfl rfl (Z' := cZ159) rfl dX3_init_12 ?_
  exact ww_vret (pc := 15) hC hr (u := ()) (r := ()) rfl dX3_init_15
def cZ160 : XS := stR cZ159 47 8 52
theorem rc_cZ160 : RC cZ160 := RC.s rc_cZ159 (by decide +kernel)
def cZ161 : XS := newO 54 cZ160 3
theorem rc_cZ161 : RC cZ161 := RC.o rc_cZ160 (by decide +kernel)
def cX162 : XD := zX cX158 54
def cZ163 : XS := newA 55 cZ161 13 6
theorem rc_cZ163 : RC cZ163 := RC.a rc_cZ161 (by decide +kernel)
def cX164 : XD := zX cX162 55
def cZ165 : XS := stR cZ163 54 0 55
theorem rc_cZ165 : RC cZ165 := RC.s rc_cZ163 (by decide +kernel)
set_option maxHeartbeats 40000000 in
set_option maxRecDepth 100000 in
theorem ciX3_init_11 {l : Launch} {E : XE} {w : XW} (hW : ∀ i : Nat, w.1 i = w.1 0 + i) : Ct l E w yX3_init (wsM yX3_init cX3_init 2 none) (rmX 1 1 6) 1 6 [.ref (w.1 54), .int (6 : Int32)] (w.1 (sn cZ161)) (w.1 (sn cZ165)) cZ161 cZ165 cX162 cX164 none := by
  refine ct_of (by decide) (Nat.le_of_ble_eq_true rfl) ?_
  intro p e s m args below meth c hC hr hin hav
  refine ww_lv (lv' := [(0, .ref (w.1 54)), (1, .int (6 : Int32))]) rfl ?_
  refine ww_aload_n (pc := 0) hC dX3_init_0 0 rfl ?_
  refine ww_objInit (pc := 1) hC ql_X3_3 qi_java_lang_Object__init_ qc_java_lang_Object__init_ dX3_init_1 ⟨Nat.le_of_ble_eq_true rfl, Nat.le_of_ble_eq_true rfl⟩ (Nat.le_of_ble_eq_true rfl) ?_
  refine ww_aload_n (pc := 4) hC dX3_init_4 0 rfl ?_
  refine ww_iconst (pc := 5) hC (v := (0 : Int32)) dX3_init_5 (by decide) ?_
  refine ww_iload_n (pc := 6) hC dX3_init_6 1 rfl ?_
  refine ww_max (pc := 7) hC ql_X3_9 qt_J9_max_7cf53 qn_J9 qc_J9_max_7cf53 dX3_init_7 ⟨Nat.le_of_ble_eq_true rfl, Nat.le_of_ble_eq_true rfl⟩ (Nat.le_of_ble_eq_true rfl) ⟨Nat.le_of_ble_eq_true rfl, Nat.le_of_ble_eq_true rfl⟩ ?_
  rw [show (if (0 : Int32) < (6 : Int32) then (6 : Int32) else (0 : Int32)) = (6 : Int32) by decide]
  refine ww_newa (pc := 10) hC 13 (by decide) (by decide) rfl (ct0 hW _) (n := 55) (by decide +kernel) (by decide) (N := 6) (by decide) (Z' := cZ163) rfl (X' := cX164) rfl (by decide) qy_FieldType_int dX3_init_10 (Nat.le_of_ble_eq_true rfl) (Nat.le_of_ble_eq_true rfl) ?_
  refine ww_putR (pc := 12) hC (i := 54) (t := 55) 3 0 ⟨by decide +kernel, by decide +kernel⟩ RX3 (by decide) (by decide) rfl qf_X3_15 rfl hin rfl rfl rfl rfl (Z' := cZ165) rfl dX3_init_12 ?_
  exact ww_vret (pc := 15) hC hr (u := ()) (r := ()) rfl dX3_init_15
def cZ166 : XS := stR cZ165 47 9 54
theorem rc_cZ166 : RC cZ166 := RC.s rc_cZ165 (by decide +kernel)
def cZ167 : XS := newO 56 cZ166 3
theorem rc_cZ167 : RC cZ167 := RC.o rc_cZ166 (by decide +kernel)
def cX168 : XD := zX cX164 56
def cZ169 : XS := newA 57 cZ167 13 10
theorem rc_cZ169 : RC cZ169 := RC.a rc_cZ167 (by decide +kernel)
def cX170 : XD := zX cX168 57
def cZ171 : XS := stR cZ169 56 0 57
theorem rc_cZ171 : RC cZ171 := RC.s rc_cZ169 (by decide +kernel)
set_option maxHeartbeats 40000000 in
set_option maxRecDepth 100000 in
theorem ciX3_init_12 {l : Launch} {E : XE} {w : XW} (hW : ∀ i : Nat, w.1 i = w.1 0 + i) : Ct l E w yX3_init (wsM yX3_init cX3_init 2 none) (rmX 1 1 10) 1 10 [.ref (w.1 56), .int (10 : Int32)] (w.1 (sn cZ167)) (w.1 (sn cZ171)) cZ167 cZ171 cX168 cX170 none := by
  refine ct_of (by decide) (Nat.le_of_ble_eq_true rfl) ?_
  intro p e s m args below meth c hC hr hin hav
  refine ww_lv (lv' := [(0, .ref (w.1 56)), (1, .int (10 : Int32))]) rfl ?_
  refine ww_aload_n (pc := 0) hC dX3_init_0 0 rfl ?_
  refine ww_objInit (pc := 1) hC ql_X3_3 qi_java_lang_Object__init_ qc_java_lang_Object__init_ dX3_init_1 ⟨Nat.le_of_ble_eq_true rfl, Nat.le_of_ble_eq_true rfl⟩ (Nat.le_of_ble_eq_true rfl) ?_
  refine ww_aload_n (pc := 4) hC dX3_init_4 0 rfl ?_
  refine ww_iconst (pc := 5) hC (v := (0 : Int32)) dX3_init_5 (by decide) ?_
  refine ww_iload_n (pc := 6) hC dX3_init_6 1 rfl ?_
  refine ww_max (pc := 7) hC ql_X3_9 qt_J9_max_7cf53 qn_J9 qc_J9_max_7cf53 dX3_init_7 ⟨Nat.le_of_ble_eq_true rfl, Nat.le_of_ble_eq_true rfl⟩ (Nat.le_of_ble_eq_true rfl) ⟨Nat.le_of_ble_eq_true rfl, Nat.le_of_ble_eq_true rfl⟩ ?_
  rw [show (if (0 : Int32) < (10 : Int32) then (10 : Int32) else (0 : Int32)) = (10 : Int32) by decide]
  refine ww_newa (pc := 10) hC 13 (by decide) (by decide) rfl (ct0 hW _) (n := 57) (by decide +kernel) (by decide) (N := 10) (by decide) (Z' := cZ169) rfl (X' := cX170) rfl (by decide) qy_FieldType_int dX3_init_10 (Nat.le_of_ble_eq_true rfl) (Nat.le_of_ble_eq_true rfl) ?_
  refine ww_putR (pc := 12) hC (i := 56) (t := 57) 3 0 ⟨by decide +kernel, by decide +kernel⟩ RX3 (by decide) (by decide) rfl qf_X3_15 rfl hin rfl rfl rfl rfl (Z' := cZ171) rfl dX3_init_12 ?_
  exact ww_vret (pc := 15) hC hr (u := ()) (r := ()) rfl dX3_init_15
def cZ172 : XS := stR cZ171 47 10 56
theorem rc_cZ172 : RC cZ172 := RC.s rc_cZ171 (by decide +kernel)
def cZ173 : XS := newO 58 cZ172 3
theorem rc_cZ173 : RC cZ173 := RC.o rc_cZ172 (by decide +kernel)
def cX174 : XD := zX cX170 58
def cZ175 : XS := newA 59 cZ173 13 10
theorem rc_cZ175 : RC cZ175 := RC.a rc_cZ173 (by decide +kernel)
def cX176 : XD := zX cX174 59
def cZ177 : XS := stR cZ175 58 0 59
theorem rc_cZ177 : RC cZ177 := RC.s rc_cZ175 (by decide +kernel)
set_option maxHeartbeats 40000000 in
set_option maxRecDepth 100000 in
theorem ciX3_init_13 {l : Launch} {E : XE} {w : XW} (hW : ∀ i : Nat, w.1 i = w.1 0 + i) : Ct l E w yX3_init (wsM yX3_init cX3_init 2 none) (rmX 1 1 10) 1 10 [.ref (w.1 58), .int (10 : Int32)] (w.1 (sn cZ173)) (w.1 (sn cZ177)) cZ173 cZ177 cX174 cX176 none := by
  refine ct_of (by decide) (Nat.le_of_ble_eq_true rfl) ?_
  intro p e s m args below meth c hC hr hin hav
  refine ww_lv (lv' := [(0, .ref (w.1 58)), (1, .int (10 : Int32))]) rfl ?_
  refine ww_aload_n (pc := 0) hC dX3_init_0 0 rfl ?_
  refine ww_objInit (pc := 1) hC ql_X3_3 qi_java_lang_Object__init_ qc_java_lang_Object__init_ dX3_init_1 ⟨Nat.le_of_ble_eq_true rfl, Nat.le_of_ble_eq_true rfl⟩ (Nat.le_of_ble_eq_true rfl) ?_
  refine ww_aload_n (pc := 4) hC dX3_init_4 0 rfl ?_
  refine ww_iconst (pc := 5) hC (v := (0 : Int32)) dX3_init_5 (by decide) ?_
  refine ww_iload_n (pc := 6) hC dX3_init_6 1 rfl ?_
  refine ww_max (pc := 7) hC ql_X3_9 qt_J9_max_7cf53 qn_J9 qc_J9_max_7cf53 dX3_init_7 ⟨Nat.le_of_ble_eq_true rfl, Nat.le_of_ble_eq_true rfl⟩ (Nat.le_of_ble_eq_true rfl) ⟨Nat.le_of_ble_eq_true rfl, Nat.le_of_ble_eq_true rfl⟩ ?_
  rw [show (if (0 : Int32) < (10 : Int32) then (10 : Int32) else (0 : Int32)) = (10 : Int32) by decide]
  refine ww_newa (pc := 10) hC 13 (by decide) (by decide) rfl (ct0 hW _) (n := 59) (by decide +kernel) (by decide) (N := 10) (by decide) (Z' := cZ175) rfl (X' := cX176) rfl (by decide) qy_FieldType_int dX3_init_10 (Nat.le_of_ble_eq_true rfl) (Nat.le_of_ble_eq_true rfl) ?_
  refine ww_putR (pc := 12) hC (i := 58) (t := 59) 3 0 ⟨by decide +kernel, by decide +kernel⟩ RX3 (by decide) (by decide) rfl qf_X3_15 rfl hin rfl rfl rfl rfl (Z' := cZ177) rfl dX3_init_12 ?_
  exact ww_vret (pc := 15) hC hr (u := ()) (r := ()) rfl dX3_init_15
def cZ178 : XS := stR cZ177 47 11 58
theorem rc_cZ178 : RC cZ178 := RC.s rc_cZ177 (by decide +kernel)
set_option maxHeartbeats 40000000 in
set_option maxRecDepth 100000 in
theorem ciX6_init_9 {l : Launch} {E : XE} {w : XW} (hW : ∀ i : Nat, w.1 i = w.1 0 + i) : Ct l E w yX6_init (wsM yX6_init cX6_init 1 none) (rmX 2 12 84) 12 84 [.ref (w.1 47)] (w.1 (sn cZ139)) (w.1 (sn cZ178)) cZ139 cZ178 cX140 cX176 none := by
  refine ct_of (by decide) (Nat.le_of_ble_eq_true rfl) ?_
  intro p e s m args below meth c hC hr hin hav
  refine ww_lv (lv' := [(0, .ref (w.1 47))]) rfl ?_
  refine ww_aload_n (pc := 0) hC dX6_init_0 0 rfl ?_
  refine ww_objInit (pc := 1) hC ql_X6_3 qi_java_lang_Object__init_ qc_java_lang_Object__init_ dX6_init_1 ⟨Nat.le_of_ble_eq_true rfl, Nat.le_of_ble_eq_true rfl⟩ (Nat.le_of_ble_eq_true rfl) ?_
  refine ww_aload_n (pc := 4) hC dX6_init_4 0 rfl ?_
  refine ww_iconst (pc := 5) hC (v := (-1 : Int32)) dX6_init_5 (by decide) ?_
  refine ww_putI (pc := 6) hC (i := 47) 6 1 ⟨by decide +kernel, by decide +kernel⟩ RX6 (by decide) (by decide) rfl qf_X6_9 rfl rfl rfl rfl dX6_init_6 ?_
  refine ww_nmX (X' := cX141) rfl ?_
  refine ww_aload_n (pc := 9) hC dX6_init_9 0 rfl ?_
  refine ww_bipush (pc := 10) hC (v := (6 : Int32)) dX6_init_10 (by decide) ?_
  refine ww_newa (pc := 12) hC 13 (by decide) (by decide) rfl (ct0 hW _) (n := 48) (by decide +kernel) (by decide) (N := 6) (by decide) (Z' := cZ142) rfl (X' := cX143) rfl (by decide) qy_FieldType_int dX6_init_12 (Nat.le_of_ble_eq_true rfl) (Nat.le_of_ble_eq_true rfl) ?_
  refine ww_putR (pc := 14) hC (i := 47) (t := 48) 6 4 ⟨by decide +kernel, by decide +kernel⟩ RX6 (by decide) (by decide) rfl qf_X6_15 rfl hin rfl rfl rfl rfl (Z' := cZ144) rfl dX6_init_14 ?_
  refine ww_aload_n (pc := 17) hC dX6_init_17 0 rfl ?_
  refine ww_getR (pc := 18) hC (i := 47) 6 4 48 ⟨by decide +kernel, by decide +kernel⟩ RX6 (by decide) (by decide) rfl (by decide +kernel) qf_X6_15 rfl dX6_init_18 ?_
  refine ww_iconst (pc := 21) hC (v := (3 : Int32)) dX6_init_21 (by decide) ?_
  refine ww_callSv (pc := 22) hC [.ref (w.1 48), .int (3 : Int32)] (X' := cX145) (ceJ7_fill_53178 (show KA cZ144 48 13 (sL cZ144 48) from ⟨by decide +kernel, by decide +kernel, rfl⟩) (fill_eq (n := 6) (by decide) (show sL cZ144 48 = 6 by decide +kernel))) ql_X6_19 qt_J7_fill_53178 qn_J7 qc_J7_fill_53178 ⟨by decide, by decide, rfl⟩ rfl ⟨Nat.le_of_ble_eq_true rfl, Nat.le_of_ble_eq_true rfl⟩ (by decide) (rest := []) (Nat.le_of_ble_eq_true rfl) dX6_init_22 ⟨Nat.le_of_ble_eq_true rfl, Nat.le_of_ble_eq_true rfl⟩ rfl ?_
  refine ww_aload_n (pc := 25) hC dX6_init_25 0 rfl ?_
  refine ww_bipush (pc := 26) hC (v := (6 : Int32)) dX6_init_26 (by decide) ?_
  refine ww_newa (pc := 28) hC 13 (by decide) (by decide) rfl (ct0 hW _) (n := 49) (by decide +kernel) (by decide) (N := 6) (by decide) (Z' := cZ146) rfl (X' := cX147) rfl (by decide) qy_FieldType_int dX6_init_28 (Nat.le_of_ble_eq_true rfl) (Nat.le_of_ble_eq_true rfl) ?_
  refine ww_putR (pc := 30) hC (i := 47) (t := 49) 6 5 ⟨by decide +kernel, by decide +kernel⟩ RX6 (by decide) (by decide) rfl qf_X6_25 rfl hin rfl rfl rfl rfl (Z' := cZ148) rfl dX6_init_30 ?_
  refine ww_aload_n (pc := 33) hC dX6_init_33 0 rfl ?_
  refine ww_bipush (pc := 34) hC (v := (6 : Int32)) dX6_init_34 (by decide) ?_
  refine ww_newa (pc := 36) hC 13 (by decide) (by decide) rfl (ct0 hW _) (n := 50) (by decide +kernel) (by decide) (N := 6) (by decide) (Z' := cZ149) rfl (X' := cX150) rfl (by decide) qy_FieldType_int dX6_init_36 (Nat.le_of_ble_eq_true rfl) (Nat.le_of_ble_eq_true rfl) ?_
  refine ww_putR (pc := 38) hC (i := 47) (t := 50) 6 6 ⟨by decide +kernel, by decide +kernel⟩ RX6 (by decide) (by decide) rfl qf_X6_28 rfl hin rfl rfl rfl rfl (Z' := cZ151) rfl dX6_init_38 ?_
  refine ww_aload_n (pc := 41) hC dX6_init_41 0 rfl ?_
  refine ww_bipush (pc := 42) hC (v := (24 : Int32)) dX6_init_42 (by decide) ?_
  refine ww_newa (pc := 44) hC 13 (by decide) (by decide) rfl (ct0 hW _) (n := 51) (by decide +kernel) (by decide) (N := 24) (by decide) (Z' := cZ152) rfl (X' := cX153) rfl (by decide) qy_FieldType_int dX6_init_44 (Nat.le_of_ble_eq_true rfl) (Nat.le_of_ble_eq_true rfl) ?_
  refine ww_putR (pc := 46) hC (i := 47) (t := 51) 6 7 ⟨by decide +kernel, by decide +kernel⟩ RX6 (by decide) (by decide) rfl qf_X6_31 rfl hin rfl rfl rfl rfl (Z' := cZ154) rfl dX6_init_46 ?_
  refine ww_aload_n (pc := 49) hC dX6_init_49 0 rfl ?_
  refine ww_new (pc := 50) hC 3 (by decide) (ct0 hW _) (n := 52) (by decide +kernel) rfl (Z' := cZ155) rfl (X' := cX156) rfl qk_X6_34 qa_X3 qn_X3 dX6_init_50 (Nat.le_of_ble_eq_true rfl) (Nat.le_of_ble_eq_true rfl) ?_
  refine ww_dup (pc := 53) hC dX6_init_53 rfl ?_
  refine ww_iconst (pc := 54) hC (v := (4 : Int32)) dX6_init_54 (by decide) ?_
  refine ww_callI (pc := 55) hC [.int (4 : Int32)] (mc := 1) (ms := 4) (Z' := cZ159) (X' := cX158) (ciX3_init_10 hW) ql_X6_36 qi_X3_init qn_X3 qc_X3_init rfl ⟨by decide, by decide, rfl⟩ rfl ⟨Nat.le_of_ble_eq_true rfl, Nat.le_of_ble_eq_true rfl⟩ (by decide) (rest := [.ref (w.1 52), .ref (w.1 47)]) (Nat.le_of_ble_eq_true rfl) dX6_init_55 ⟨Nat.le_of_ble_eq_true rfl, Nat.le_of_ble_eq_true rfl⟩ rfl ?_
  refine ww_putR (pc := 58) hC (i := 47) (t := 52) 6 8 ⟨by decide +kernel, by decide +kernel⟩ RX6 (by decide) (by decide) rfl qf_X6_39 rfl hin rfl rfl rfl rfl (Z' := cZ160) rfl dX6_init_58 ?_
  refine ww_aload_n (pc := 61) hC dX6_init_61 0 rfl ?_
  refine ww_new (pc := 62) hC 3 (by decide) (ct0 hW _) (n := 54) (by decide +kernel) rfl (Z' := cZ161) rfl (X' := cX162) rfl qk_X6_34 qa_X3 qn_X3 dX6_init_62 (Nat.le_of_ble_eq_true rfl) (Nat.le_of_ble_eq_true rfl) ?_
  refine ww_dup (pc := 65) hC dX6_init_65 rfl ?_
  refine ww_bipush (pc := 66) hC (v := (6 : Int32)) dX6_init_66 (by decide) ?_
  refine ww_callI (pc := 68) hC [.int (6 : Int32)] (mc := 1) (ms := 6) (Z' := cZ165) (X' := cX164) (ciX3_init_11 hW) ql_X6_36 qi_X3_init qn_X3 qc_X3_init rfl ⟨by decide, by decide, rfl⟩ rfl ⟨Nat.le_of_ble_eq_true rfl, Nat.le_of_ble_eq_true rfl⟩ (by decide) (rest := [.ref (w.1 54), .ref (w.1 47)]) (Nat.le_of_ble_eq_true rfl) dX6_init_68 ⟨Nat.le_of_ble_eq_true rfl, Nat.le_of_ble_eq_true rfl⟩ rfl ?_
  refine ww_putR (pc := 71) hC (i := 47) (t := 54) 6 9 ⟨by decide +kernel, by decide +kernel⟩ RX6 (by decide) (by decide) rfl qf_X6_43 rfl hin rfl rfl rfl rfl (Z' := cZ166) rfl dX6_init_71 ?_
  refine ww_aload_n (pc := 74) hC dX6_init_74 0 rfl ?_
  refine ww_new (pc := 75) hC 3 (by decide) (ct0 hW _) (n := 56) (by decide +kernel) rfl (Z' := cZ167) rfl (X' := cX168) rfl qk_X6_34 qa_X3 qn_X3 dX6_init_75 (Nat.le_of_ble_eq_true rfl) (Nat.le_of_ble_eq_true rfl) ?_
  refine ww_dup (pc := 78) hC dX6_init_78 rfl ?_
  refine ww_bipush (pc := 79) hC (v := (10 : Int32)) dX6_init_79 (by decide) ?_
  refine ww_callI (pc := 81) hC [.int (10 : Int32)] (mc := 1) (ms := 10) (Z' := cZ171) (X' := cX170) (ciX3_init_12 hW) ql_X6_36 qi_X3_init qn_X3 qc_X3_init rfl ⟨by decide, by decide, rfl⟩ rfl ⟨Nat.le_of_ble_eq_true rfl, Nat.le_of_ble_eq_true rfl⟩ (by decide) (rest := [.ref (w.1 56), .ref (w.1 47)]) (Nat.le_of_ble_eq_true rfl) dX6_init_81 ⟨Nat.le_of_ble_eq_true rfl, Nat.le_of_ble_eq_true rfl⟩ rfl ?_
  refine ww_putR (pc := 84) hC (i := 47) (t := 56) 6 10 ⟨by decide +kernel, by decide +kernel⟩ RX6 (by decide) (by decide) rfl qf_X6_46 rfl hin rfl rfl rfl rfl (Z' := cZ172) rfl dX6_init_84 ?_
  refine ww_aload_n (pc := 87) hC dX6_init_87 0 rfl ?_
  refine ww_new (pc := 88) hC 3 (by decide) (ct0 hW _) (n := 58) (by decide +kernel) rfl (Z' := cZ173) rfl (X' := cX174) rfl qk_X6_34 qa_X3 qn_X3 dX6_init_88 (Nat.le_of_ble_eq_true rfl) (Nat.le_of_ble_eq_true rfl) ?_
  refine ww_dup (pc := 91) hC dX6_init_91 rfl ?_
  refine ww_bipush (pc := 92) hC (v := (10 : Int32)) dX6_init_92 (by decide) ?_
  refine ww_callI (pc := 94) hC [.int (10 : Int32)] (mc := 1) (ms := 10) (Z' := cZ177) (X' := cX176) (ciX3_init_13 hW) ql_X6_36 qi_X3_init qn_X3 qc_X3_init rfl ⟨by decide, by decide, rfl⟩ rfl ⟨Nat.le_of_ble_eq_true rfl, Nat.le_of_ble_eq_true rfl⟩ (by decide) (rest := [.ref (w.1 58), .ref (w.1 47)]) (Nat.le_of_ble_eq_true rfl) dX6_init_94 ⟨Nat.le_of_ble_eq_true rfl, Nat.le_of_ble_eq_true rfl⟩ rfl ?_
  refine ww_putR (pc := 97) hC (i := 47) (t := 58) 6 11 ⟨by decide +kernel, by decide +kernel⟩ RX6 (by decide) (by decide) rfl qf_X6_49 rfl hin rfl rfl rfl rfl (Z' := cZ178) rfl dX6_init_97 ?_
  exact ww_vret (pc := 100) hC hr (u := ()) (r := ()) rfl dX6_init_100
def cZ179 : XS := stR cZ178 0 4 47
theorem rc_cZ179 : RC cZ179 := RC.s rc_cZ178 (by decide +kernel)
def cZ180 : XS := newO 60 cZ179 6
theorem rc_cZ180 : RC cZ180 := RC.o rc_cZ179 (by decide +kernel)
def cX181 : XD := zX cX176 60
def cX182 : XD := wI cX181 60 1 (-1 : Int32)
def cZ183 : XS := newA 61 cZ180 13 6
theorem rc_cZ183 : RC cZ183 := RC.a rc_cZ180 (by decide +kernel)
def cX184 : XD := zX cX182 61
def cZ185 : XS := stR cZ183 60 4 61
theorem rc_cZ185 : RC cZ185 := RC.s rc_cZ183 (by decide +kernel)
def cX186 : XD := fillI cX184 61 6 (3 : Int32)
def cZ187 : XS := newA 62 cZ185 13 6
theorem rc_cZ187 : RC cZ187 := RC.a rc_cZ185 (by decide +kernel)
def cX188 : XD := zX cX186 62
def cZ189 : XS := stR cZ187 60 5 62
theorem rc_cZ189 : RC cZ189 := RC.s rc_cZ187 (by decide +kernel)
def cZ190 : XS := newA 63 cZ189 13 6
theorem rc_cZ190 : RC cZ190 := RC.a rc_cZ189 (by decide +kernel)
def cX191 : XD := zX cX188 63
def cZ192 : XS := stR cZ190 60 6 63
theorem rc_cZ192 : RC cZ192 := RC.s rc_cZ190 (by decide +kernel)
def cZ193 : XS := newA 64 cZ192 13 24
theorem rc_cZ193 : RC cZ193 := RC.a rc_cZ192 (by decide +kernel)
def cX194 : XD := zX cX191 64
def cZ195 : XS := stR cZ193 60 7 64
theorem rc_cZ195 : RC cZ195 := RC.s rc_cZ193 (by decide +kernel)
def cZ196 : XS := newO 65 cZ195 3
theorem rc_cZ196 : RC cZ196 := RC.o rc_cZ195 (by decide +kernel)
def cX197 : XD := zX cX194 65
def cZ198 : XS := newA 66 cZ196 13 4
theorem rc_cZ198 : RC cZ198 := RC.a rc_cZ196 (by decide +kernel)
def cX199 : XD := zX cX197 66
def cZ200 : XS := stR cZ198 65 0 66
theorem rc_cZ200 : RC cZ200 := RC.s rc_cZ198 (by decide +kernel)
set_option maxHeartbeats 40000000 in
set_option maxRecDepth 100000 in
theorem ciX3_init_15 {l : Launch} {E : XE} {w : XW} (hW : ∀ i : Nat, w.1 i = w.1 0 + i) : Ct l E w yX3_init (wsM yX3_init cX3_init 2 none) (rmX 1 1 4) 1 4 [.ref (w.1 65), .int (4 : Int32)] (w.1 (sn cZ196)) (w.1 (sn cZ200)) cZ196 cZ200 cX197 cX199 none := by
  refine ct_of (by decide) (Nat.le_of_ble_eq_true rfl) ?_
  intro p e s m args below meth c hC hr hin hav
  refine ww_lv (lv' := [(0, .ref (w.1 65)), (1, .int (4 : Int32))]) rfl ?_
  refine ww_aload_n (pc := 0) hC dX3_init_0 0 rfl ?_
  refine ww_objInit (pc := 1) hC ql_X3_3 qi_java_lang_Object__init_ qc_java_lang_Object__init_ dX3_init_1 ⟨Nat.le_of_ble_eq_true rfl, Nat.le_of_ble_eq_true rfl⟩ (Nat.le_of_ble_eq_true rfl) ?_
  refine ww_aload_n (pc := 4) hC dX3_init_4 0 rfl ?_
  refine ww_iconst (pc := 5) hC (v := (0 : Int32)) dX3_init_5 (by decide) ?_
  refine ww_iload_n (pc := 6) hC dX3_init_6 1 rfl ?_
  refine ww_max (pc := 7) hC ql_X3_9 qt_J9_max_7cf53 qn_J9 qc_J9_max_7cf53 dX3_init_7 ⟨Nat.le_of_ble_eq_true rfl, Nat.le_of_ble_eq_true rfl⟩ (Nat.le_of_ble_eq_true rfl) ⟨Nat.le_of_ble_eq_true rfl, Nat.le_of_ble_eq_true rfl⟩ ?_
  rw [show (if (0 : Int32) < (4 : Int32) then (4 : Int32) else (0 : Int32)) = (4 : Int32) by decide]
  refine ww_newa (pc := 10) hC 13 (by decide) (by decide) rfl (ct0 hW _) (n := 66) (by decide +kernel) (by decide) (N := 4) (by decide) (Z' := cZ198) rfl (X' := cX199) rfl (by decide) qy_FieldType_int dX3_init_10 (Nat.le_of_ble_eq_true rfl) (Nat.le_of_ble_eq_true rfl) ?_
  refine ww_putR (pc := 12) hC (i := 65) (t := 66) 3 0 ⟨by decide +kernel, by decide +kernel⟩ RX3 (by decide) (by decide) rfl qf_X3_15 rfl hin rfl rfl rfl rfl (Z' := cZ200) rfl dX3_init_12 ?_
  exact ww_vret (pc := 15) hC hr (u := ()) (r := ()) rfl dX3_init_15
def cZ201 : XS := stR cZ200 60 8 65
theorem rc_cZ201 : RC cZ201 := RC.s rc_cZ200 (by decide +kernel)
def cZ202 : XS := newO 67 cZ201 3
theorem rc_cZ202 : RC cZ202 := RC.o rc_cZ201 (by decide +kernel)
def cX203 : XD := zX cX199 67
def cZ204 : XS := newA 68 cZ202 13 6
theorem rc_cZ204 : RC cZ204 := RC.a rc_cZ202 (by decide +kernel)
def cX205 : XD := zX cX203 68
def cZ206 : XS := stR cZ204 67 0 68
theorem rc_cZ206 : RC cZ206 := RC.s rc_cZ204 (by decide +kernel)
set_option maxHeartbeats 40000000 in
set_option maxRecDepth 100000 in
theorem ciX3_init_16 {l : Launch} {E : XE} {w : XW} (hW : ∀ i : Nat, w.1 i = w.1 0 + i) : Ct l E w yX3_init (wsM yX3_init cX3_init 2 none) (rmX 1 1 6) 1 6 [.ref (w.1 67), .int (6 : Int32)] (w.1 (sn cZ202)) (w.1 (sn cZ206)) cZ202 cZ206 cX203 cX205 none := by
  refine ct_of (by decide) (Nat.le_of_ble_eq_true rfl) ?_
  intro p e s m args below meth c hC hr hin hav
  refine ww_lv (lv' := [(0, .ref (w.1 67)), (1, .int (6 : Int32))]) rfl ?_
  refine ww_aload_n (pc := 0) hC dX3_init_0 0 rfl ?_
  refine ww_objInit (pc := 1) hC ql_X3_3 qi_java_lang_Object__init_ qc_java_lang_Object__init_ dX3_init_1 ⟨Nat.le_of_ble_eq_true rfl, Nat.le_of_ble_eq_true rfl⟩ (Nat.le_of_ble_eq_true rfl) ?_
  refine ww_aload_n (pc := 4) hC dX3_init_4 0 rfl ?_
  refine ww_iconst (pc := 5) hC (v := (0 : Int32)) dX3_init_5 (by decide) ?_
  refine ww_iload_n (pc := 6) hC dX3_init_6 1 rfl ?_
  refine ww_max (pc := 7) hC ql_X3_9 qt_J9_max_7cf53 qn_J9 qc_J9_max_7cf53 dX3_init_7 ⟨Nat.le_of_ble_eq_true rfl, Nat.le_of_ble_eq_true rfl⟩ (Nat.le_of_ble_eq_true rfl) ⟨Nat.le_of_ble_eq_true rfl, Nat.le_of_ble_eq_true rfl⟩ ?_
  rw [show (if (0 : Int32) < (6 : Int32) then (6 : Int32) else (0 : Int32)) = (6 : Int32) by decide]
  refine ww_newa (pc := 10) hC 13 (by decide) (by decide) rfl (ct0 hW _) (n := 68) (by decide +kernel) (by decide) (N := 6) (by decide) (Z' := cZ204) rfl (X' := cX205) rfl (by decide) qy_FieldType_int dX3_init_10 (Nat.le_of_ble_eq_true rfl) (Nat.le_of_ble_eq_true rfl) ?_
  refine ww_putR (pc := 12) hC (i := 67) (t := 68) 3 0 ⟨by decide +kernel, by decide +kernel⟩ RX3 (by decide) (by decide) rfl qf_X3_15 rfl hin rfl rfl rfl rfl (Z' := cZ206) rfl dX3_init_12 ?_
  exact ww_vret (pc := 15) hC hr (u := ()) (r := ()) rfl dX3_init_15
def cZ207 : XS := stR cZ206 60 9 67
theorem rc_cZ207 : RC cZ207 := RC.s rc_cZ206 (by decide +kernel)
def cZ208 : XS := newO 69 cZ207 3
theorem rc_cZ208 : RC cZ208 := RC.o rc_cZ207 (by decide +kernel)
def cX209 : XD := zX cX205 69
def cZ210 : XS := newA 70 cZ208 13 10
theorem rc_cZ210 : RC cZ210 := RC.a rc_cZ208 (by decide +kernel)
def cX211 : XD := zX cX209 70
def cZ212 : XS := stR cZ210 69 0 70
theorem rc_cZ212 : RC cZ212 := RC.s rc_cZ210 (by decide +kernel)
set_option maxHeartbeats 40000000 in
set_option maxRecDepth 100000 in
theorem ciX3_init_17 {l : Launch} {E : XE} {w : XW} (hW : ∀ i : Nat, w.1 i = w.1 0 + i) : Ct l E w yX3_init (wsM yX3_init cX3_init 2 none) (rmX 1 1 10) 1 10 [.ref (w.1 69), .int (10 : Int32)] (w.1 (sn cZ208)) (w.1 (sn cZ212)) cZ208 cZ212 cX209 cX211 none := by
  refine ct_of (by decide) (Nat.le_of_ble_eq_true rfl) ?_
  intro p e s m args below meth c hC hr hin hav
  refine ww_lv (lv' := [(0, .ref (w.1 69)), (1, .int (10 : Int32))]) rfl ?_
  refine ww_aload_n (pc := 0) hC dX3_init_0 0 rfl ?_
  refine ww_objInit (pc := 1) hC ql_X3_3 qi_java_lang_Object__init_ qc_java_lang_Object__init_ dX3_init_1 ⟨Nat.le_of_ble_eq_true rfl, Nat.le_of_ble_eq_true rfl⟩ (Nat.le_of_ble_eq_true rfl) ?_
  refine ww_aload_n (pc := 4) hC dX3_init_4 0 rfl ?_
  refine ww_iconst (pc := 5) hC (v := (0 : Int32)) dX3_init_5 (by decide) ?_
  refine ww_iload_n (pc := 6) hC dX3_init_6 1 rfl ?_
  refine ww_max (pc := 7) hC ql_X3_9 qt_J9_max_7cf53 qn_J9 qc_J9_max_7cf53 dX3_init_7 ⟨Nat.le_of_ble_eq_true rfl, Nat.le_of_ble_eq_true rfl⟩ (Nat.le_of_ble_eq_true rfl) ⟨Nat.le_of_ble_eq_true rfl, Nat.le_of_ble_eq_true rfl⟩ ?_
  rw [show (if (0 : Int32) < (10 : Int32) then (10 : Int32) else (0 : Int32)) = (10 : Int32) by decide]
  refine ww_newa (pc := 10) hC 13 (by decide) (by decide) rfl (ct0 hW _) (n := 70) (by decide +kernel) (by decide) (N := 10) (by decide) (Z' := cZ210) rfl (X' := cX211) rfl (by decide) qy_FieldType_int dX3_init_10 (Nat.le_of_ble_eq_true rfl) (Nat.le_of_ble_eq_true rfl) ?_
  refine ww_putR (pc := 12) hC (i := 69) (t := 70) 3 0 ⟨by decide +kernel, by decide +kernel⟩ RX3 (by decide) (by decide) rfl qf_X3_15 rfl hin rfl rfl rfl rfl (Z' := cZ212) rfl dX3_init_12 ?_
  exact ww_vret (pc := 15) hC hr (u := ()) (r := ()) rfl dX3_init_15
def cZ213 : XS := stR cZ212 60 10 69
theorem rc_cZ213 : RC cZ213 := RC.s rc_cZ212 (by decide +kernel)
def cZ214 : XS := newO 71 cZ213 3
theorem rc_cZ214 : RC cZ214 := RC.o rc_cZ213 (by decide +kernel)
def cX215 : XD := zX cX211 71
def cZ216 : XS := newA 72 cZ214 13 10
theorem rc_cZ216 : RC cZ216 := RC.a rc_cZ214 (by decide +kernel)
def cX217 : XD := zX cX215 72
def cZ218 : XS := stR cZ216 71 0 72
theorem rc_cZ218 : RC cZ218 := RC.s rc_cZ216 (by decide +kernel)
set_option maxHeartbeats 40000000 in
set_option maxRecDepth 100000 in
theorem ciX3_init_18 {l : Launch} {E : XE} {w : XW} (hW : ∀ i : Nat, w.1 i = w.1 0 + i) : Ct l E w yX3_init (wsM yX3_init cX3_init 2 none) (rmX 1 1 10) 1 10 [.ref (w.1 71), .int (10 : Int32)] (w.1 (sn cZ214)) (w.1 (sn cZ218)) cZ214 cZ218 cX215 cX217 none := by
  refine ct_of (by decide) (Nat.le_of_ble_eq_true rfl) ?_
  intro p e s m args below meth c hC hr hin hav
  refine ww_lv (lv' := [(0, .ref (w.1 71)), (1, .int (10 : Int32))]) rfl ?_
  refine ww_aload_n (pc := 0) hC dX3_init_0 0 rfl ?_
  refine ww_objInit (pc := 1) hC ql_X3_3 qi_java_lang_Object__init_ qc_java_lang_Object__init_ dX3_init_1 ⟨Nat.le_of_ble_eq_true rfl, Nat.le_of_ble_eq_true rfl⟩ (Nat.le_of_ble_eq_true rfl) ?_
  refine ww_aload_n (pc := 4) hC dX3_init_4 0 rfl ?_
  refine ww_iconst (pc := 5) hC (v := (0 : Int32)) dX3_init_5 (by decide) ?_
  refine ww_iload_n (pc := 6) hC dX3_init_6 1 rfl ?_
  refine ww_max (pc := 7) hC ql_X3_9 qt_J9_max_7cf53 qn_J9 qc_J9_max_7cf53 dX3_init_7 ⟨Nat.le_of_ble_eq_true rfl, Nat.le_of_ble_eq_true rfl⟩ (Nat.le_of_ble_eq_true rfl) ⟨Nat.le_of_ble_eq_true rfl, Nat.le_of_ble_eq_true rfl⟩ ?_
  rw [show (if (0 : Int32) < (10 : Int32) then (10 : Int32) else (0 : Int32)) = (10 : Int32) by decide]
  refine ww_newa (pc := 10) hC 13 (by decide) (by decide) rfl (ct0 hW _) (n := 72) (by decide +kernel) (by decide) (N := 10) (by decide) (Z' := cZ216) rfl (X' := cX217) rfl (by decide) qy_FieldType_int dX3_init_10 (Nat.le_of_ble_eq_true rfl) (Nat.le_of_ble_eq_true rfl) ?_
  refine ww_putR (pc := 12) hC (i := 71) (t := 72) 3 0 ⟨by decide +kernel, by decide +kernel⟩ RX3 (by decide) (by decide) rfl qf_X3_15 rfl hin rfl rfl rfl rfl (Z' := cZ218) rfl dX3_init_12 ?_
  exact ww_vret (pc := 15) hC hr (u := ()) (r := ()) rfl dX3_init_15
def cZ219 : XS := stR cZ218 60 11 71
theorem rc_cZ219 : RC cZ219 := RC.s rc_cZ218 (by decide +kernel)
set_option maxHeartbeats 40000000 in
set_option maxRecDepth 100000 in
theorem ciX6_init_14 {l : Launch} {E : XE} {w : XW} (hW : ∀ i : Nat, w.1 i = w.1 0 + i) : Ct l E w yX6_init (wsM yX6_init cX6_init 1 none) (rmX 2 12 84) 12 84 [.ref (w.1 60)] (w.1 (sn cZ180)) (w.1 (sn cZ219)) cZ180 cZ219 cX181 cX217 none := by
  refine ct_of (by decide) (Nat.le_of_ble_eq_true rfl) ?_
  intro p e s m args below meth c hC hr hin hav
  refine ww_lv (lv' := [(0, .ref (w.1 60))]) rfl ?_
  refine ww_aload_n (pc := 0) hC dX6_init_0 0 rfl ?_
  refine ww_objInit (pc := 1) hC ql_X6_3 qi_java_lang_Object__init_ qc_java_lang_Object__init_ dX6_init_1 ⟨Nat.le_of_ble_eq_true rfl, Nat.le_of_ble_eq_true rfl⟩ (Nat.le_of_ble_eq_true rfl) ?_
  refine ww_aload_n (pc := 4) hC dX6_init_4 0 rfl ?_
  refine ww_iconst (pc := 5) hC (v := (-1 : Int32)) dX6_init_5 (by decide) ?_
  refine ww_putI (pc := 6) hC (i := 60) 6 1 ⟨by decide +kernel, by decide +kernel⟩ RX6 (by decide) (by decide) rfl qf_X6_9 rfl rfl rfl rfl dX6_init_6 ?_
  refine ww_nmX (X' := cX182) rfl ?_
  refine ww_aload_n (pc := 9) hC dX6_init_9 0 rfl ?_
  refine ww_bipush (pc := 10) hC (v := (6 : Int32)) dX6_init_10 (by decide) ?_
  refine ww_newa (pc := 12) hC 13 (by decide) (by decide) rfl (ct0 hW _) (n := 61) (by decide +kernel) (by decide) (N := 6) (by decide) (Z' := cZ183) rfl (X' := cX184) rfl (by decide) qy_FieldType_int dX6_init_12 (Nat.le_of_ble_eq_true rfl) (Nat.le_of_ble_eq_true rfl) ?_
  refine ww_putR (pc := 14) hC (i := 60) (t := 61) 6 4 ⟨by decide +kernel, by decide +kernel⟩ RX6 (by decide) (by decide) rfl qf_X6_15 rfl hin rfl rfl rfl rfl (Z' := cZ185) rfl dX6_init_14 ?_
  refine ww_aload_n (pc := 17) hC dX6_init_17 0 rfl ?_
  refine ww_getR (pc := 18) hC (i := 60) 6 4 61 ⟨by decide +kernel, by decide +kernel⟩ RX6 (by decide) (by decide) rfl (by decide +kernel) qf_X6_15 rfl dX6_init_18 ?_
  refine ww_iconst (pc := 21) hC (v := (3 : Int32)) dX6_init_21 (by decide) ?_
  refine ww_callSv (pc := 22) hC [.ref (w.1 61), .int (3 : Int32)] (X' := cX186) (ceJ7_fill_53178 (show KA cZ185 61 13 (sL cZ185 61) from ⟨by decide +kernel, by decide +kernel, rfl⟩) (fill_eq (n := 6) (by decide) (show sL cZ185 61 = 6 by decide +kernel))) ql_X6_19 qt_J7_fill_53178 qn_J7 qc_J7_fill_53178 ⟨by decide, by decide, rfl⟩ rfl ⟨Nat.le_of_ble_eq_true rfl, Nat.le_of_ble_eq_true rfl⟩ (by decide) (rest := []) (Nat.le_of_ble_eq_true rfl) dX6_init_22 ⟨Nat.le_of_ble_eq_true rfl, Nat.le_of_ble_eq_true rfl⟩ rfl ?_
  refine ww_aload_n (pc := 25) hC dX6_init_25 0 rfl ?_
  refine ww_bipush (pc := 26) hC (v := (6 : Int32)) dX6_init_26 (by decide) ?_
  refine ww_newa (pc := 28) hC 13 (by decide) (by decide) rfl (ct0 hW _) (n := 62) (by decide +kernel) (by decide) (N := 6) (by decide) (Z' := cZ187) rfl (X' := cX188) rfl (by decide) qy_FieldType_int dX6_init_28 (Nat.le_of_ble_eq_true rfl) (Nat.le_of_ble_eq_true rfl) ?_
  refine ww_putR (pc := 30) hC (i := 60) (t := 62) 6 5 ⟨by decide +kernel, by decide +kernel⟩ RX6 (by decide) (by decide) rfl qf_X6_25 rfl hin rfl rfl rfl rfl (Z' := cZ189) rfl dX6_init_30 ?_
  refine ww_aload_n (pc := 33) hC dX6_init_33 0 rfl ?_
  refine ww_bipush (pc := 34) hC (v := (6 : Int32)) dX6_init_34 (by decide) ?_
  refine ww_newa (pc := 36) hC 13 (by decide) (by decide) rfl (ct0 hW _) (n := 63) (by decide +kernel) (by decide) (N := 6) (by decide) (Z' := cZ190) rfl (X' := cX191) rfl (by decide) qy_FieldType_int dX6_init_36 (Nat.le_of_ble_eq_true rfl) (Nat.le_of_ble_eq_true rfl) ?_
  refine ww_putR (pc := 38) hC (i := 60) (t := 63) 6 6 ⟨by decide +kernel, by decide +kernel⟩ RX6 (by decide) (by decide) rfl qf_X6_28 rfl hin rfl rfl rfl rfl (Z' := cZ192) rfl dX6_init_38 ?_
  refine ww_aload_n (pc := 41) hC dX6_init_41 0 rfl ?_
  refine ww_bipush (pc := 42) hC (v := (24 : Int32)) dX6_init_42 (by decide) ?_
  refine ww_newa (pc := 44) hC 13 (by decide) (by decide) rfl (ct0 hW _) (n := 64) (by decide +kernel) (by decide) (N := 24) (by decide) (Z' := cZ193) rfl (X' := cX194) rfl (by decide) qy_FieldType_int dX6_init_44 (Nat.le_of_ble_eq_true rfl) (Nat.le_of_ble_eq_true rfl) ?_
  refine ww_putR (pc := 46) hC (i := 60) (t := 64) 6 7 ⟨by decide +kernel, by decide +kernel⟩ RX6 (by decide) (by decide) rfl qf_X6_31 rfl hin rfl rfl rfl rfl (Z' := cZ195) rfl dX6_init_46 ?_
  refine ww_aload_n (pc := 49) hC dX6_init_49 0 rfl ?_
  refine ww_new (pc := 50) hC 3 (by decide) (ct0 hW _) (n := 65) (by decide +kernel) rfl (Z' := cZ196) rfl (X' := cX197) rfl qk_X6_34 qa_X3 qn_X3 dX6_init_50 (Nat.le_of_ble_eq_true rfl) (Nat.le_of_ble_eq_true rfl) ?_
  refine ww_dup (pc := 53) hC dX6_init_53 rfl ?_
  refine ww_iconst (pc := 54) hC (v := (4 : Int32)) dX6_init_54 (by decide) ?_
  refine ww_callI (pc := 55) hC [.int (4 : Int32)] (mc := 1) (ms := 4) (Z' := cZ200) (X' := cX199) (ciX3_init_15 hW) ql_X6_36 qi_X3_init qn_X3 qc_X3_init rfl ⟨by decide, by decide, rfl⟩ rfl ⟨Nat.le_of_ble_eq_true rfl, Nat.le_of_ble_eq_true rfl⟩ (by decide) (rest := [.ref (w.1 65), .ref (w.1 60)]) (Nat.le_of_ble_eq_true rfl) dX6_init_55 ⟨Nat.le_of_ble_eq_true rfl, Nat.le_of_ble_eq_true rfl⟩ rfl ?_
  refine ww_putR (pc := 58) hC (i := 60) (t := 65) 6 8 ⟨by decide +kernel, by decide +kernel⟩ RX6 (by decide) (by decide) rfl qf_X6_39 rfl hin rfl rfl rfl rfl (Z' := cZ201) rfl dX6_init_58 ?_
  refine ww_aload_n (pc := 61) hC dX6_init_61 0 rfl ?_
  refine ww_new (pc := 62) hC 3 (by decide) (ct0 hW _) (n := 67) (by decide +kernel) rfl (Z' := cZ202) rfl (X' := cX203) rfl qk_X6_34 qa_X3 qn_X3 dX6_init_62 (Nat.le_of_ble_eq_true rfl) (Nat.le_of_ble_eq_true rfl) ?_
  refine ww_dup (pc := 65) hC dX6_init_65 rfl ?_
  refine ww_bipush (pc := 66) hC (v := (6 : Int32)) dX6_init_66 (by decide) ?_
  refine ww_callI (pc := 68) hC [.int (6 : Int32)] (mc := 1) (ms := 6) (Z' := cZ206) (X' := cX205) (ciX3_init_16 hW) ql_X6_36 qi_X3_init qn_X3 qc_X3_init rfl ⟨by decide, by decide, rfl⟩ rfl ⟨Nat.le_of_ble_eq_true rfl, Nat.le_of_ble_eq_true rfl⟩ (by decide) (rest := [.ref (w.1 67), .ref (w.1 60)]) (Nat.le_of_ble_eq_true rfl) dX6_init_68 ⟨Nat.le_of_ble_eq_true rfl, Nat.le_of_ble_eq_true rfl⟩ rfl ?_
  refine ww_putR (pc := 71) hC (i := 60) (t := 67) 6 9 ⟨by decide +kernel, by decide +kernel⟩ RX6 (by decide) (by decide) rfl qf_X6_43 rfl hin rfl rfl rfl rfl (Z' := cZ207) rfl dX6_init_71 ?_
  refine ww_aload_n (pc := 74) hC dX6_init_74 0 rfl ?_
  refine ww_new (pc := 75) hC 3 (by decide) (ct0 hW _) (n := 69) (by decide +kernel) rfl (Z' := cZ208) rfl (X' := cX209) rfl qk_X6_34 qa_X3 qn_X3 dX6_init_75 (Nat.le_of_ble_eq_true rfl) (Nat.le_of_ble_eq_true rfl) ?_
  refine ww_dup (pc := 78) hC dX6_init_78 rfl ?_
  refine ww_bipush (pc := 79) hC (v := (10 : Int32)) dX6_init_79 (by decide) ?_
  refine ww_callI (pc := 81) hC [.int (10 : Int32)] (mc := 1) (ms := 10) (Z' := cZ212) (X' := cX211) (ciX3_init_17 hW) ql_X6_36 qi_X3_init qn_X3 qc_X3_init rfl ⟨by decide, by decide, rfl⟩ rfl ⟨Nat.le_of_ble_eq_true rfl, Nat.le_of_ble_eq_true rfl⟩ (by decide) (rest := [.ref (w.1 69), .ref (w.1 60)]) (Nat.le_of_ble_eq_true rfl) dX6_init_81 ⟨Nat.le_of_ble_eq_true rfl, Nat.le_of_ble_eq_true rfl⟩ rfl ?_
  refine ww_putR (pc := 84) hC (i := 60) (t := 69) 6 10 ⟨by decide +kernel, by decide +kernel⟩ RX6 (by decide) (by decide) rfl qf_X6_46 rfl hin rfl rfl rfl rfl (Z' := cZ213) rfl dX6_init_84 ?_
  refine ww_aload_n (pc := 87) hC dX6_init_87 0 rfl ?_
  refine ww_new (pc := 88) hC 3 (by decide) (ct0 hW _) (n := 71) (by decide +kernel) rfl (Z' := cZ214) rfl (X' := cX215) rfl qk_X6_34 qa_X3 qn_X3 dX6_init_88 (Nat.le_of_ble_eq_true rfl) (Nat.le_of_ble_eq_true rfl) ?_
  refine ww_dup (pc := 91) hC dX6_init_91 rfl ?_
  refine ww_bipush (pc := 92) hC (v := (10 : Int32)) dX6_init_92 (by decide) ?_
  refine ww_callI (pc := 94) hC [.int (10 : Int32)] (mc := 1) (ms := 10) (Z' := cZ218) (X' := cX217) (ciX3_init_18 hW) ql_X6_36 qi_X3_init qn_X3 qc_X3_init rfl ⟨by decide, by decide, rfl⟩ rfl ⟨Nat.le_of_ble_eq_true rfl, Nat.le_of_ble_eq_true rfl⟩ (by decide) (rest := [.ref (w.1 71), .ref (w.1 60)]) (Nat.le_of_ble_eq_true rfl) dX6_init_94 ⟨Nat.le_of_ble_eq_true rfl, Nat.le_of_ble_eq_true rfl⟩ rfl ?_
  refine ww_putR (pc := 97) hC (i := 60) (t := 71) 6 11 ⟨by decide +kernel, by decide +kernel⟩ RX6 (by decide) (by decide) rfl qf_X6_49 rfl hin rfl rfl rfl rfl (Z' := cZ219) rfl dX6_init_97 ?_
  exact ww_vret (pc := 100) hC hr (u := ()) (r := ()) rfl dX6_init_100
def cZ220 : XS := stR cZ219 0 5 60
theorem rc_cZ220 : RC cZ220 := RC.s rc_cZ219 (by decide +kernel)
def cZ221 : XS := newA 73 cZ220 18 5
theorem rc_cZ221 : RC cZ221 := RC.a rc_cZ220 (by decide +kernel)
def cX222 : XD := zX cX217 73
def cZ223 : XS := stR cZ221 0 7 73
theorem rc_cZ223 : RC cZ223 := RC.s rc_cZ221 (by decide +kernel)
def cZ224 : XS := newO 74 cZ223 6
theorem rc_cZ224 : RC cZ224 := RC.o rc_cZ223 (by decide +kernel)
def cX225 : XD := zX cX222 74
def cX226 : XD := wI cX225 74 1 (-1 : Int32)
def cZ227 : XS := newA 75 cZ224 13 6
theorem rc_cZ227 : RC cZ227 := RC.a rc_cZ224 (by decide +kernel)
def cX228 : XD := zX cX226 75
def cZ229 : XS := stR cZ227 74 4 75
theorem rc_cZ229 : RC cZ229 := RC.s rc_cZ227 (by decide +kernel)
def cX230 : XD := fillI cX228 75 6 (3 : Int32)
def cZ231 : XS := newA 76 cZ229 13 6
theorem rc_cZ231 : RC cZ231 := RC.a rc_cZ229 (by decide +kernel)
def cX232 : XD := zX cX230 76
def cZ233 : XS := stR cZ231 74 5 76
theorem rc_cZ233 : RC cZ233 := RC.s rc_cZ231 (by decide +kernel)
def cZ234 : XS := newA 77 cZ233 13 6
theorem rc_cZ234 : RC cZ234 := RC.a rc_cZ233 (by decide +kernel)
def cX235 : XD := zX cX232 77
def cZ236 : XS := stR cZ234 74 6 77
theorem rc_cZ236 : RC cZ236 := RC.s rc_cZ234 (by decide +kernel)
def cZ237 : XS := newA 78 cZ236 13 24
theorem rc_cZ237 : RC cZ237 := RC.a rc_cZ236 (by decide +kernel)
def cX238 : XD := zX cX235 78
def cZ239 : XS := stR cZ237 74 7 78
theorem rc_cZ239 : RC cZ239 := RC.s rc_cZ237 (by decide +kernel)
def cZ240 : XS := newO 79 cZ239 3
theorem rc_cZ240 : RC cZ240 := RC.o rc_cZ239 (by decide +kernel)
def cX241 : XD := zX cX238 79
def cZ242 : XS := newA 80 cZ240 13 4
theorem rc_cZ242 : RC cZ242 := RC.a rc_cZ240 (by decide +kernel)
def cX243 : XD := zX cX241 80
def cZ244 : XS := stR cZ242 79 0 80
theorem rc_cZ244 : RC cZ244 := RC.s rc_cZ242 (by decide +kernel)
set_option maxHeartbeats 40000000 in
set_option maxRecDepth 100000 in
theorem ciX3_init_20 {l : Launch} {E : XE} {w : XW} (hW : ∀ i : Nat, w.1 i = w.1 0 + i) : Ct l E w yX3_init (wsM yX3_init cX3_init 2 none) (rmX 1 1 4) 1 4 [.ref (w.1 79), .int (4 : Int32)] (w.1 (sn cZ240)) (w.1 (sn cZ244)) cZ240 cZ244 cX241 cX243 none := by
  refine ct_of (by decide) (Nat.le_of_ble_eq_true rfl) ?_
  intro p e s m args below meth c hC hr hin hav
  refine ww_lv (lv' := [(0, .ref (w.1 79)), (1, .int (4 : Int32))]) rfl ?_
  refine ww_aload_n (pc := 0) hC dX3_init_0 0 rfl ?_
  refine ww_objInit (pc := 1) hC ql_X3_3 qi_java_lang_Object__init_ qc_java_lang_Object__init_ dX3_init_1 ⟨Nat.le_of_ble_eq_true rfl, Nat.le_of_ble_eq_true rfl⟩ (Nat.le_of_ble_eq_true rfl) ?_
  refine ww_aload_n (pc := 4) hC dX3_init_4 0 rfl ?_
  refine ww_iconst (pc := 5) hC (v := (0 : Int32)) dX3_init_5 (by decide) ?_
  refine ww_iload_n (pc := 6) hC dX3_init_6 1 rfl ?_
  refine ww_max (pc := 7) hC ql_X3_9 qt_J9_max_7cf53 qn_J9 qc_J9_max_7cf53 dX3_init_7 ⟨Nat.le_of_ble_eq_true rfl, Nat.le_of_ble_eq_true rfl⟩ (Nat.le_of_ble_eq_true rfl) ⟨Nat.le_of_ble_eq_true rfl, Nat.le_of_ble_eq_true rfl⟩ ?_
  rw [show (if (0 : Int32) < (4 : Int32) then (4 : Int32) else (0 : Int32)) = (4 : Int32) by decide]
  refine ww_newa (pc := 10) hC 13 (by decide) (by decide) rfl (ct0 hW _) (n := 80) (by decide +kernel) (by decide) (N := 4) (by decide) (Z' := cZ242) rfl (X' := cX243) rfl (by decide) qy_FieldType_int dX3_init_10 (Nat.le_of_ble_eq_true rfl) (Nat.le_of_ble_eq_true rfl) ?_
  refine ww_putR (pc := 12) hC (i := 79) (t := 80) 3 0 ⟨by decide +kernel, by decide +kernel⟩ RX3 (by decide) (by decide) rfl qf_X3_15 rfl hin rfl rfl rfl rfl (Z' := cZ244) rfl dX3_init_12 ?_
  exact ww_vret (pc := 15) hC hr (u := ()) (r := ()) rfl dX3_init_15
def cZ245 : XS := stR cZ244 74 8 79
theorem rc_cZ245 : RC cZ245 := RC.s rc_cZ244 (by decide +kernel)
def cZ246 : XS := newO 81 cZ245 3
theorem rc_cZ246 : RC cZ246 := RC.o rc_cZ245 (by decide +kernel)
def cX247 : XD := zX cX243 81
def cZ248 : XS := newA 82 cZ246 13 6
theorem rc_cZ248 : RC cZ248 := RC.a rc_cZ246 (by decide +kernel)
def cX249 : XD := zX cX247 82
def cZ250 : XS := stR cZ248 81 0 82
theorem rc_cZ250 : RC cZ250 := RC.s rc_cZ248 (by decide +kernel)
set_option maxHeartbeats 40000000 in
set_option maxRecDepth 100000 in
theorem ciX3_init_21 {l : Launch} {E : XE} {w : XW} (hW : ∀ i : Nat, w.1 i = w.1 0 + i) : Ct l E w yX3_init (wsM yX3_init cX3_init 2 none) (rmX 1 1 6) 1 6 [.ref (w.1 81), .int (6 : Int32)] (w.1 (sn cZ246)) (w.1 (sn cZ250)) cZ246 cZ250 cX247 cX249 none := by
  refine ct_of (by decide) (Nat.le_of_ble_eq_true rfl) ?_
  intro p e s m args below meth c hC hr hin hav
  refine ww_lv (lv' := [(0, .ref (w.1 81)), (1, .int (6 : Int32))]) rfl ?_
  refine ww_aload_n (pc := 0) hC dX3_init_0 0 rfl ?_
  refine ww_objInit (pc := 1) hC ql_X3_3 qi_java_lang_Object__init_ qc_java_lang_Object__init_ dX3_init_1 ⟨Nat.le_of_ble_eq_true rfl, Nat.le_of_ble_eq_true rfl⟩ (Nat.le_of_ble_eq_true rfl) ?_
  refine ww_aload_n (pc := 4) hC dX3_init_4 0 rfl ?_
  refine ww_iconst (pc := 5) hC (v := (0 : Int32)) dX3_init_5 (by decide) ?_
  refine ww_iload_n (pc := 6) hC dX3_init_6 1 rfl ?_
  refine ww_max (pc := 7) hC ql_X3_9 qt_J9_max_7cf53 qn_J9 qc_J9_max_7cf53 dX3_init_7 ⟨Nat.le_of_ble_eq_true rfl, Nat.le_of_ble_eq_true rfl⟩ (Nat.le_of_ble_eq_true rfl) ⟨Nat.le_of_ble_eq_true rfl, Nat.le_of_ble_eq_true rfl⟩ ?_
  rw [show (if (0 : Int32) < (6 : Int32) then (6 : Int32) else (0 : Int32)) = (6 : Int32) by decide]
  refine ww_newa (pc := 10) hC 13 (by decide) (by decide) rfl (ct0 hW _) (n := 82) (by decide +kernel) (by decide) (N := 6) (by decide) (Z' := cZ248) rfl (X' := cX249) rfl (by decide) qy_FieldType_int dX3_init_10 (Nat.le_of_ble_eq_true rfl) (Nat.le_of_ble_eq_true rfl) ?_
  refine ww_putR (pc := 12) hC (i := 81) (t := 82) 3 0 ⟨by decide +kernel, by decide +kernel⟩ RX3 (by decide) (by decide) rfl qf_X3_15 rfl hin rfl rfl rfl rfl (Z' := cZ250) rfl dX3_init_12 ?_
  exact ww_vret (pc := 15) hC hr (u := ()) (r := ()) rfl dX3_init_15
def cZ251 : XS := stR cZ250 74 9 81
theorem rc_cZ251 : RC cZ251 := RC.s rc_cZ250 (by decide +kernel)
def cZ252 : XS := newO 83 cZ251 3
theorem rc_cZ252 : RC cZ252 := RC.o rc_cZ251 (by decide +kernel)
def cX253 : XD := zX cX249 83
def cZ254 : XS := newA 84 cZ252 13 10
theorem rc_cZ254 : RC cZ254 := RC.a rc_cZ252 (by decide +kernel)
def cX255 : XD := zX cX253 84
def cZ256 : XS := stR cZ254 83 0 84
theorem rc_cZ256 : RC cZ256 := RC.s rc_cZ254 (by decide +kernel)
set_option maxHeartbeats 40000000 in
set_option maxRecDepth 100000 in
theorem ciX3_init_22 {l : Launch} {E : XE} {w : XW} (hW : ∀ i : Nat, w.1 i = w.1 0 + i) : Ct l E w yX3_init (wsM yX3_init cX3_init 2 none) (rmX 1 1 10) 1 10 [.ref (w.1 83), .int (10 : Int32)] (w.1 (sn cZ252)) (w.1 (sn cZ256)) cZ252 cZ256 cX253 cX255 none := by
  refine ct_of (by decide) (Nat.le_of_ble_eq_true rfl) ?_
  intro p e s m args below meth c hC hr hin hav
  refine ww_lv (lv' := [(0, .ref (w.1 83)), (1, .int (10 : Int32))]) rfl ?_
  refine ww_aload_n (pc := 0) hC dX3_init_0 0 rfl ?_
  refine ww_objInit (pc := 1) hC ql_X3_3 qi_java_lang_Object__init_ qc_java_lang_Object__init_ dX3_init_1 ⟨Nat.le_of_ble_eq_true rfl, Nat.le_of_ble_eq_true rfl⟩ (Nat.le_of_ble_eq_true rfl) ?_
  refine ww_aload_n (pc := 4) hC dX3_init_4 0 rfl ?_
  refine ww_iconst (pc := 5) hC (v := (0 : Int32)) dX3_init_5 (by decide) ?_
  refine ww_iload_n (pc := 6) hC dX3_init_6 1 rfl ?_
  refine ww_max (pc := 7) hC ql_X3_9 qt_J9_max_7cf53 qn_J9 qc_J9_max_7cf53 dX3_init_7 ⟨Nat.le_of_ble_eq_true rfl, Nat.le_of_ble_eq_true rfl⟩ (Nat.le_of_ble_eq_true rfl) ⟨Nat.le_of_ble_eq_true rfl, Nat.le_of_ble_eq_true rfl⟩ ?_
  rw [show (if (0 : Int32) < (10 : Int32) then (10 : Int32) else (0 : Int32)) = (10 : Int32) by decide]
  refine ww_newa (pc := 10) hC 13 (by decide) (by decide) rfl (ct0 hW _) (n := 84) (by decide +kernel) (by decide) (N := 10) (by decide) (Z' := cZ254) rfl (X' := cX255) rfl (by decide) qy_FieldType_int dX3_init_10 (Nat.le_of_ble_eq_true rfl) (Nat.le_of_ble_eq_true rfl) ?_
  refine ww_putR (pc := 12) hC (i := 83) (t := 84) 3 0 ⟨by decide +kernel, by decide +kernel⟩ RX3 (by decide) (by decide) rfl qf_X3_15 rfl hin rfl rfl rfl rfl (Z' := cZ256) rfl dX3_init_12 ?_
  exact ww_vret (pc := 15) hC hr (u := ()) (r := ()) rfl dX3_init_15
def cZ257 : XS := stR cZ256 74 10 83
theorem rc_cZ257 : RC cZ257 := RC.s rc_cZ256 (by decide +kernel)
def cZ258 : XS := newO 85 cZ257 3
theorem rc_cZ258 : RC cZ258 := RC.o rc_cZ257 (by decide +kernel)
def cX259 : XD := zX cX255 85
def cZ260 : XS := newA 86 cZ258 13 10
theorem rc_cZ260 : RC cZ260 := RC.a rc_cZ258 (by decide +kernel)
def cX261 : XD := zX cX259 86
def cZ262 : XS := stR cZ260 85 0 86
theorem rc_cZ262 : RC cZ262 := RC.s rc_cZ260 (by decide +kernel)
set_option maxHeartbeats 40000000 in
set_option maxRecDepth 100000 in
theorem ciX3_init_23 {l : Launch} {E : XE} {w : XW} (hW : ∀ i : Nat, w.1 i = w.1 0 + i) : Ct l E w yX3_init (wsM yX3_init cX3_init 2 none) (rmX 1 1 10) 1 10 [.ref (w.1 85), .int (10 : Int32)] (w.1 (sn cZ258)) (w.1 (sn cZ262)) cZ258 cZ262 cX259 cX261 none := by
  refine ct_of (by decide) (Nat.le_of_ble_eq_true rfl) ?_
  intro p e s m args below meth c hC hr hin hav
  refine ww_lv (lv' := [(0, .ref (w.1 85)), (1, .int (10 : Int32))]) rfl ?_
  refine ww_aload_n (pc := 0) hC dX3_init_0 0 rfl ?_
  refine ww_objInit (pc := 1) hC ql_X3_3 qi_java_lang_Object__init_ qc_java_lang_Object__init_ dX3_init_1 ⟨Nat.le_of_ble_eq_true rfl, Nat.le_of_ble_eq_true rfl⟩ (Nat.le_of_ble_eq_true rfl) ?_
  refine ww_aload_n (pc := 4) hC dX3_init_4 0 rfl ?_
  refine ww_iconst (pc := 5) hC (v := (0 : Int32)) dX3_init_5 (by decide) ?_
  refine ww_iload_n (pc := 6) hC dX3_init_6 1 rfl ?_
  refine ww_max (pc := 7) hC ql_X3_9 qt_J9_max_7cf53 qn_J9 qc_J9_max_7cf53 dX3_init_7 ⟨Nat.le_of_ble_eq_true rfl, Nat.le_of_ble_eq_true rfl⟩ (Nat.le_of_ble_eq_true rfl) ⟨Nat.le_of_ble_eq_true rfl, Nat.le_of_ble_eq_true rfl⟩ ?_
  rw [show (if (0 : Int32) < (10 : Int32) then (10 : Int32) else (0 : Int32)) = (10 : Int32) by decide]
  refine ww_newa (pc := 10) hC 13 (by decide) (by decide) rfl (ct0 hW _) (n := 86) (by decide +kernel) (by decide) (N := 10) (by decide) (Z' := cZ260) rfl (X' := cX261) rfl (by decide) qy_FieldType_int dX3_init_10 (Nat.le_of_ble_eq_true rfl) (Nat.le_of_ble_eq_true rfl) ?_
  refine ww_putR (pc := 12) hC (i := 85) (t := 86) 3 0 ⟨by decide +kernel, by decide +kernel⟩ RX3 (by decide) (by decide) rfl qf_X3_15 rfl hin rfl rfl rfl rfl (Z' := cZ262) rfl dX3_init_12 ?_
  exact ww_vret (pc := 15) hC hr (u := ()) (r := ()) rfl dX3_init_15
def cZ263 : XS := stR cZ262 74 11 85
theorem rc_cZ263 : RC cZ263 := RC.s rc_cZ262 (by decide +kernel)
set_option maxHeartbeats 40000000 in
set_option maxRecDepth 100000 in
theorem ciX6_init_19 {l : Launch} {E : XE} {w : XW} (hW : ∀ i : Nat, w.1 i = w.1 0 + i) : Ct l E w yX6_init (wsM yX6_init cX6_init 1 none) (rmX 2 12 84) 12 84 [.ref (w.1 74)] (w.1 (sn cZ224)) (w.1 (sn cZ263)) cZ224 cZ263 cX225 cX261 none := by
  refine ct_of (by decide) (Nat.le_of_ble_eq_true rfl) ?_
  intro p e s m args below meth c hC hr hin hav
  refine ww_lv (lv' := [(0, .ref (w.1 74))]) rfl ?_
  refine ww_aload_n (pc := 0) hC dX6_init_0 0 rfl ?_
  refine ww_objInit (pc := 1) hC ql_X6_3 qi_java_lang_Object__init_ qc_java_lang_Object__init_ dX6_init_1 ⟨Nat.le_of_ble_eq_true rfl, Nat.le_of_ble_eq_true rfl⟩ (Nat.le_of_ble_eq_true rfl) ?_
  refine ww_aload_n (pc := 4) hC dX6_init_4 0 rfl ?_
  refine ww_iconst (pc := 5) hC (v := (-1 : Int32)) dX6_init_5 (by decide) ?_
  refine ww_putI (pc := 6) hC (i := 74) 6 1 ⟨by decide +kernel, by decide +kernel⟩ RX6 (by decide) (by decide) rfl qf_X6_9 rfl rfl rfl rfl dX6_init_6 ?_
  refine ww_nmX (X' := cX226) rfl ?_
  refine ww_aload_n (pc := 9) hC dX6_init_9 0 rfl ?_
  refine ww_bipush (pc := 10) hC (v := (6 : Int32)) dX6_init_10 (by decide) ?_
  refine ww_newa (pc := 12) hC 13 (by decide) (by decide) rfl (ct0 hW _) (n := 75) (by decide +kernel) (by decide) (N := 6) (by decide) (Z' := cZ227) rfl (X' := cX228) rfl (by decide) qy_FieldType_int dX6_init_12 (Nat.le_of_ble_eq_true rfl) (Nat.le_of_ble_eq_true rfl) ?_
  refine ww_putR (pc := 14) hC (i := 74) (t := 75) 6 4 ⟨by decide +kernel, by decide +kernel⟩ RX6 (by decide) (by decide) rfl qf_X6_15 rfl hin rfl rfl rfl rfl (Z' := cZ229) rfl dX6_init_14 ?_
  refine ww_aload_n (pc := 17) hC dX6_init_17 0 rfl ?_
  refine ww_getR (pc := 18) hC (i := 74) 6 4 75 ⟨by decide +kernel, by decide +kernel⟩ RX6 (by decide) (by decide) rfl (by decide +kernel) qf_X6_15 rfl dX6_init_18 ?_
  refine ww_iconst (pc := 21) hC (v := (3 : Int32)) dX6_init_21 (by decide) ?_
  refine ww_callSv (pc := 22) hC [.ref (w.1 75), .int (3 : Int32)] (X' := cX230) (ceJ7_fill_53178 (show KA cZ229 75 13 (sL cZ229 75) from ⟨by decide +kernel, by decide +kernel, rfl⟩) (fill_eq (n := 6) (by decide) (show sL cZ229 75 = 6 by decide +kernel))) ql_X6_19 qt_J7_fill_53178 qn_J7 qc_J7_fill_53178 ⟨by decide, by decide, rfl⟩ rfl ⟨Nat.le_of_ble_eq_true rfl, Nat.le_of_ble_eq_true rfl⟩ (by decide) (rest := []) (Nat.le_of_ble_eq_true rfl) dX6_init_22 ⟨Nat.le_of_ble_eq_true rfl, Nat.le_of_ble_eq_true rfl⟩ rfl ?_
  refine ww_aload_n (pc := 25) hC dX6_init_25 0 rfl ?_
  refine ww_bipush (pc := 26) hC (v := (6 : Int32)) dX6_init_26 (by decide) ?_
  refine ww_newa (pc := 28) hC 13 (by decide) (by decide) rfl (ct0 hW _) (n := 76) (by decide +kernel) (by decide) (N := 6) (by decide) (Z' := cZ231) rfl (X' := cX232) rfl (by decide) qy_FieldType_int dX6_init_28 (Nat.le_of_ble_eq_true rfl) (Nat.le_of_ble_eq_true rfl) ?_
  refine ww_putR (pc := 30) hC (i := 74) (t := 76) 6 5 ⟨by decide +kernel, by decide +kernel⟩ RX6 (by decide) (by decide) rfl qf_X6_25 rfl hin rfl rfl rfl rfl (Z' := cZ233) rfl dX6_init_30 ?_
  refine ww_aload_n (pc := 33) hC dX6_init_33 0 rfl ?_
  refine ww_bipush (pc := 34) hC (v := (6 : Int32)) dX6_init_34 (by decide) ?_
  refine ww_newa (pc := 36) hC 13 (by decide) (by decide) rfl (ct0 hW _) (n := 77) (by decide +kernel) (by decide) (N := 6) (by decide) (Z' := cZ234) rfl (X' := cX235) rfl (by decide) qy_FieldType_int dX6_init_36 (Nat.le_of_ble_eq_true rfl) (Nat.le_of_ble_eq_true rfl) ?_
  refine ww_putR (pc := 38) hC (i := 74) (t := 77) 6 6 ⟨by decide +kernel, by decide +kernel⟩ RX6 (by decide) (by decide) rfl qf_X6_28 rfl hin rfl rfl rfl rfl (Z' := cZ236) rfl dX6_init_38 ?_
  refine ww_aload_n (pc := 41) hC dX6_init_41 0 rfl ?_
  refine ww_bipush (pc := 42) hC (v := (24 : Int32)) dX6_init_42 (by decide) ?_
  refine ww_newa (pc := 44) hC 13 (by decide) (by decide) rfl (ct0 hW _) (n := 78) (by decide +kernel) (by decide) (N := 24) (by decide) (Z' := cZ237) rfl (X' := cX238) rfl (by decide) qy_FieldType_int dX6_init_44 (Nat.le_of_ble_eq_true rfl) (Nat.le_of_ble_eq_true rfl) ?_
  refine ww_putR (pc := 46) hC (i := 74) (t := 78) 6 7 ⟨by decide +kernel, by decide +kernel⟩ RX6 (by decide) (by decide) rfl qf_X6_31 rfl hin rfl rfl rfl rfl (Z' := cZ239) rfl dX6_init_46 ?_
  refine ww_aload_n (pc := 49) hC dX6_init_49 0 rfl ?_
  refine ww_new (pc := 50) hC 3 (by decide) (ct0 hW _) (n := 79) (by decide +kernel) rfl (Z' := cZ240) rfl (X' := cX241) rfl qk_X6_34 qa_X3 qn_X3 dX6_init_50 (Nat.le_of_ble_eq_true rfl) (Nat.le_of_ble_eq_true rfl) ?_
  refine ww_dup (pc := 53) hC dX6_init_53 rfl ?_
  refine ww_iconst (pc := 54) hC (v := (4 : Int32)) dX6_init_54 (by decide) ?_
  refine ww_callI (pc := 55) hC [.int (4 : Int32)] (mc := 1) (ms := 4) (Z' := cZ244) (X' := cX243) (ciX3_init_20 hW) ql_X6_36 qi_X3_init qn_X3 qc_X3_init rfl ⟨by decide, by decide, rfl⟩ rfl ⟨Nat.le_of_ble_eq_true rfl, Nat.le_of_ble_eq_true rfl⟩ (by decide) (rest := [.ref (w.1 79), .ref (w.1 74)]) (Nat.le_of_ble_eq_true rfl) dX6_init_55 ⟨Nat.le_of_ble_eq_true rfl, Nat.le_of_ble_eq_true rfl⟩ rfl ?_
  refine ww_putR (pc := 58) hC (i := 74) (t := 79) 6 8 ⟨by decide +kernel, by decide +kernel⟩ RX6 (by decide) (by decide) rfl qf_X6_39 rfl hin rfl rfl rfl rfl (Z' := cZ245) rfl dX6_init_58 ?_
  refine ww_aload_n (pc := 61) hC dX6_init_61 0 rfl ?_
  refine ww_new (pc := 62) hC 3 (by decide) (ct0 hW _) (n := 81) (by decide +kernel) rfl (Z' := cZ246) rfl (X' := cX247) rfl qk_X6_34 qa_X3 qn_X3 dX6_init_62 (Nat.le_of_ble_eq_true rfl) (Nat.le_of_ble_eq_true rfl) ?_
  refine ww_dup (pc := 65) hC dX6_init_65 rfl ?_
  refine ww_bipush (pc := 66) hC (v := (6 : Int32)) dX6_init_66 (by decide) ?_
  refine ww_callI (pc := 68) hC [.int (6 : Int32)] (mc := 1) (ms := 6) (Z' := cZ250) (X' := cX249) (ciX3_init_21 hW) ql_X6_36 qi_X3_init qn_X3 qc_X3_init rfl ⟨by decide, by decide, rfl⟩ rfl ⟨Nat.le_of_ble_eq_true rfl, Nat.le_of_ble_eq_true rfl⟩ (by decide) (rest := [.ref (w.1 81), .ref (w.1 74)]) (Nat.le_of_ble_eq_true rfl) dX6_init_68 ⟨Nat.le_of_ble_eq_true rfl, Nat.le_of_ble_eq_true rfl⟩ rfl ?_
  refine ww_putR (pc := 71) hC (i := 74) (t := 81) 6 9 ⟨by decide +kernel, by decide +kernel⟩ RX6 (by decide) (by decide) rfl qf_X6_43 rfl hin rfl rfl rfl rfl (Z' := cZ251) rfl dX6_init_71 ?_
  refine ww_aload_n (pc := 74) hC dX6_init_74 0 rfl ?_
  refine ww_new (pc := 75) hC 3 (by decide) (ct0 hW _) (n := 83) (by decide +kernel) rfl (Z' := cZ252) rfl (X' := cX253) rfl qk_X6_34 qa_X3 qn_X3 dX6_init_75 (Nat.le_of_ble_eq_true rfl) (Nat.le_of_ble_eq_true rfl) ?_
  refine ww_dup (pc := 78) hC dX6_init_78 rfl ?_
  refine ww_bipush (pc := 79) hC (v := (10 : Int32)) dX6_init_79 (by decide) ?_
  refine ww_callI (pc := 81) hC [.int (10 : Int32)] (mc := 1) (ms := 10) (Z' := cZ256) (X' := cX255) (ciX3_init_22 hW) ql_X6_36 qi_X3_init qn_X3 qc_X3_init rfl ⟨by decide, by decide, rfl⟩ rfl ⟨Nat.le_of_ble_eq_true rfl, Nat.le_of_ble_eq_true rfl⟩ (by decide) (rest := [.ref (w.1 83), .ref (w.1 74)]) (Nat.le_of_ble_eq_true rfl) dX6_init_81 ⟨Nat.le_of_ble_eq_true rfl, Nat.le_of_ble_eq_true rfl⟩ rfl ?_
  refine ww_putR (pc := 84) hC (i := 74) (t := 83) 6 10 ⟨by decide +kernel, by decide +kernel⟩ RX6 (by decide) (by decide) rfl qf_X6_46 rfl hin rfl rfl rfl rfl (Z' := cZ257) rfl dX6_init_84 ?_
  refine ww_aload_n (pc := 87) hC dX6_init_87 0 rfl ?_
  refine ww_new (pc := 88) hC 3 (by decide) (ct0 hW _) (n := 85) (by decide +kernel) rfl (Z' := cZ258) rfl (X' := cX259) rfl qk_X6_34 qa_X3 qn_X3 dX6_init_88 (Nat.le_of_ble_eq_true rfl) (Nat.le_of_ble_eq_true rfl) ?_
  refine ww_dup (pc := 91) hC dX6_init_91 rfl ?_
  refine ww_bipush (pc := 92) hC (v := (10 : Int32)) dX6_init_92 (by decide) ?_
  refine ww_callI (pc := 94) hC [.int (10 : Int32)] (mc := 1) (ms := 10) (Z' := cZ262) (X' := cX261) (ciX3_init_23 hW) ql_X6_36 qi_X3_init qn_X3 qc_X3_init rfl ⟨by decide, by decide, rfl⟩ rfl ⟨Nat.le_of_ble_eq_true rfl, Nat.le_of_ble_eq_true rfl⟩ (by decide) (rest := [.ref (w.1 85), .ref (w.1 74)]) (Nat.le_of_ble_eq_true rfl) dX6_init_94 ⟨Nat.le_of_ble_eq_true rfl, Nat.le_of_ble_eq_true rfl⟩ rfl ?_
  refine ww_putR (pc := 97) hC (i := 74) (t := 85) 6 11 ⟨by decide +kernel, by decide +kernel⟩ RX6 (by decide) (by decide) rfl qf_X6_49 rfl hin rfl rfl rfl rfl (Z' := cZ263) rfl dX6_init_97 ?_
  exact ww_vret (pc := 100) hC hr (u := ()) (r := ()) rfl dX6_init_100
def cZ264 : XS := stR cZ263 73 0 74
theorem rc_cZ264 : RC cZ264 := RC.s rc_cZ263 (by decide +kernel)
def cZ265 : XS := newO 87 cZ264 6
theorem rc_cZ265 : RC cZ265 := RC.o rc_cZ264 (by decide +kernel)
def cX266 : XD := zX cX261 87
def cX267 : XD := wI cX266 87 1 (-1 : Int32)
def cZ268 : XS := newA 88 cZ265 13 6
theorem rc_cZ268 : RC cZ268 := RC.a rc_cZ265 (by decide +kernel)
def cX269 : XD := zX cX267 88
def cZ270 : XS := stR cZ268 87 4 88
theorem rc_cZ270 : RC cZ270 := RC.s rc_cZ268 (by decide +kernel)
def cX271 : XD := fillI cX269 88 6 (3 : Int32)
def cZ272 : XS := newA 89 cZ270 13 6
theorem rc_cZ272 : RC cZ272 := RC.a rc_cZ270 (by decide +kernel)
def cX273 : XD := zX cX271 89
def cZ274 : XS := stR cZ272 87 5 89
theorem rc_cZ274 : RC cZ274 := RC.s rc_cZ272 (by decide +kernel)
def cZ275 : XS := newA 90 cZ274 13 6
theorem rc_cZ275 : RC cZ275 := RC.a rc_cZ274 (by decide +kernel)
def cX276 : XD := zX cX273 90
def cZ277 : XS := stR cZ275 87 6 90
theorem rc_cZ277 : RC cZ277 := RC.s rc_cZ275 (by decide +kernel)
def cZ278 : XS := newA 91 cZ277 13 24
theorem rc_cZ278 : RC cZ278 := RC.a rc_cZ277 (by decide +kernel)
def cX279 : XD := zX cX276 91
def cZ280 : XS := stR cZ278 87 7 91
theorem rc_cZ280 : RC cZ280 := RC.s rc_cZ278 (by decide +kernel)
def cZ281 : XS := newO 92 cZ280 3
theorem rc_cZ281 : RC cZ281 := RC.o rc_cZ280 (by decide +kernel)
def cX282 : XD := zX cX279 92
def cZ283 : XS := newA 93 cZ281 13 4
theorem rc_cZ283 : RC cZ283 := RC.a rc_cZ281 (by decide +kernel)
def cX284 : XD := zX cX282 93
def cZ285 : XS := stR cZ283 92 0 93
theorem rc_cZ285 : RC cZ285 := RC.s rc_cZ283 (by decide +kernel)
set_option maxHeartbeats 40000000 in
set_option maxRecDepth 100000 in
theorem ciX3_init_25 {l : Launch} {E : XE} {w : XW} (hW : ∀ i : Nat, w.1 i = w.1 0 + i) : Ct l E w yX3_init (wsM yX3_init cX3_init 2 none) (rmX 1 1 4) 1 4 [.ref (w.1 92), .int (4 : Int32)] (w.1 (sn cZ281)) (w.1 (sn cZ285)) cZ281 cZ285 cX282 cX284 none := by
  refine ct_of (by decide) (Nat.le_of_ble_eq_true rfl) ?_
  intro p e s m args below meth c hC hr hin hav
  refine ww_lv (lv' := [(0, .ref (w.1 92)), (1, .int (4 : Int32))]) rfl ?_
  refine ww_aload_n (pc := 0) hC dX3_init_0 0 rfl ?_
  refine ww_objInit (pc := 1) hC ql_X3_3 qi_java_lang_Object__init_ qc_java_lang_Object__init_ dX3_init_1 ⟨Nat.le_of_ble_eq_true rfl, Nat.le_of_ble_eq_true rfl⟩ (Nat.le_of_ble_eq_true rfl) ?_
  refine ww_aload_n (pc := 4) hC dX3_init_4 0 rfl ?_
  refine ww_iconst (pc := 5) hC (v := (0 : Int32)) dX3_init_5 (by decide) ?_
  refine ww_iload_n (pc := 6) hC dX3_init_6 1 rfl ?_
  refine ww_max (pc := 7) hC ql_X3_9 qt_J9_max_7cf53 qn_J9 qc_J9_max_7cf53 dX3_init_7 ⟨Nat.le_of_ble_eq_true rfl, Nat.le_of_ble_eq_true rfl⟩ (Nat.le_of_ble_eq_true rfl) ⟨Nat.le_of_ble_eq_true rfl, Nat.le_of_ble_eq_true rfl⟩ ?_
  rw [show (if (0 : Int32) < (4 : Int32) then (4 : Int32) else (0 : Int32)) = (4 : Int32) by decide]
  refine ww_newa (pc := 10) hC 13 (by decide) (by decide) rfl (ct0 hW _) (n := 93) (by decide +kernel) (by decide) (N := 4) (by decide) (Z' := cZ283) rfl (X' := cX284) rfl (by decide) qy_FieldType_int dX3_init_10 (Nat.le_of_ble_eq_true rfl) (Nat.le_of_ble_eq_true rfl) ?_
  refine ww_putR (pc := 12) hC (i := 92) (t := 93) 3 0 ⟨by decide +kernel, by decide +kernel⟩ RX3 (by decide) (by decide) rfl qf_X3_15 rfl hin rfl rfl rfl rfl (Z' := cZ285) rfl dX3_init_12 ?_
  exact ww_vret (pc := 15) hC hr (u := ()) (r := ()) rfl dX3_init_15
def cZ286 : XS := stR cZ285 87 8 92
theorem rc_cZ286 : RC cZ286 := RC.s rc_cZ285 (by decide +kernel)
def cZ287 : XS := newO 94 cZ286 3
theorem rc_cZ287 : RC cZ287 := RC.o rc_cZ286 (by decide +kernel)
def cX288 : XD := zX cX284 94
def cZ289 : XS := newA 95 cZ287 13 6
theorem rc_cZ289 : RC cZ289 := RC.a rc_cZ287 (by decide +kernel)
def cX290 : XD := zX cX288 95
def cZ291 : XS := stR cZ289 94 0 95
theorem rc_cZ291 : RC cZ291 := RC.s rc_cZ289 (by decide +kernel)
set_option maxHeartbeats 40000000 in
set_option maxRecDepth 100000 in
theorem ciX3_init_26 {l : Launch} {E : XE} {w : XW} (hW : ∀ i : Nat, w.1 i = w.1 0 + i) : Ct l E w yX3_init (wsM yX3_init cX3_init 2 none) (rmX 1 1 6) 1 6 [.ref (w.1 94), .int (6 : Int32)] (w.1 (sn cZ287)) (w.1 (sn cZ291)) cZ287 cZ291 cX288 cX290 none := by
  refine ct_of (by decide) (Nat.le_of_ble_eq_true rfl) ?_
  intro p e s m args below meth c hC hr hin hav
  refine ww_lv (lv' := [(0, .ref (w.1 94)), (1, .int (6 : Int32))]) rfl ?_
  refine ww_aload_n (pc := 0) hC dX3_init_0 0 rfl ?_
  refine ww_objInit (pc := 1) hC ql_X3_3 qi_java_lang_Object__init_ qc_java_lang_Object__init_ dX3_init_1 ⟨Nat.le_of_ble_eq_true rfl, Nat.le_of_ble_eq_true rfl⟩ (Nat.le_of_ble_eq_true rfl) ?_
  refine ww_aload_n (pc := 4) hC dX3_init_4 0 rfl ?_
  refine ww_iconst (pc := 5) hC (v := (0 : Int32)) dX3_init_5 (by decide) ?_
  refine ww_iload_n (pc := 6) hC dX3_init_6 1 rfl ?_
  refine ww_max (pc := 7) hC ql_X3_9 qt_J9_max_7cf53 qn_J9 qc_J9_max_7cf53 dX3_init_7 ⟨Nat.le_of_ble_eq_true rfl, Nat.le_of_ble_eq_true rfl⟩ (Nat.le_of_ble_eq_true rfl) ⟨Nat.le_of_ble_eq_true rfl, Nat.le_of_ble_eq_true rfl⟩ ?_
  rw [show (if (0 : Int32) < (6 : Int32) then (6 : Int32) else (0 : Int32)) = (6 : Int32) by decide]
  refine ww_newa (pc := 10) hC 13 (by decide) (by decide) rfl (ct0 hW _) (n := 95) (by decide +kernel) (by decide) (N := 6) (by decide) (Z' := cZ289) rfl (X' := cX290) rfl (by decide) qy_FieldType_int dX3_init_10 (Nat.le_of_ble_eq_true rfl) (Nat.le_of_ble_eq_true rfl) ?_
  refine ww_putR (pc := 12) hC (i := 94) (t := 95) 3 0 ⟨by decide +kernel, by decide +kernel⟩ RX3 (by decide) (by decide) rfl qf_X3_15 rfl hin rfl rfl rfl rfl (Z' := cZ291) rfl dX3_init_12 ?_
  exact ww_vret (pc := 15) hC hr (u := ()) (r := ()) rfl dX3_init_15
def cZ292 : XS := stR cZ291 87 9 94
theorem rc_cZ292 : RC cZ292 := RC.s rc_cZ291 (by decide +kernel)
def cZ293 : XS := newO 96 cZ292 3
theorem rc_cZ293 : RC cZ293 := RC.o rc_cZ292 (by decide +kernel)
def cX294 : XD := zX cX290 96
def cZ295 : XS := newA 97 cZ293 13 10
theorem rc_cZ295 : RC cZ295 := RC.a rc_cZ293 (by decide +kernel)
def cX296 : XD := zX cX294 97
def cZ297 : XS := stR cZ295 96 0 97
theorem rc_cZ297 : RC cZ297 := RC.s rc_cZ295 (by decide +kernel)
set_option maxHeartbeats 40000000 in
set_option maxRecDepth 100000 in
theorem ciX3_init_27 {l : Launch} {E : XE} {w : XW} (hW : ∀ i : Nat, w.1 i = w.1 0 + i) : Ct l E w yX3_init (wsM yX3_init cX3_init 2 none) (rmX 1 1 10) 1 10 [.ref (w.1 96), .int (10 : Int32)] (w.1 (sn cZ293)) (w.1 (sn cZ297)) cZ293 cZ297 cX294 cX296 none := by
  refine ct_of (by decide) (Nat.le_of_ble_eq_true rfl) ?_
  intro p e s m args below meth c hC hr hin hav
  refine ww_lv (lv' := [(0, .ref (w.1 96)), (1, .int (10 : Int32))]) rfl ?_
  refine ww_aload_n (pc := 0) hC dX3_init_0 0 rfl ?_
  refine ww_objInit (pc := 1) hC ql_X3_3 qi_java_lang_Object__init_ qc_java_lang_Object__init_ dX3_init_1 ⟨Nat.le_of_ble_eq_true rfl, Nat.le_of_ble_eq_true rfl⟩ (Nat.le_of_ble_eq_true rfl) ?_
  refine ww_aload_n (pc := 4) hC dX3_init_4 0 rfl ?_
  refine ww_iconst (pc := 5) hC (v := (0 : Int32)) dX3_init_5 (by decide) ?_
  refine ww_iload_n (pc := 6) hC dX3_init_6 1 rfl ?_
  refine ww_max (pc := 7) hC ql_X3_9 qt_J9_max_7cf53 qn_J9 qc_J9_max_7cf53 dX3_init_7 ⟨Nat.le_of_ble_eq_true rfl, Nat.le_of_ble_eq_true rfl⟩ (Nat.le_of_ble_eq_true rfl) ⟨Nat.le_of_ble_eq_true rfl, Nat.le_of_ble_eq_true rfl⟩ ?_
  rw [show (if (0 : Int32) < (10 : Int32) then (10 : Int32) else (0 : Int32)) = (10 : Int32) by decide]
  refine ww_newa (pc := 10) hC 13 (by decide) (by decide) rfl (ct0 hW _) (n := 97) (by decide +kernel) (by decide) (N := 10) (by decide) (Z' := cZ295) rfl (X' := cX296) rfl (by decide) qy_FieldType_int dX3_init_10 (Nat.le_of_ble_eq_true rfl) (Nat.le_of_ble_eq_true rfl) ?_
  refine ww_putR (pc := 12) hC (i := 96) (t := 97) 3 0 ⟨by decide +kernel, by decide +kernel⟩ RX3 (by decide) (by decide) rfl qf_X3_15 rfl hin rfl rfl rfl rfl (Z' := cZ297) rfl dX3_init_12 ?_
  exact ww_vret (pc := 15) hC hr (u := ()) (r := ()) rfl dX3_init_15
def cZ298 : XS := stR cZ297 87 10 96
theorem rc_cZ298 : RC cZ298 := RC.s rc_cZ297 (by decide +kernel)
def cZ299 : XS := newO 98 cZ298 3
theorem rc_cZ299 : RC cZ299 := RC.o rc_cZ298 (by decide +kernel)
def cX300 : XD := zX cX296 98
def cZ301 : XS := newA 99 cZ299 13 10
theorem rc_cZ301 : RC cZ301 := RC.a rc_cZ299 (by decide +kernel)
def cX302 : XD := zX cX300 99
def cZ303 : XS := stR cZ301 98 0 99
theorem rc_cZ303 : RC cZ303 := RC.s rc_cZ301 (by decide +kernel)
set_option maxHeartbeats 40000000 in
set_option maxRecDepth 100000 in
theorem ciX3_init_28 {l : Launch} {E : XE} {w : XW} (hW : ∀ i : Nat, w.1 i = w.1 0 + i) : Ct l E w yX3_init (wsM yX3_init cX3_init 2 none) (rmX 1 1 10) 1 10 [.ref (w.1 98), .int (10 : Int32)] (w.1 (sn cZ299)) (w.1 (sn cZ303)) cZ299 cZ303 cX300 cX302 none := by
  refine ct_of (by decide) (Nat.le_of_ble_eq_true rfl) ?_
  intro p e s m args below meth c hC hr hin hav
  refine ww_lv (lv' := [(0, .ref (w.1 98)), (1, .int (10 : Int32))]) rfl ?_
  refine ww_aload_n (pc := 0) hC dX3_init_0 0 rfl ?_
  refine ww_objInit (pc := 1) hC ql_X3_3 qi_java_lang_Object__init_ qc_java_lang_Object__init_ dX3_init_1 ⟨Nat.le_of_ble_eq_true rfl, Nat.le_of_ble_eq_true rfl⟩ (Nat.le_of_ble_eq_true rfl) ?_
  refine ww_aload_n (pc := 4) hC dX3_init_4 0 rfl ?_
  refine ww_iconst (pc := 5) hC (v := (0 : Int32)) dX3_init_5 (by decide) ?_
  refine ww_iload_n (pc := 6) hC dX3_init_6 1 rfl ?_
  refine ww_max (pc := 7) hC ql_X3_9 qt_J9_max_7cf53 qn_J9 qc_J9_max_7cf53 dX3_init_7 ⟨Nat.le_of_ble_eq_true rfl, Nat.le_of_ble_eq_true rfl⟩ (Nat.le_of_ble_eq_true rfl) ⟨Nat.le_of_ble_eq_true rfl, Nat.le_of_ble_eq_true rfl⟩ ?_
  rw [show (if (0 : Int32) < (10 : Int32) then (10 : Int32) else (0 : Int32)) = (10 : Int32) by decide]
  refine ww_newa (pc := 10) hC 13 (by decide) (by decide) rfl (ct0 hW _) (n := 99) (by decide +kernel) (by decide) (N := 10) (by decide) (Z' := cZ301) rfl (X' := cX302) rfl (by decide) qy_FieldType_int dX3_init_10 (Nat.le_of_ble_eq_true rfl) (Nat.le_of_ble_eq_true rfl) ?_
  refine ww_putR (pc := 12) hC (i := 98) (t := 99) 3 0 ⟨by decide +kernel, by decide +kernel⟩ RX3 (by decide) (by decide) rfl qf_X3_15 rfl hin rfl rfl rfl rfl (Z' := cZ303) rfl dX3_init_12 ?_
  exact ww_vret (pc := 15) hC hr (u := ()) (r := ()) rfl dX3_init_15
def cZ304 : XS := stR cZ303 87 11 98
theorem rc_cZ304 : RC cZ304 := RC.s rc_cZ303 (by decide +kernel)
set_option maxHeartbeats 40000000 in
set_option maxRecDepth 100000 in
theorem ciX6_init_24 {l : Launch} {E : XE} {w : XW} (hW : ∀ i : Nat, w.1 i = w.1 0 + i) : Ct l E w yX6_init (wsM yX6_init cX6_init 1 none) (rmX 2 12 84) 12 84 [.ref (w.1 87)] (w.1 (sn cZ265)) (w.1 (sn cZ304)) cZ265 cZ304 cX266 cX302 none := by
  refine ct_of (by decide) (Nat.le_of_ble_eq_true rfl) ?_
  intro p e s m args below meth c hC hr hin hav
  refine ww_lv (lv' := [(0, .ref (w.1 87))]) rfl ?_
  refine ww_aload_n (pc := 0) hC dX6_init_0 0 rfl ?_
  refine ww_objInit (pc := 1) hC ql_X6_3 qi_java_lang_Object__init_ qc_java_lang_Object__init_ dX6_init_1 ⟨Nat.le_of_ble_eq_true rfl, Nat.le_of_ble_eq_true rfl⟩ (Nat.le_of_ble_eq_true rfl) ?_
  refine ww_aload_n (pc := 4) hC dX6_init_4 0 rfl ?_
  refine ww_iconst (pc := 5) hC (v := (-1 : Int32)) dX6_init_5 (by decide) ?_
  refine ww_putI (pc := 6) hC (i := 87) 6 1 ⟨by decide +kernel, by decide +kernel⟩ RX6 (by decide) (by decide) rfl qf_X6_9 rfl rfl rfl rfl dX6_init_6 ?_
  refine ww_nmX (X' := cX267) rfl ?_
  refine ww_aload_n (pc := 9) hC dX6_init_9 0 rfl ?_
  refine ww_bipush (pc := 10) hC (v := (6 : Int32)) dX6_init_10 (by decide) ?_
  refine ww_newa (pc := 12) hC 13 (by decide) (by decide) rfl (ct0 hW _) (n := 88) (by decide +kernel) (by decide) (N := 6) (by decide) (Z' := cZ268) rfl (X' := cX269) rfl (by decide) qy_FieldType_int dX6_init_12 (Nat.le_of_ble_eq_true rfl) (Nat.le_of_ble_eq_true rfl) ?_
  refine ww_putR (pc := 14) hC (i := 87) (t := 88) 6 4 ⟨by decide +kernel, by decide +kernel⟩ RX6 (by decide) (by decide) rfl qf_X6_15 rfl hin rfl rfl rfl rfl (Z' := cZ270) rfl dX6_init_14 ?_
  refine ww_aload_n (pc := 17) hC dX6_init_17 0 rfl ?_
  refine ww_getR (pc := 18) hC (i := 87) 6 4 88 ⟨by decide +kernel, by decide +kernel⟩ RX6 (by decide) (by decide) rfl (by decide +kernel) qf_X6_15 rfl dX6_init_18 ?_
  refine ww_iconst (pc := 21) hC (v := (3 : Int32)) dX6_init_21 (by decide) ?_
  refine ww_callSv (pc := 22) hC [.ref (w.1 88), .int (3 : Int32)] (X' := cX271) (ceJ7_fill_53178 (show KA cZ270 88 13 (sL cZ270 88) from ⟨by decide +kernel, by decide +kernel, rfl⟩) (fill_eq (n := 6) (by decide) (show sL cZ270 88 = 6 by decide +kernel))) ql_X6_19 qt_J7_fill_53178 qn_J7 qc_J7_fill_53178 ⟨by decide, by decide, rfl⟩ rfl ⟨Nat.le_of_ble_eq_true rfl, Nat.le_of_ble_eq_true rfl⟩ (by decide) (rest := []) (Nat.le_of_ble_eq_true rfl) dX6_init_22 ⟨Nat.le_of_ble_eq_true rfl, Nat.le_of_ble_eq_true rfl⟩ rfl ?_
  refine ww_aload_n (pc := 25) hC dX6_init_25 0 rfl ?_
  refine ww_bipush (pc := 26) hC (v := (6 : Int32)) dX6_init_26 (by decide) ?_
  refine ww_newa (pc := 28) hC 13 (by decide) (by decide) rfl (ct0 hW _) (n := 89) (by decide +kernel) (by decide) (N := 6) (by decide) (Z' := cZ272) rfl (X' := cX273) rfl (by decide) qy_FieldType_int dX6_init_28 (Nat.le_of_ble_eq_true rfl) (Nat.le_of_ble_eq_true rfl) ?_
  refine ww_putR (pc := 30) hC (i := 87) (t := 89) 6 5 ⟨by decide +kernel, by decide +kernel⟩ RX6 (by decide) (by decide) rfl qf_X6_25 rfl hin rfl rfl rfl rfl (Z' := cZ274) rfl dX6_init_30 ?_
  refine ww_aload_n (pc := 33) hC dX6_init_33 0 rfl ?_
  refine ww_bipush (pc := 34) hC (v := (6 : Int32)) dX6_init_34 (by decide) ?_
  refine ww_newa (pc := 36) hC 13 (by decide) (by decide) rfl (ct0 hW _) (n := 90) (by decide +kernel) (by decide) (N := 6) (by decide) (Z' := cZ275) rfl (X' := cX276) rfl (by decide) qy_FieldType_int dX6_init_36 (Nat.le_of_ble_eq_true rfl) (Nat.le_of_ble_eq_true rfl) ?_
  refine ww_putR (pc := 38) hC (i := 87) (t := 90) 6 6 ⟨by decide +kernel, by decide +kernel⟩ RX6 (by decide) (by decide) rfl qf_X6_28 rfl hin rfl rfl rfl rfl (Z' := cZ277) rfl dX6_init_38 ?_
  refine ww_aload_n (pc := 41) hC dX6_init_41 0 rfl ?_
  refine ww_bipush (pc := 42) hC (v := (24 : Int32)) dX6_init_42 (by decide) ?_
  refine ww_newa (pc := 44) hC 13 (by decide) (by decide) rfl (ct0 hW _) (n := 91) (by decide +kernel) (by decide) (N := 24) (by decide) (Z' := cZ278) rfl (X' := cX279) rfl (by decide) qy_FieldType_int dX6_init_44 (Nat.le_of_ble_eq_true rfl) (Nat.le_of_ble_eq_true rfl) ?_
  refine ww_putR (pc := 46) hC (i := 87) (t := 91) 6 7 ⟨by decide +kernel, by decide +kernel⟩ RX6 (by decide) (by decide) rfl qf_X6_31 rfl hin rfl rfl rfl rfl (Z' := cZ280) rfl dX6_init_46 ?_
  refine ww_aload_n (pc := 49) hC dX6_init_49 0 rfl ?_
  refine ww_new (pc := 50) hC 3 (by decide) (ct0 hW _) (n := 92) (by decide +kernel) rfl (Z' := cZ281) rfl (X' := cX282) rfl qk_X6_34 qa_X3 qn_X3 dX6_init_50 (Nat.le_of_ble_eq_true rfl) (Nat.le_of_ble_eq_true rfl) ?_
  refine ww_dup (pc := 53) hC dX6_init_53 rfl ?_
  refine ww_iconst (pc := 54) hC (v := (4 : Int32)) dX6_init_54 (by decide) ?_
  refine ww_callI (pc := 55) hC [.int (4 : Int32)] (mc := 1) (ms := 4) (Z' := cZ285) (X' := cX284) (ciX3_init_25 hW) ql_X6_36 qi_X3_init qn_X3 qc_X3_init rfl ⟨by decide, by decide, rfl⟩ rfl ⟨Nat.le_of_ble_eq_true rfl, Nat.le_of_ble_eq_true rfl⟩ (by decide) (rest := [.ref (w.1 92), .ref (w.1 87)]) (Nat.le_of_ble_eq_true rfl) dX6_init_55 ⟨Nat.le_of_ble_eq_true rfl, Nat.le_of_ble_eq_true rfl⟩ rfl ?_
  refine ww_putR (pc := 58) hC (i := 87) (t := 92) 6 8 ⟨by decide +kernel, by decide +kernel⟩ RX6 (by decide) (by decide) rfl qf_X6_39 rfl hin rfl rfl rfl rfl (Z' := cZ286) rfl dX6_init_58 ?_
  refine ww_aload_n (pc := 61) hC dX6_init_61 0 rfl ?_
  refine ww_new (pc := 62) hC 3 (by decide) (ct0 hW _) (n := 94) (by decide +kernel) rfl (Z' := cZ287) rfl (X' := cX288) rfl qk_X6_34 qa_X3 qn_X3 dX6_init_62 (Nat.le_of_ble_eq_true rfl) (Nat.le_of_ble_eq_true rfl) ?_
  refine ww_dup (pc := 65) hC dX6_init_65 rfl ?_
  refine ww_bipush (pc := 66) hC (v := (6 : Int32)) dX6_init_66 (by decide) ?_
  refine ww_callI (pc := 68) hC [.int (6 : Int32)] (mc := 1) (ms := 6) (Z' := cZ291) (X' := cX290) (ciX3_init_26 hW) ql_X6_36 qi_X3_init qn_X3 qc_X3_init rfl ⟨by decide, by decide, rfl⟩ rfl ⟨Nat.le_of_ble_eq_true rfl, Nat.le_of_ble_eq_true rfl⟩ (by decide) (rest := [.ref (w.1 94), .ref (w.1 87)]) (Nat.le_of_ble_eq_true rfl) dX6_init_68 ⟨Nat.le_of_ble_eq_true rfl, Nat.le_of_ble_eq_true rfl⟩ rfl ?_
  refine ww_putR (pc := 71) hC (i := 87) (t := 94) 6 9 ⟨by decide +kernel, by decide +kernel⟩ RX6 (by decide) (by decide) rfl qf_X6_43 rfl hin rfl rfl rfl rfl (Z' := cZ292) rfl dX6_init_71 ?_
  refine ww_aload_n (pc := 74) hC dX6_init_74 0 rfl ?_
  refine ww_new (pc := 75) hC 3 (by decide) (ct0 hW _) (n := 96) (by decide +kernel) rfl (Z' := cZ293) rfl (X' := cX294) rfl qk_X6_34 qa_X3 qn_X3 dX6_init_75 (Nat.le_of_ble_eq_true rfl) (Nat.le_of_ble_eq_true rfl) ?_
  refine ww_dup (pc := 78) hC dX6_init_78 rfl ?_
  refine ww_bipush (pc := 79) hC (v := (10 : Int32)) dX6_init_79 (by decide) ?_
  refine ww_callI (pc := 81) hC [.int (10 : Int32)] (mc := 1) (ms := 10) (Z' := cZ297) (X' := cX296) (ciX3_init_27 hW) ql_X6_36 qi_X3_init qn_X3 qc_X3_init rfl ⟨by decide, by decide, rfl⟩ rfl ⟨Nat.le_of_ble_eq_true rfl, Nat.le_of_ble_eq_true rfl⟩ (by decide) (rest := [.ref (w.1 96), .ref (w.1 87)]) (Nat.le_of_ble_eq_true rfl) dX6_init_81 ⟨Nat.le_of_ble_eq_true rfl, Nat.le_of_ble_eq_true rfl⟩ rfl ?_
  refine ww_putR (pc := 84) hC (i := 87) (t := 96) 6 10 ⟨by decide +kernel, by decide +kernel⟩ RX6 (by decide) (by decide) rfl qf_X6_46 rfl hin rfl rfl rfl rfl (Z' := cZ298) rfl dX6_init_84 ?_
  refine ww_aload_n (pc := 87) hC dX6_init_87 0 rfl ?_
  refine ww_new (pc := 88) hC 3 (by decide) (ct0 hW _) (n := 98) (by decide +kernel) rfl (Z' := cZ299) rfl (X' := cX300) rfl qk_X6_34 qa_X3 qn_X3 dX6_init_88 (Nat.le_of_ble_eq_true rfl) (Nat.le_of_ble_eq_true rfl) ?_
  refine ww_dup (pc := 91) hC dX6_init_91 rfl ?_
  refine ww_bipush (pc := 92) hC (v := (10 : Int32)) dX6_init_92 (by decide) ?_
  refine ww_callI (pc := 94) hC [.int (10 : Int32)] (mc := 1) (ms := 10) (Z' := cZ303) (X' := cX302) (ciX3_init_28 hW) ql_X6_36 qi_X3_init qn_X3 qc_X3_init rfl ⟨by decide, by decide, rfl⟩ rfl ⟨Nat.le_of_ble_eq_true rfl, Nat.le_of_ble_eq_true rfl⟩ (by decide) (rest := [.ref (w.1 98), .ref (w.1 87)]) (Nat.le_of_ble_eq_true rfl) dX6_init_94 ⟨Nat.le_of_ble_eq_true rfl, Nat.le_of_ble_eq_true rfl⟩ rfl ?_
  refine ww_putR (pc := 97) hC (i := 87) (t := 98) 6 11 ⟨by decide +kernel, by decide +kernel⟩ RX6 (by decide) (by decide) rfl qf_X6_49 rfl hin rfl rfl rfl rfl (Z' := cZ304) rfl dX6_init_97 ?_
  exact ww_vret (pc := 100) hC hr (u := ()) (r := ()) rfl dX6_init_100
def cZ305 : XS := stR cZ304 73 1 87
theorem rc_cZ305 : RC cZ305 := RC.s rc_cZ304 (by decide +kernel)
def cZ306 : XS := newO 100 cZ305 6
theorem rc_cZ306 : RC cZ306 := RC.o rc_cZ305 (by decide +kernel)
def cX307 : XD := zX cX302 100
def cX308 : XD := wI cX307 100 1 (-1 : Int32)
def cZ309 : XS := newA 101 cZ306 13 6
theorem rc_cZ309 : RC cZ309 := RC.a rc_cZ306 (by decide +kernel)
def cX310 : XD := zX cX308 101
def cZ311 : XS := stR cZ309 100 4 101
theorem rc_cZ311 : RC cZ311 := RC.s rc_cZ309 (by decide +kernel)
def cX312 : XD := fillI cX310 101 6 (3 : Int32)
def cZ313 : XS := newA 102 cZ311 13 6
theorem rc_cZ313 : RC cZ313 := RC.a rc_cZ311 (by decide +kernel)
def cX314 : XD := zX cX312 102
def cZ315 : XS := stR cZ313 100 5 102
theorem rc_cZ315 : RC cZ315 := RC.s rc_cZ313 (by decide +kernel)
def cZ316 : XS := newA 103 cZ315 13 6
theorem rc_cZ316 : RC cZ316 := RC.a rc_cZ315 (by decide +kernel)
def cX317 : XD := zX cX314 103
def cZ318 : XS := stR cZ316 100 6 103
theorem rc_cZ318 : RC cZ318 := RC.s rc_cZ316 (by decide +kernel)
def cZ319 : XS := newA 104 cZ318 13 24
theorem rc_cZ319 : RC cZ319 := RC.a rc_cZ318 (by decide +kernel)
def cX320 : XD := zX cX317 104
def cZ321 : XS := stR cZ319 100 7 104
theorem rc_cZ321 : RC cZ321 := RC.s rc_cZ319 (by decide +kernel)
def cZ322 : XS := newO 105 cZ321 3
theorem rc_cZ322 : RC cZ322 := RC.o rc_cZ321 (by decide +kernel)
def cX323 : XD := zX cX320 105
def cZ324 : XS := newA 106 cZ322 13 4
theorem rc_cZ324 : RC cZ324 := RC.a rc_cZ322 (by decide +kernel)
def cX325 : XD := zX cX323 106
def cZ326 : XS := stR cZ324 105 0 106
theorem rc_cZ326 : RC cZ326 := RC.s rc_cZ324 (by decide +kernel)
set_option maxHeartbeats 40000000 in
set_option maxRecDepth 100000 in
theorem ciX3_init_30 {l : Launch} {E : XE} {w : XW} (hW : ∀ i : Nat, w.1 i = w.1 0 + i) : Ct l E w yX3_init (wsM yX3_init cX3_init 2 none) (rmX 1 1 4) 1 4 [.ref (w.1 105), .int (4 : Int32)] (w.1 (sn cZ322)) (w.1 (sn cZ326)) cZ322 cZ326 cX323 cX325 none := by
  refine ct_of (by decide) (Nat.le_of_ble_eq_true rfl) ?_
  intro p e s m args below meth c hC hr hin hav
  refine ww_lv (lv' := [(0, .ref (w.1 105)), (1, .int (4 : Int32))]) rfl ?_
  refine ww_aload_n (pc := 0) hC dX3_init_0 0 rfl ?_
  refine ww_objInit (pc := 1) hC ql_X3_3 qi_java_lang_Object__init_ qc_java_lang_Object__init_ dX3_init_1 ⟨Nat.le_of_ble_eq_true rfl, Nat.le_of_ble_eq_true rfl⟩ (Nat.le_of_ble_eq_true rfl) ?_
  refine ww_aload_n (pc := 4) hC dX3_init_4 0 rfl ?_
  refine ww_iconst (pc := 5) hC (v := (0 : Int32)) dX3_init_5 (by decide) ?_
  refine ww_iload_n (pc := 6) hC dX3_init_6 1 rfl ?_
  refine ww_max (pc := 7) hC ql_X3_9 qt_J9_max_7cf53 qn_J9 qc_J9_max_7cf53 dX3_init_7 ⟨Nat.le_of_ble_eq_true rfl, Nat.le_of_ble_eq_true rfl⟩ (Nat.le_of_ble_eq_true rfl) ⟨Nat.le_of_ble_eq_true rfl, Nat.le_of_ble_eq_true rfl⟩ ?_
  rw [show (if (0 : Int32) < (4 : Int32) then (4 : Int32) else (0 : Int32)) = (4 : Int32) by decide]
  refine ww_newa (pc := 10) hC 13 (by decide) (by decide) rfl (ct0 hW _) (n := 106) (by decide +kernel) (by decide) (N := 4) (by decide) (Z' := cZ324) rfl (X' := cX325) rfl (by decide) qy_FieldType_int dX3_init_10 (Nat.le_of_ble_eq_true rfl) (Nat.le_of_ble_eq_true rfl) ?_
  refine ww_putR (pc := 12) hC (i := 105) (t := 106) 3 0 ⟨by decide +kernel, by decide +kernel⟩ RX3 (by decide) (by decide) rfl qf_X3_15 rfl hin rfl rfl rfl rfl (Z' := cZ326) rfl dX3_init_12 ?_
  exact ww_vret (pc := 15) hC hr (u := ()) (r := ()) rfl dX3_init_15
def cZ327 : XS := stR cZ326 100 8 105
theorem rc_cZ327 : RC cZ327 := RC.s rc_cZ326 (by decide +kernel)
def cZ328 : XS := newO 107 cZ327 3
theorem rc_cZ328 : RC cZ328 := RC.o rc_cZ327 (by decide +kernel)
def cX329 : XD := zX cX325 107
def cZ330 : XS := newA 108 cZ328 13 6
theorem rc_cZ330 : RC cZ330 := RC.a rc_cZ328 (by decide +kernel)
def cX331 : XD := zX cX329 108
def cZ332 : XS := stR cZ330 107 0 108
theorem rc_cZ332 : RC cZ332 := RC.s rc_cZ330 (by decide +kernel)
set_option maxHeartbeats 40000000 in
set_option maxRecDepth 100000 in
theorem ciX3_init_31 {l : Launch} {E : XE} {w : XW} (hW : ∀ i : Nat, w.1 i = w.1 0 + i) : Ct l E w yX3_init (wsM yX3_init cX3_init 2 none) (rmX 1 1 6) 1 6 [.ref (w.1 107), .int (6 : Int32)] (w.1 (sn cZ328)) (w.1 (sn cZ332)) cZ328 cZ332 cX329 cX331 none := by
  refine ct_of (by decide) (Nat.le_of_ble_eq_true rfl) ?_
  intro p e s m args below meth c hC hr hin hav
  refine ww_lv (lv' := [(0, .ref (w.1 107)), (1, .int (6 : Int32))]) rfl ?_
  refine ww_aload_n (pc := 0) hC dX3_init_0 0 rfl ?_
  refine ww_objInit (pc := 1) hC ql_X3_3 qi_java_lang_Object__init_ qc_java_lang_Object__init_ dX3_init_1 ⟨Nat.le_of_ble_eq_true rfl, Nat.le_of_ble_eq_true rfl⟩ (Nat.le_of_ble_eq_true rfl) ?_
  refine ww_aload_n (pc := 4) hC dX3_init_4 0 rfl ?_
  refine ww_iconst (pc := 5) hC (v := (0 : Int32)) dX3_init_5 (by decide) ?_
  refine ww_iload_n (pc := 6) hC dX3_init_6 1 rfl ?_
  refine ww_max (pc := 7) hC ql_X3_9 qt_J9_max_7cf53 qn_J9 qc_J9_max_7cf53 dX3_init_7 ⟨Nat.le_of_ble_eq_true rfl, Nat.le_of_ble_eq_true rfl⟩ (Nat.le_of_ble_eq_true rfl) ⟨Nat.le_of_ble_eq_true rfl, Nat.le_of_ble_eq_true rfl⟩ ?_
  rw [show (if (0 : Int32) < (6 : Int32) then (6 : Int32) else (0 : Int32)) = (6 : Int32) by decide]
  refine ww_newa (pc := 10) hC 13 (by decide) (by decide) rfl (ct0 hW _) (n := 108) (by decide +kernel) (by decide) (N := 6) (by decide) (Z' := cZ330) rfl (X' := cX331) rfl (by decide) qy_FieldType_int dX3_init_10 (Nat.le_of_ble_eq_true rfl) (Nat.le_of_ble_eq_true rfl) ?_
  refine ww_putR (pc := 12) hC (i := 107) (t := 108) 3 0 ⟨by decide +kernel, by decide +kernel⟩ RX3 (by decide) (by decide) rfl qf_X3_15 rfl hin rfl rfl rfl rfl (Z' := cZ332) rfl dX3_init_12 ?_
  exact ww_vret (pc := 15) hC hr (u := ()) (r := ()) rfl dX3_init_15
def cZ333 : XS := stR cZ332 100 9 107
theorem rc_cZ333 : RC cZ333 := RC.s rc_cZ332 (by decide +kernel)
def cZ334 : XS := newO 109 cZ333 3
theorem rc_cZ334 : RC cZ334 := RC.o rc_cZ333 (by decide +kernel)
def cX335 : XD := zX cX331 109
def cZ336 : XS := newA 110 cZ334 13 10
theorem rc_cZ336 : RC cZ336 := RC.a rc_cZ334 (by decide +kernel)
def cX337 : XD := zX cX335 110
def cZ338 : XS := stR cZ336 109 0 110
theorem rc_cZ338 : RC cZ338 := RC.s rc_cZ336 (by decide +kernel)
set_option maxHeartbeats 40000000 in
set_option maxRecDepth 100000 in
theorem ciX3_init_32 {l : Launch} {E : XE} {w : XW} (hW : ∀ i : Nat, w.1 i = w.1 0 + i) : Ct l E w yX3_init (wsM yX3_init cX3_init 2 none) (rmX 1 1 10) 1 10 [.ref (w.1 109), .int (10 : Int32)] (w.1 (sn cZ334)) (w.1 (sn cZ338)) cZ334 cZ338 cX335 cX337 none := by
  refine ct_of (by decide) (Nat.le_of_ble_eq_true rfl) ?_
  intro p e s m args below meth c hC hr hin hav
  refine ww_lv (lv' := [(0, .ref (w.1 109)), (1, .int (10 : Int32))]) rfl ?_
  refine ww_aload_n (pc := 0) hC dX3_init_0 0 rfl ?_
  refine ww_objInit (pc := 1) hC ql_X3_3 qi_java_lang_Object__init_ qc_java_lang_Object__init_ dX3_init_1 ⟨Nat.le_of_ble_eq_true rfl, Nat.le_of_ble_eq_true rfl⟩ (Nat.le_of_ble_eq_true rfl) ?_
  refine ww_aload_n (pc := 4) hC dX3_init_4 0 rfl ?_
  refine ww_iconst (pc := 5) hC (v := (0 : Int32)) dX3_init_5 (by decide) ?_
  refine ww_iload_n (pc := 6) hC dX3_init_6 1 rfl ?_
  refine ww_max (pc := 7) hC ql_X3_9 qt_J9_max_7cf53 qn_J9 qc_J9_max_7cf53 dX3_init_7 ⟨Nat.le_of_ble_eq_true rfl, Nat.le_of_ble_eq_true rfl⟩ (Nat.le_of_ble_eq_true rfl) ⟨Nat.le_of_ble_eq_true rfl, Nat.le_of_ble_eq_true rfl⟩ ?_
  rw [show (if (0 : Int32) < (10 : Int32) then (10 : Int32) else (0 : Int32)) = (10 : Int32) by decide]
  refine ww_newa (pc := 10) hC 13 (by decide) (by decide) rfl (ct0 hW _) (n := 110) (by decide +kernel) (by decide) (N := 10) (by decide) (Z' := cZ336) rfl (X' := cX337) rfl (by decide) qy_FieldType_int dX3_init_10 (Nat.le_of_ble_eq_true rfl) (Nat.le_of_ble_eq_true rfl) ?_
  refine ww_putR (pc := 12) hC (i := 109) (t := 110) 3 0 ⟨by decide +kernel, by decide +kernel⟩ RX3 (by decide) (by decide) rfl qf_X3_15 rfl hin rfl rfl rfl rfl (Z' := cZ338) rfl dX3_init_12 ?_
  exact ww_vret (pc := 15) hC hr (u := ()) (r := ()) rfl dX3_init_15
def cZ339 : XS := stR cZ338 100 10 109
theorem rc_cZ339 : RC cZ339 := RC.s rc_cZ338 (by decide +kernel)
def cZ340 : XS := newO 111 cZ339 3
theorem rc_cZ340 : RC cZ340 := RC.o rc_cZ339 (by decide +kernel)
def cX341 : XD := zX cX337 111
def cZ342 : XS := newA 112 cZ340 13 10
theorem rc_cZ342 : RC cZ342 := RC.a rc_cZ340 (by decide +kernel)
def cX343 : XD := zX cX341 112
def cZ344 : XS := stR cZ342 111 0 112
theorem rc_cZ344 : RC cZ344 := RC.s rc_cZ342 (by decide +kernel)
set_option maxHeartbeats 40000000 in
set_option maxRecDepth 100000 in
theorem ciX3_init_33 {l : Launch} {E : XE} {w : XW} (hW : ∀ i : Nat, w.1 i = w.1 0 + i) : Ct l E w yX3_init (wsM yX3_init cX3_init 2 none) (rmX 1 1 10) 1 10 [.ref (w.1 111), .int (10 : Int32)] (w.1 (sn cZ340)) (w.1 (sn cZ344)) cZ340 cZ344 cX341 cX343 none := by
  refine ct_of (by decide) (Nat.le_of_ble_eq_true rfl) ?_
  intro p e s m args below meth c hC hr hin hav
  refine ww_lv (lv' := [(0, .ref (w.1 111)), (1, .int (10 : Int32))]) rfl ?_
  refine ww_aload_n (pc := 0) hC dX3_init_0 0 rfl ?_
  refine ww_objInit (pc := 1) hC ql_X3_3 qi_java_lang_Object__init_ qc_java_lang_Object__init_ dX3_init_1 ⟨Nat.le_of_ble_eq_true rfl, Nat.le_of_ble_eq_true rfl⟩ (Nat.le_of_ble_eq_true rfl) ?_
  refine ww_aload_n (pc := 4) hC dX3_init_4 0 rfl ?_
  refine ww_iconst (pc := 5) hC (v := (0 : Int32)) dX3_init_5 (by decide) ?_
  refine ww_iload_n (pc := 6) hC dX3_init_6 1 rfl ?_
  refine ww_max (pc := 7) hC ql_X3_9 qt_J9_max_7cf53 qn_J9 qc_J9_max_7cf53 dX3_init_7 ⟨Nat.le_of_ble_eq_true rfl, Nat.le_of_ble_eq_true rfl⟩ (Nat.le_of_ble_eq_true rfl) ⟨Nat.le_of_ble_eq_true rfl, Nat.le_of_ble_eq_true rfl⟩ ?_
  rw [show (if (0 : Int32) < (10 : Int32) then (10 : Int32) else (0 : Int32)) = (10 : Int32) by decide]
  refine ww_newa (pc := 10) hC 13 (by decide) (by decide) rfl (ct0 hW _) (n := 112) (by decide +kernel) (by decide) (N := 10) (by decide) (Z' := cZ342) rfl (X' := cX343) rfl (by decide) qy_FieldType_int dX3_init_10 (Nat.le_of_ble_eq_true rfl) (Nat.le_of_ble_eq_true rfl) ?_
  refine ww_putR (pc := 12) hC (i := 111) (t := 112) 3 0 ⟨by decide +kernel, by decide +kernel⟩ RX3 (by decide) (by decide) rfl qf_X3_15 rfl hin rfl rfl rfl rfl (Z' := cZ344) rfl dX3_init_12 ?_
  exact ww_vret (pc := 15) hC hr (u := ()) (r := ()) rfl dX3_init_15
def cZ345 : XS := stR cZ344 100 11 111
theorem rc_cZ345 : RC cZ345 := RC.s rc_cZ344 (by decide +kernel)
set_option maxHeartbeats 40000000 in
set_option maxRecDepth 100000 in
theorem ciX6_init_29 {l : Launch} {E : XE} {w : XW} (hW : ∀ i : Nat, w.1 i = w.1 0 + i) : Ct l E w yX6_init (wsM yX6_init cX6_init 1 none) (rmX 2 12 84) 12 84 [.ref (w.1 100)] (w.1 (sn cZ306)) (w.1 (sn cZ345)) cZ306 cZ345 cX307 cX343 none := by
  refine ct_of (by decide) (Nat.le_of_ble_eq_true rfl) ?_
  intro p e s m args below meth c hC hr hin hav
  refine ww_lv (lv' := [(0, .ref (w.1 100))]) rfl ?_
  refine ww_aload_n (pc := 0) hC dX6_init_0 0 rfl ?_
  refine ww_objInit (pc := 1) hC ql_X6_3 qi_java_lang_Object__init_ qc_java_lang_Object__init_ dX6_init_1 ⟨Nat.le_of_ble_eq_true rfl, Nat.le_of_ble_eq_true rfl⟩ (Nat.le_of_ble_eq_true rfl) ?_
  refine ww_aload_n (pc := 4) hC dX6_init_4 0 rfl ?_
  refine ww_iconst (pc := 5) hC (v := (-1 : Int32)) dX6_init_5 (by decide) ?_
  refine ww_putI (pc := 6) hC (i := 100) 6 1 ⟨by decide +kernel, by decide +kernel⟩ RX6 (by decide) (by decide) rfl qf_X6_9 rfl rfl rfl rfl dX6_init_6 ?_
  refine ww_nmX (X' := cX308) rfl ?_
  refine ww_aload_n (pc := 9) hC dX6_init_9 0 rfl ?_
  refine ww_bipush (pc := 10) hC (v := (6 : Int32)) dX6_init_10 (by decide) ?_
  refine ww_newa (pc := 12) hC 13 (by decide) (by decide) rfl (ct0 hW _) (n := 101) (by decide +kernel) (by decide) (N := 6) (by decide) (Z' := cZ309) rfl (X' := cX310) rfl (by decide) qy_FieldType_int dX6_init_12 (Nat.le_of_ble_eq_true rfl) (Nat.le_of_ble_eq_true rfl) ?_
  refine ww_putR (pc := 14) hC (i := 100) (t := 101) 6 4 ⟨by decide +kernel, by decide +kernel⟩ RX6 (by decide) (by decide) rfl qf_X6_15 rfl hin rfl rfl rfl rfl (Z' := cZ311) rfl dX6_init_14 ?_
  refine ww_aload_n (pc := 17) hC dX6_init_17 0 rfl ?_
  refine ww_getR (pc := 18) hC (i := 100) 6 4 101 ⟨by decide +kernel, by decide +kernel⟩ RX6 (by decide) (by decide) rfl (by decide +kernel) qf_X6_15 rfl dX6_init_18 ?_
  refine ww_iconst (pc := 21) hC (v := (3 : Int32)) dX6_init_21 (by decide) ?_
  refine ww_callSv (pc := 22) hC [.ref (w.1 101), .int (3 : Int32)] (X' := cX312) (ceJ7_fill_53178 (show KA cZ311 101 13 (sL cZ311 101) from ⟨by decide +kernel, by decide +kernel, rfl⟩) (fill_eq (n := 6) (by decide) (show sL cZ311 101 = 6 by decide +kernel))) ql_X6_19 qt_J7_fill_53178 qn_J7 qc_J7_fill_53178 ⟨by decide, by decide, rfl⟩ rfl ⟨Nat.le_of_ble_eq_true rfl, Nat.le_of_ble_eq_true rfl⟩ (by decide) (rest := []) (Nat.le_of_ble_eq_true rfl) dX6_init_22 ⟨Nat.le_of_ble_eq_true rfl, Nat.le_of_ble_eq_true rfl⟩ rfl ?_
  refine ww_aload_n (pc := 25) hC dX6_init_25 0 rfl ?_
  refine ww_bipush (pc := 26) hC (v := (6 : Int32)) dX6_init_26 (by decide) ?_
  refine ww_newa (pc := 28) hC 13 (by decide) (by decide) rfl (ct0 hW _) (n := 102) (by decide +kernel) (by decide) (N := 6) (by decide) (Z' := cZ313) rfl (X' := cX314) rfl (by decide) qy_FieldType_int dX6_init_28 (Nat.le_of_ble_eq_true rfl) (Nat.le_of_ble_eq_true rfl) ?_
  refine ww_putR (pc := 30) hC (i := 100) (t := 102) 6 5 ⟨by decide +kernel, by decide +kernel⟩ RX6 (by decide) (by decide) rfl qf_X6_25 rfl hin rfl rfl rfl rfl (Z' := cZ315) rfl dX6_init_30 ?_
  refine ww_aload_n (pc := 33) hC dX6_init_33 0 rfl ?_
  refine ww_bipush (pc := 34) hC (v := (6 : Int32)) dX6_init_34 (by decide) ?_
  refine ww_newa (pc := 36) hC 13 (by decide) (by decide) rfl (ct0 hW _) (n := 103) (by decide +kernel) (by decide) (N := 6) (by decide) (Z' := cZ316) rfl (X' := cX317) rfl (by decide) qy_FieldType_int dX6_init_36 (Nat.le_of_ble_eq_true rfl) (Nat.le_of_ble_eq_true rfl) ?_
  refine ww_putR (pc := 38) hC (i := 100) (t := 103) 6 6 ⟨by decide +kernel, by decide +kernel⟩ RX6 (by decide) (by decide) rfl qf_X6_28 rfl hin rfl rfl rfl rfl (Z' := cZ318) rfl dX6_init_38 ?_
  refine ww_aload_n (pc := 41) hC dX6_init_41 0 rfl ?_
  refine ww_bipush (pc := 42) hC (v := (24 : Int32)) dX6_init_42 (by decide) ?_
  refine ww_newa (pc := 44) hC 13 (by decide) (by decide) rfl (ct0 hW _) (n := 104) (by decide +kernel) (by decide) (N := 24) (by decide) (Z' := cZ319) rfl (X' := cX320) rfl (by decide) qy_FieldType_int dX6_init_44 (Nat.le_of_ble_eq_true rfl) (Nat.le_of_ble_eq_true rfl) ?_
  refine ww_putR (pc := 46) hC (i := 100) (t := 104) 6 7 ⟨by decide +kernel, by decide +kernel⟩ RX6 (by decide) (by decide) rfl qf_X6_31 rfl hin rfl rfl rfl rfl (Z' := cZ321) rfl dX6_init_46 ?_
  refine ww_aload_n (pc := 49) hC dX6_init_49 0 rfl ?_
  refine ww_new (pc := 50) hC 3 (by decide) (ct0 hW _) (n := 105) (by decide +kernel) rfl (Z' := cZ322) rfl (X' := cX323) rfl qk_X6_34 qa_X3 qn_X3 dX6_init_50 (Nat.le_of_ble_eq_true rfl) (Nat.le_of_ble_eq_true rfl) ?_
  refine ww_dup (pc := 53) hC dX6_init_53 rfl ?_
  refine ww_iconst (pc := 54) hC (v := (4 : Int32)) dX6_init_54 (by decide) ?_
  refine ww_callI (pc := 55) hC [.int (4 : Int32)] (mc := 1) (ms := 4) (Z' := cZ326) (X' := cX325) (ciX3_init_30 hW) ql_X6_36 qi_X3_init qn_X3 qc_X3_init rfl ⟨by decide, by decide, rfl⟩ rfl ⟨Nat.le_of_ble_eq_true rfl, Nat.le_of_ble_eq_true rfl⟩ (by decide) (rest := [.ref (w.1 105), .ref (w.1 100)]) (Nat.le_of_ble_eq_true rfl) dX6_init_55 ⟨Nat.le_of_ble_eq_true rfl, Nat.le_of_ble_eq_true rfl⟩ rfl ?_
  refine ww_putR (pc := 58) hC (i := 100) (t := 105) 6 8 ⟨by decide +kernel, by decide +kernel⟩ RX6 (by decide) (by decide) rfl qf_X6_39 rfl hin rfl rfl rfl rfl (Z' := cZ327) rfl dX6_init_58 ?_
  refine ww_aload_n (pc := 61) hC dX6_init_61 0 rfl ?_
  refine ww_new (pc := 62) hC 3 (by decide) (ct0 hW _) (n := 107) (by decide +kernel) rfl (Z' := cZ328) rfl (X' := cX329) rfl qk_X6_34 qa_X3 qn_X3 dX6_init_62 (Nat.le_of_ble_eq_true rfl) (Nat.le_of_ble_eq_true rfl) ?_
  refine ww_dup (pc := 65) hC dX6_init_65 rfl ?_
  refine ww_bipush (pc := 66) hC (v := (6 : Int32)) dX6_init_66 (by decide) ?_
  refine ww_callI (pc := 68) hC [.int (6 : Int32)] (mc := 1) (ms := 6) (Z' := cZ332) (X' := cX331) (ciX3_init_31 hW) ql_X6_36 qi_X3_init qn_X3 qc_X3_init rfl ⟨by decide, by decide, rfl⟩ rfl ⟨Nat.le_of_ble_eq_true rfl, Nat.le_of_ble_eq_true rfl⟩ (by decide) (rest := [.ref (w.1 107), .ref (w.1 100)]) (Nat.le_of_ble_eq_true rfl) dX6_init_68 ⟨Nat.le_of_ble_eq_true rfl, Nat.le_of_ble_eq_true rfl⟩ rfl ?_
  refine ww_putR (pc := 71) hC (i := 100) (t := 107) 6 9 ⟨by decide +kernel, by decide +kernel⟩ RX6 (by decide) (by decide) rfl qf_X6_43 rfl hin rfl rfl rfl rfl (Z' := cZ333) rfl dX6_init_71 ?_
  refine ww_aload_n (pc := 74) hC dX6_init_74 0 rfl ?_
  refine ww_new (pc := 75) hC 3 (by decide) (ct0 hW _) (n := 109) (by decide +kernel) rfl (Z' := cZ334) rfl (X' := cX335) rfl qk_X6_34 qa_X3 qn_X3 dX6_init_75 (Nat.le_of_ble_eq_true rfl) (Nat.le_of_ble_eq_true rfl) ?_
  refine ww_dup (pc := 78) hC dX6_init_78 rfl ?_
  refine ww_bipush (pc := 79) hC (v := (10 : Int32)) dX6_init_79 (by decide) ?_
  refine ww_callI (pc := 81) hC [.int (10 : Int32)] (mc := 1) (ms := 10) (Z' := cZ338) (X' := cX337) (ciX3_init_32 hW) ql_X6_36 qi_X3_init qn_X3 qc_X3_init rfl ⟨by decide, by decide, rfl⟩ rfl ⟨Nat.le_of_ble_eq_true rfl, Nat.le_of_ble_eq_true rfl⟩ (by decide) (rest := [.ref (w.1 109), .ref (w.1 100)]) (Nat.le_of_ble_eq_true rfl) dX6_init_81 ⟨Nat.le_of_ble_eq_true rfl, Nat.le_of_ble_eq_true rfl⟩ rfl ?_
  refine ww_putR (pc := 84) hC (i := 100) (t := 109) 6 10 ⟨by decide +kernel, by decide +kernel⟩ RX6 (by decide) (by decide) rfl qf_X6_46 rfl hin rfl rfl rfl rfl (Z' := cZ339) rfl dX6_init_84 ?_
  refine ww_aload_n (pc := 87) hC dX6_init_87 0 rfl ?_
  refine ww_new (pc := 88) hC 3 (by decide) (ct0 hW _) (n := 111) (by decide +kernel) rfl (Z' := cZ340) rfl (X' := cX341) rfl qk_X6_34 qa_X3 qn_X3 dX6_init_88 (Nat.le_of_ble_eq_true rfl) (Nat.le_of_ble_eq_true rfl) ?_
  refine ww_dup (pc := 91) hC dX6_init_91 rfl ?_
  refine ww_bipush (pc := 92) hC (v := (10 : Int32)) dX6_init_92 (by decide) ?_
  refine ww_callI (pc := 94) hC [.int (10 : Int32)] (mc := 1) (ms := 10) (Z' := cZ344) (X' := cX343) (ciX3_init_33 hW) ql_X6_36 qi_X3_init qn_X3 qc_X3_init rfl ⟨by decide, by decide, rfl⟩ rfl ⟨Nat.le_of_ble_eq_true rfl, Nat.le_of_ble_eq_true rfl⟩ (by decide) (rest := [.ref (w.1 111), .ref (w.1 100)]) (Nat.le_of_ble_eq_true rfl) dX6_init_94 ⟨Nat.le_of_ble_eq_true rfl, Nat.le_of_ble_eq_true rfl⟩ rfl ?_
  refine ww_putR (pc := 97) hC (i := 100) (t := 111) 6 11 ⟨by decide +kernel, by decide +kernel⟩ RX6 (by decide) (by decide) rfl qf_X6_49 rfl hin rfl rfl rfl rfl (Z' := cZ345) rfl dX6_init_97 ?_
  exact ww_vret (pc := 100) hC hr (u := ()) (r := ()) rfl dX6_init_100
def cZ346 : XS := stR cZ345 73 2 100
theorem rc_cZ346 : RC cZ346 := RC.s rc_cZ345 (by decide +kernel)
def cZ347 : XS := newO 113 cZ346 6
theorem rc_cZ347 : RC cZ347 := RC.o rc_cZ346 (by decide +kernel)
def cX348 : XD := zX cX343 113
def cX349 : XD := wI cX348 113 1 (-1 : Int32)
def cZ350 : XS := newA 114 cZ347 13 6
theorem rc_cZ350 : RC cZ350 := RC.a rc_cZ347 (by decide +kernel)
def cX351 : XD := zX cX349 114
def cZ352 : XS := stR cZ350 113 4 114
theorem rc_cZ352 : RC cZ352 := RC.s rc_cZ350 (by decide +kernel)
def cX353 : XD := fillI cX351 114 6 (3 : Int32)
def cZ354 : XS := newA 115 cZ352 13 6
theorem rc_cZ354 : RC cZ354 := RC.a rc_cZ352 (by decide +kernel)
def cX355 : XD := zX cX353 115
def cZ356 : XS := stR cZ354 113 5 115
theorem rc_cZ356 : RC cZ356 := RC.s rc_cZ354 (by decide +kernel)
def cZ357 : XS := newA 116 cZ356 13 6
theorem rc_cZ357 : RC cZ357 := RC.a rc_cZ356 (by decide +kernel)
def cX358 : XD := zX cX355 116
def cZ359 : XS := stR cZ357 113 6 116
theorem rc_cZ359 : RC cZ359 := RC.s rc_cZ357 (by decide +kernel)
def cZ360 : XS := newA 117 cZ359 13 24
theorem rc_cZ360 : RC cZ360 := RC.a rc_cZ359 (by decide +kernel)
def cX361 : XD := zX cX358 117
def cZ362 : XS := stR cZ360 113 7 117
theorem rc_cZ362 : RC cZ362 := RC.s rc_cZ360 (by decide +kernel)
def cZ363 : XS := newO 118 cZ362 3
theorem rc_cZ363 : RC cZ363 := RC.o rc_cZ362 (by decide +kernel)
def cX364 : XD := zX cX361 118
def cZ365 : XS := newA 119 cZ363 13 4
theorem rc_cZ365 : RC cZ365 := RC.a rc_cZ363 (by decide +kernel)
def cX366 : XD := zX cX364 119
def cZ367 : XS := stR cZ365 118 0 119
theorem rc_cZ367 : RC cZ367 := RC.s rc_cZ365 (by decide +kernel)
set_option maxHeartbeats 40000000 in
set_option maxRecDepth 100000 in
theorem ciX3_init_35 {l : Launch} {E : XE} {w : XW} (hW : ∀ i : Nat, w.1 i = w.1 0 + i) : Ct l E w yX3_init (wsM yX3_init cX3_init 2 none) (rmX 1 1 4) 1 4 [.ref (w.1 118), .int (4 : Int32)] (w.1 (sn cZ363)) (w.1 (sn cZ367)) cZ363 cZ367 cX364 cX366 none := by
  refine ct_of (by decide) (Nat.le_of_ble_eq_true rfl) ?_
  intro p e s m args below meth c hC hr hin hav
  refine ww_lv (lv' := [(0, .ref (w.1 118)), (1, .int (4 : Int32))]) rfl ?_
  refine ww_aload_n (pc := 0) hC dX3_init_0 0 rfl ?_
  refine ww_objInit (pc := 1) hC ql_X3_3 qi_java_lang_Object__init_ qc_java_lang_Object__init_ dX3_init_1 ⟨Nat.le_of_ble_eq_true rfl, Nat.le_of_ble_eq_true rfl⟩ (Nat.le_of_ble_eq_true rfl) ?_
  refine ww_aload_n (pc := 4) hC dX3_init_4 0 rfl ?_
  refine ww_iconst (pc := 5) hC (v := (0 : Int32)) dX3_init_5 (by decide) ?_
  refine ww_iload_n (pc := 6) hC dX3_init_6 1 rfl ?_
  refine ww_max (pc := 7) hC ql_X3_9 qt_J9_max_7cf53 qn_J9 qc_J9_max_7cf53 dX3_init_7 ⟨Nat.le_of_ble_eq_true rfl, Nat.le_of_ble_eq_true rfl⟩ (Nat.le_of_ble_eq_true rfl) ⟨Nat.le_of_ble_eq_true rfl, Nat.le_of_ble_eq_true rfl⟩ ?_
  rw [show (if (0 : Int32) < (4 : Int32) then (4 : Int32) else (0 : Int32)) = (4 : Int32) by decide]
  refine ww_newa (pc := 10) hC 13 (by decide) (by decide) rfl (ct0 hW _) (n := 119) (by decide +kernel) (by decide) (N := 4) (by decide) (Z' := cZ365) rfl (X' := cX366) rfl (by decide) qy_FieldType_int dX3_init_10 (Nat.le_of_ble_eq_true rfl) (Nat.le_of_ble_eq_true rfl) ?_
  refine ww_putR (pc := 12) hC (i := 118) (t := 119) 3 0 ⟨by decide +kernel, by decide +kernel⟩ RX3 (by decide) (by decide) rfl qf_X3_15 rfl hin rfl rfl rfl rfl (Z' := cZ367) rfl dX3_init_12 ?_
  exact ww_vret (pc := 15) hC hr (u := ()) (r := ()) rfl dX3_init_15
def cZ368 : XS := stR cZ367 113 8 118
theorem rc_cZ368 : RC cZ368 := RC.s rc_cZ367 (by decide +kernel)
def cZ369 : XS := newO 120 cZ368 3
theorem rc_cZ369 : RC cZ369 := RC.o rc_cZ368 (by decide +kernel)
def cX370 : XD := zX cX366 120
def cZ371 : XS := newA 121 cZ369 13 6
theorem rc_cZ371 : RC cZ371 := RC.a rc_cZ369 (by decide +kernel)
def cX372 : XD := zX cX370 121
def cZ373 : XS := stR cZ371 120 0 121
theorem rc_cZ373 : RC cZ373 := RC.s rc_cZ371 (by decide +kernel)
set_option maxHeartbeats 40000000 in
set_option maxRecDepth 100000 in
theorem ciX3_init_36 {l : Launch} {E : XE} {w : XW} (hW : ∀ i : Nat, w.1 i = w.1 0 + i) : Ct l E w yX3_init (wsM yX3_init cX3_init 2 none) (rmX 1 1 6) 1 6 [.ref (w.1 120), .int (6 : Int32)] (w.1 (sn cZ369)) (w.1 (sn cZ373)) cZ369 cZ373 cX370 cX372 none := by
  refine ct_of (by decide) (Nat.le_of_ble_eq_true rfl) ?_
  intro p e s m args below meth c hC hr hin hav
  refine ww_lv (lv' := [(0, .ref (w.1 120)), (1, .int (6 : Int32))]) rfl ?_
  refine ww_aload_n (pc := 0) hC dX3_init_0 0 rfl ?_
  refine ww_objInit (pc := 1) hC ql_X3_3 qi_java_lang_Object__init_ qc_java_lang_Object__init_ dX3_init_1 ⟨Nat.le_of_ble_eq_true rfl, Nat.le_of_ble_eq_true rfl⟩ (Nat.le_of_ble_eq_true rfl) ?_
  refine ww_aload_n (pc := 4) hC dX3_init_4 0 rfl ?_
  refine ww_iconst (pc := 5) hC (v := (0 : Int32)) dX3_init_5 (by decide) ?_
  refine ww_iload_n (pc := 6) hC dX3_init_6 1 rfl ?_
  refine ww_max (pc := 7) hC ql_X3_9 qt_J9_max_7cf53 qn_J9 qc_J9_max_7cf53 dX3_init_7 ⟨Nat.le_of_ble_eq_true rfl, Nat.le_of_ble_eq_true rfl⟩ (Nat.le_of_ble_eq_true rfl) ⟨Nat.le_of_ble_eq_true rfl, Nat.le_of_ble_eq_true rfl⟩ ?_
  rw [show (if (0 : Int32) < (6 : Int32) then (6 : Int32) else (0 : Int32)) = (6 : Int32) by decide]
  refine ww_newa (pc := 10) hC 13 (by decide) (by decide) rfl (ct0 hW _) (n := 121) (by decide +kernel) (by decide) (N := 6) (by decide) (Z' := cZ371) rfl (X' := cX372) rfl (by decide) qy_FieldType_int dX3_init_10 (Nat.le_of_ble_eq_true rfl) (Nat.le_of_ble_eq_true rfl) ?_
  refine ww_putR (pc := 12) hC (i := 120) (t := 121) 3 0 ⟨by decide +kernel, by decide +kernel⟩ RX3 (by decide) (by decide) rfl qf_X3_15 rfl hin rfl rfl rfl rfl (Z' := cZ373) rfl dX3_init_12 ?_
  exact ww_vret (pc := 15) hC hr (u := ()) (r := ()) rfl dX3_init_15
def cZ374 : XS := stR cZ373 113 9 120
theorem rc_cZ374 : RC cZ374 := RC.s rc_cZ373 (by decide +kernel)
def cZ375 : XS := newO 122 cZ374 3
theorem rc_cZ375 : RC cZ375 := RC.o rc_cZ374 (by decide +kernel)
def cX376 : XD := zX cX372 122
def cZ377 : XS := newA 123 cZ375 13 10
theorem rc_cZ377 : RC cZ377 := RC.a rc_cZ375 (by decide +kernel)
def cX378 : XD := zX cX376 123
def cZ379 : XS := stR cZ377 122 0 123
theorem rc_cZ379 : RC cZ379 := RC.s rc_cZ377 (by decide +kernel)
set_option maxHeartbeats 40000000 in
set_option maxRecDepth 100000 in
theorem ciX3_init_37 {l : Launch} {E : XE} {w : XW} (hW : ∀ i : Nat, w.1 i = w.1 0 + i) : Ct l E w yX3_init (wsM yX3_init cX3_init 2 none) (rmX 1 1 10) 1 10 [.ref (w.1 122), .int (10 : Int32)] (w.1 (sn cZ375)) (w.1 (sn cZ379)) cZ375 cZ379 cX376 cX378 none := by
  refine ct_of (by decide) (Nat.le_of_ble_eq_true rfl) ?_
  intro p e s m args below meth c hC hr hin hav
  refine ww_lv (lv' := [(0, .ref (w.1 122)), (1, .int (10 : Int32))]) rfl ?_
  refine ww_aload_n (pc := 0) hC dX3_init_0 0 rfl ?_
  refine ww_objInit (pc := 1) hC ql_X3_3 qi_java_lang_Object__init_ qc_java_lang_Object__init_ dX3_init_1 ⟨Nat.le_of_ble_eq_true rfl, Nat.le_of_ble_eq_true rfl⟩ (Nat.le_of_ble_eq_true rfl) ?_
  refine ww_aload_n (pc := 4) hC dX3_init_4 0 rfl ?_
  refine ww_iconst (pc := 5) hC (v := (0 : Int32)) dX3_init_5 (by decide) ?_
  refine ww_iload_n (pc := 6) hC dX3_init_6 1 rfl ?_
  refine ww_max (pc := 7) hC ql_X3_9 qt_J9_max_7cf53 qn_J9 qc_J9_max_7cf53 dX3_init_7 ⟨Nat.le_of_ble_eq_true rfl, Nat.le_of_ble_eq_true rfl⟩ (Nat.le_of_ble_eq_true rfl) ⟨Nat.le_of_ble_eq_true rfl, Nat.le_of_ble_eq_true rfl⟩ ?_
  rw [show (if (0 : Int32) < (10 : Int32) then (10 : Int32) else (0 : Int32)) = (10 : Int32) by decide]
  refine ww_newa (pc := 10) hC 13 (by decide) (by decide) rfl (ct0 hW _) (n := 123) (by decide +kernel) (by decide) (N := 10) (by decide) (Z' := cZ377) rfl (X' := cX378) rfl (by decide) qy_FieldType_int dX3_init_10 (Nat.le_of_ble_eq_true rfl) (Nat.le_of_ble_eq_true rfl) ?_
  refine ww_putR (pc := 12) hC (i := 122) (t := 123) 3 0 ⟨by decide +kernel, by decide +kernel⟩ RX3 (by decide) (by decide) rfl qf_X3_15 rfl hin rfl rfl rfl rfl (Z' := cZ379) rfl dX3_init_12 ?_
  exact ww_vret (pc := 15) hC hr (u := ()) (r := ()) rfl dX3_init_15
def cZ380 : XS := stR cZ379 113 10 122
theorem rc_cZ380 : RC cZ380 := RC.s rc_cZ379 (by decide +kernel)
def cZ381 : XS := newO 124 cZ380 3
theorem rc_cZ381 : RC cZ381 := RC.o rc_cZ380 (by decide +kernel)
def cX382 : XD := zX cX378 124
def cZ383 : XS := newA 125 cZ381 13 10
theorem rc_cZ383 : RC cZ383 := RC.a rc_cZ381 (by decide +kernel)
def cX384 : XD := zX cX382 125
def cZ385 : XS := stR cZ383 124 0 125
theorem rc_cZ385 : RC cZ385 := RC.s rc_cZ383 (by decide +kernel)
set_option maxHeartbeats 40000000 in
set_option maxRecDepth 100000 in
theorem ciX3_init_38 {l : Launch} {E : XE} {w : XW} (hW : ∀ i : Nat, w.1 i = w.1 0 + i) : Ct l E w yX3_init (wsM yX3_init cX3_init 2 none) (rmX 1 1 10) 1 10 [.ref (w.1 124), .int (10 : Int32)] (w.1 (sn cZ381)) (w.1 (sn cZ385)) cZ381 cZ385 cX382 cX384 none := by
  refine ct_of (by decide) (Nat.le_of_ble_eq_true rfl) ?_
  intro p e s m args below meth c hC hr hin hav
  refine ww_lv (lv' := [(0, .ref (w.1 124)), (1, .int (10 : Int32))]) rfl ?_
  refine ww_aload_n (pc := 0) hC dX3_init_0 0 rfl ?_
  refine ww_objInit (pc := 1) hC ql_X3_3 qi_java_lang_Object__init_ qc_java_lang_Object__init_ dX3_init_1 ⟨Nat.le_of_ble_eq_true rfl, Nat.le_of_ble_eq_true rfl⟩ (Nat.le_of_ble_eq_true rfl) ?_
  refine ww_aload_n (pc := 4) hC dX3_init_4 0 rfl ?_
  refine ww_iconst (pc := 5) hC (v := (0 : Int32)) dX3_init_5 (by decide) ?_
  refine ww_iload_n (pc := 6) hC dX3_init_6 1 rfl ?_
  refine ww_max (pc := 7) hC ql_X3_9 qt_J9_max_7cf53 qn_J9 qc_J9_max_7cf53 dX3_init_7 ⟨Nat.le_of_ble_eq_true rfl, Nat.le_of_ble_eq_true rfl⟩ (Nat.le_of_ble_eq_true rfl) ⟨Nat.le_of_ble_eq_true rfl, Nat.le_of_ble_eq_true rfl⟩ ?_
  rw [show (if (0 : Int32) < (10 : Int32) then (10 : Int32) else (0 : Int32)) = (10 : Int32) by decide]
  refine ww_newa (pc := 10) hC 13 (by decide) (by decide) rfl (ct0 hW _) (n := 125) (by decide +kernel) (by decide) (N := 10) (by decide) (Z' := cZ383) rfl (X' := cX384) rfl (by decide) qy_FieldType_int dX3_init_10 (Nat.le_of_ble_eq_true rfl) (Nat.le_of_ble_eq_true rfl) ?_
  refine ww_putR (pc := 12) hC (i := 124) (t := 125) 3 0 ⟨by decide +kernel, by decide +kernel⟩ RX3 (by decide) (by decide) rfl qf_X3_15 rfl hin rfl rfl rfl rfl (Z' := cZ385) rfl dX3_init_12 ?_
  exact ww_vret (pc := 15) hC hr (u := ()) (r := ()) rfl dX3_init_15
def cZ386 : XS := stR cZ385 113 11 124
theorem rc_cZ386 : RC cZ386 := RC.s rc_cZ385 (by decide +kernel)
set_option maxHeartbeats 40000000 in
set_option maxRecDepth 100000 in
theorem ciX6_init_34 {l : Launch} {E : XE} {w : XW} (hW : ∀ i : Nat, w.1 i = w.1 0 + i) : Ct l E w yX6_init (wsM yX6_init cX6_init 1 none) (rmX 2 12 84) 12 84 [.ref (w.1 113)] (w.1 (sn cZ347)) (w.1 (sn cZ386)) cZ347 cZ386 cX348 cX384 none := by
  refine ct_of (by decide) (Nat.le_of_ble_eq_true rfl) ?_
  intro p e s m args below meth c hC hr hin hav
  refine ww_lv (lv' := [(0, .ref (w.1 113))]) rfl ?_
  refine ww_aload_n (pc := 0) hC dX6_init_0 0 rfl ?_
  refine ww_objInit (pc := 1) hC ql_X6_3 qi_java_lang_Object__init_ qc_java_lang_Object__init_ dX6_init_1 ⟨Nat.le_of_ble_eq_true rfl, Nat.le_of_ble_eq_true rfl⟩ (Nat.le_of_ble_eq_true rfl) ?_
  refine ww_aload_n (pc := 4) hC dX6_init_4 0 rfl ?_
  refine ww_iconst (pc := 5) hC (v := (-1 : Int32)) dX6_init_5 (by decide) ?_
  refine ww_putI (pc := 6) hC (i := 113) 6 1 ⟨by decide +kernel, by decide +kernel⟩ RX6 (by decide) (by decide) rfl qf_X6_9 rfl rfl rfl rfl dX6_init_6 ?_
  refine ww_nmX (X' := cX349) rfl ?_
  refine ww_aload_n (pc := 9) hC dX6_init_9 0 rfl ?_
  refine ww_bipush (pc := 10) hC (v := (6 : Int32)) dX6_init_10 (by decide) ?_
  refine ww_newa (pc := 12) hC 13 (by decide) (by decide) rfl (ct0 hW _) (n := 114) (by decide +kernel) (by decide) (N := 6) (by decide) (Z' := cZ350) rfl (X' := cX351) rfl (by decide) qy_FieldType_int dX6_init_12 (Nat.le_of_ble_eq_true rfl) (Nat.le_of_ble_eq_true rfl) ?_
  refine ww_putR (pc := 14) hC (i := 113) (t := 114) 6 4 ⟨by decide +kernel, by decide +kernel⟩ RX6 (by decide) (by decide) rfl qf_X6_15 rfl hin rfl rfl rfl rfl (Z' := cZ352) rfl dX6_init_14 ?_
  refine ww_aload_n (pc := 17) hC dX6_init_17 0 rfl ?_
  refine ww_getR (pc := 18) hC (i := 113) 6 4 114 ⟨by decide +kernel, by decide +kernel⟩ RX6 (by decide) (by decide) rfl (by decide +kernel) qf_X6_15 rfl dX6_init_18 ?_
  refine ww_iconst (pc := 21) hC (v := (3 : Int32)) dX6_init_21 (by decide) ?_
  refine ww_callSv (pc := 22) hC [.ref (w.1 114), .int (3 : Int32)] (X' := cX353) (ceJ7_fill_53178 (show KA cZ352 114 13 (sL cZ352 114) from ⟨by decide +kernel, by decide +kernel, rfl⟩) (fill_eq (n := 6) (by decide) (show sL cZ352 114 = 6 by decide +kernel))) ql_X6_19 qt_J7_fill_53178 qn_J7 qc_J7_fill_53178 ⟨by decide, by decide, rfl⟩ rfl ⟨Nat.le_of_ble_eq_true rfl, Nat.le_of_ble_eq_true rfl⟩ (by decide) (rest := []) (Nat.le_of_ble_eq_true rfl) dX6_init_22 ⟨Nat.le_of_ble_eq_true rfl, Nat.le_of_ble_eq_true rfl⟩ rfl ?_
  refine ww_aload_n (pc := 25) hC dX6_init_25 0 rfl ?_
  refine ww_bipush (pc := 26) hC (v := (6 : Int32)) dX6_init_26 (by decide) ?_
  refine ww_newa (pc := 28) hC 13 (by decide) (by decide) rfl (ct0 hW _) (n := 115) (by decide +kernel) (by decide) (N := 6) (by decide) (Z' := cZ354) rfl (X' := cX355) rfl (by decide) qy_FieldType_int dX6_init_28 (Nat.le_of_ble_eq_true rfl) (Nat.le_of_ble_eq_true rfl) ?_
  refine ww_putR (pc := 30) hC (i := 113) (t := 115) 6 5 ⟨by decide +kernel, by decide +kernel⟩ RX6 (by decide) (by decide) rfl qf_X6_25 rfl hin rfl rfl rfl rfl (Z' := cZ356) rfl dX6_init_30 ?_
  refine ww_aload_n (pc := 33) hC dX6_init_33 0 rfl ?_
  refine ww_bipush (pc := 34) hC (v := (6 : Int32)) dX6_init_34 (by decide) ?_
  refine ww_newa (pc := 36) hC 13 (by decide) (by decide) rfl (ct0 hW _) (n := 116) (by decide +kernel) (by decide) (N := 6) (by decide) (Z' := cZ357) rfl (X' := cX358) rfl (by decide) qy_FieldType_int dX6_init_36 (Nat.le_of_ble_eq_true rfl) (Nat.le_of_ble_eq_true rfl) ?_
  refine ww_putR (pc := 38) hC (i := 113) (t := 116) 6 6 ⟨by decide +kernel, by decide +kernel⟩ RX6 (by decide) (by decide) rfl qf_X6_28 rfl hin rfl rfl rfl rfl (Z' := cZ359) rfl dX6_init_38 ?_
  refine ww_aload_n (pc := 41) hC dX6_init_41 0 rfl ?_
  refine ww_bipush (pc := 42) hC (v := (24 : Int32)) dX6_init_42 (by decide) ?_
  refine ww_newa (pc := 44) hC 13 (by decide) (by decide) rfl (ct0 hW _) (n := 117) (by decide +kernel) (by decide) (N := 24) (by decide) (Z' := cZ360) rfl (X' := cX361) rfl (by decide) qy_FieldType_int dX6_init_44 (Nat.le_of_ble_eq_true rfl) (Nat.le_of_ble_eq_true rfl) ?_
  refine ww_putR (pc := 46) hC (i := 113) (t := 117) 6 7 ⟨by decide +kernel, by decide +kernel⟩ RX6 (by decide) (by decide) rfl qf_X6_31 rfl hin rfl rfl rfl rfl (Z' := cZ362) rfl dX6_init_46 ?_
  refine ww_aload_n (pc := 49) hC dX6_init_49 0 rfl ?_
  refine ww_new (pc := 50) hC 3 (by decide) (ct0 hW _) (n := 118) (by decide +kernel) rfl (Z' := cZ363) rfl (X' := cX364) rfl qk_X6_34 qa_X3 qn_X3 dX6_init_50 (Nat.le_of_ble_eq_true rfl) (Nat.le_of_ble_eq_true rfl) ?_
  refine ww_dup (pc := 53) hC dX6_init_53 rfl ?_
  refine ww_iconst (pc := 54) hC (v := (4 : Int32)) dX6_init_54 (by decide) ?_
  refine ww_callI (pc := 55) hC [.int (4 : Int32)] (mc := 1) (ms := 4) (Z' := cZ367) (X' := cX366) (ciX3_init_35 hW) ql_X6_36 qi_X3_init qn_X3 qc_X3_init rfl ⟨by decide, by decide, rfl⟩ rfl ⟨Nat.le_of_ble_eq_true rfl, Nat.le_of_ble_eq_true rfl⟩ (by decide) (rest := [.ref (w.1 118), .ref (w.1 113)]) (Nat.le_of_ble_eq_true rfl) dX6_init_55 ⟨Nat.le_of_ble_eq_true rfl, Nat.le_of_ble_eq_true rfl⟩ rfl ?_
  refine ww_putR (pc := 58) hC (i := 113) (t := 118) 6 8 ⟨by decide +kernel, by decide +kernel⟩ RX6 (by decide) (by decide) rfl qf_X6_39 rfl hin rfl rfl rfl rfl (Z' := cZ368) rfl dX6_init_58 ?_
  refine ww_aload_n (pc := 61) hC dX6_init_61 0 rfl ?_
  refine ww_new (pc := 62) hC 3 (by decide) (ct0 hW _) (n := 120) (by decide +kernel) rfl (Z' := cZ369) rfl (X' := cX370) rfl qk_X6_34 qa_X3 qn_X3 dX6_init_62 (Nat.le_of_ble_eq_true rfl) (Nat.le_of_ble_eq_true rfl) ?_
  refine ww_dup (pc := 65) hC dX6_init_65 rfl ?_
  refine ww_bipush (pc := 66) hC (v := (6 : Int32)) dX6_init_66 (by decide) ?_
  refine ww_callI (pc := 68) hC [.int (6 : Int32)] (mc := 1) (ms := 6) (Z' := cZ373) (X' := cX372) (ciX3_init_36 hW) ql_X6_36 qi_X3_init qn_X3 qc_X3_init rfl ⟨by decide, by decide, rfl⟩ rfl ⟨Nat.le_of_ble_eq_true rfl, Nat.le_of_ble_eq_true rfl⟩ (by decide) (rest := [.ref (w.1 120), .ref (w.1 113)]) (Nat.le_of_ble_eq_true rfl) dX6_init_68 ⟨Nat.le_of_ble_eq_true rfl, Nat.le_of_ble_eq_true rfl⟩ rfl ?_
  refine ww_putR (pc := 71) hC (i := 113) (t := 120) 6 9 ⟨by decide +kernel, by decide +kernel⟩ RX6 (by decide) (by decide) rfl qf_X6_43 rfl hin rfl rfl rfl rfl (Z' := cZ374) rfl dX6_init_71 ?_
  refine ww_aload_n (pc := 74) hC dX6_init_74 0 rfl ?_
  refine ww_new (pc := 75) hC 3 (by decide) (ct0 hW _) (n := 122) (by decide +kernel) rfl (Z' := cZ375) rfl (X' := cX376) rfl qk_X6_34 qa_X3 qn_X3 dX6_init_75 (Nat.le_of_ble_eq_true rfl) (Nat.le_of_ble_eq_true rfl) ?_
  refine ww_dup (pc := 78) hC dX6_init_78 rfl ?_
  refine ww_bipush (pc := 79) hC (v := (10 : Int32)) dX6_init_79 (by decide) ?_
  refine ww_callI (pc := 81) hC [.int (10 : Int32)] (mc := 1) (ms := 10) (Z' := cZ379) (X' := cX378) (ciX3_init_37 hW) ql_X6_36 qi_X3_init qn_X3 qc_X3_init rfl ⟨by decide, by decide, rfl⟩ rfl ⟨Nat.le_of_ble_eq_true rfl, Nat.le_of_ble_eq_true rfl⟩ (by decide) (rest := [.ref (w.1 122), .ref (w.1 113)]) (Nat.le_of_ble_eq_true rfl) dX6_init_81 ⟨Nat.le_of_ble_eq_true rfl, Nat.le_of_ble_eq_true rfl⟩ rfl ?_
  refine ww_putR (pc := 84) hC (i := 113) (t := 122) 6 10 ⟨by decide +kernel, by decide +kernel⟩ RX6 (by decide) (by decide) rfl qf_X6_46 rfl hin rfl rfl rfl rfl (Z' := cZ380) rfl dX6_init_84 ?_
  refine ww_aload_n (pc := 87) hC dX6_init_87 0 rfl ?_
  refine ww_new (pc := 88) hC 3 (by decide) (ct0 hW _) (n := 124) (by decide +kernel) rfl (Z' := cZ381) rfl (X' := cX382) rfl qk_X6_34 qa_X3 qn_X3 dX6_init_88 (Nat.le_of_ble_eq_true rfl) (Nat.le_of_ble_eq_true rfl) ?_
  refine ww_dup (pc := 91) hC dX6_init_91 rfl ?_
  refine ww_bipush (pc := 92) hC (v := (10 : Int32)) dX6_init_92 (by decide) ?_
  refine ww_callI (pc := 94) hC [.int (10 : Int32)] (mc := 1) (ms := 10) (Z' := cZ385) (X' := cX384) (ciX3_init_38 hW) ql_X6_36 qi_X3_init qn_X3 qc_X3_init rfl ⟨by decide, by decide, rfl⟩ rfl ⟨Nat.le_of_ble_eq_true rfl, Nat.le_of_ble_eq_true rfl⟩ (by decide) (rest := [.ref (w.1 124), .ref (w.1 113)]) (Nat.le_of_ble_eq_true rfl) dX6_init_94 ⟨Nat.le_of_ble_eq_true rfl, Nat.le_of_ble_eq_true rfl⟩ rfl ?_
  refine ww_putR (pc := 97) hC (i := 113) (t := 124) 6 11 ⟨by decide +kernel, by decide +kernel⟩ RX6 (by decide) (by decide) rfl qf_X6_49 rfl hin rfl rfl rfl rfl (Z' := cZ386) rfl dX6_init_97 ?_
  exact ww_vret (pc := 100) hC hr (u := ()) (r := ()) rfl dX6_init_100
def cZ387 : XS := stR cZ386 73 3 113
theorem rc_cZ387 : RC cZ387 := RC.s rc_cZ386 (by decide +kernel)
def cZ388 : XS := newO 126 cZ387 6
theorem rc_cZ388 : RC cZ388 := RC.o rc_cZ387 (by decide +kernel)
def cX389 : XD := zX cX384 126
def cX390 : XD := wI cX389 126 1 (-1 : Int32)
def cZ391 : XS := newA 127 cZ388 13 6
theorem rc_cZ391 : RC cZ391 := RC.a rc_cZ388 (by decide +kernel)
def cX392 : XD := zX cX390 127
def cZ393 : XS := stR cZ391 126 4 127
theorem rc_cZ393 : RC cZ393 := RC.s rc_cZ391 (by decide +kernel)
def cX394 : XD := fillI cX392 127 6 (3 : Int32)
def cZ395 : XS := newA 128 cZ393 13 6
theorem rc_cZ395 : RC cZ395 := RC.a rc_cZ393 (by decide +kernel)
def cX396 : XD := zX cX394 128
def cZ397 : XS := stR cZ395 126 5 128
theorem rc_cZ397 : RC cZ397 := RC.s rc_cZ395 (by decide +kernel)
def cZ398 : XS := newA 129 cZ397 13 6
theorem rc_cZ398 : RC cZ398 := RC.a rc_cZ397 (by decide +kernel)
def cX399 : XD := zX cX396 129
def cZ400 : XS := stR cZ398 126 6 129
theorem rc_cZ400 : RC cZ400 := RC.s rc_cZ398 (by decide +kernel)
def cZ401 : XS := newA 130 cZ400 13 24
theorem rc_cZ401 : RC cZ401 := RC.a rc_cZ400 (by decide +kernel)
def cX402 : XD := zX cX399 130
def cZ403 : XS := stR cZ401 126 7 130
theorem rc_cZ403 : RC cZ403 := RC.s rc_cZ401 (by decide +kernel)
def cZ404 : XS := newO 131 cZ403 3
theorem rc_cZ404 : RC cZ404 := RC.o rc_cZ403 (by decide +kernel)
def cX405 : XD := zX cX402 131
def cZ406 : XS := newA 132 cZ404 13 4
theorem rc_cZ406 : RC cZ406 := RC.a rc_cZ404 (by decide +kernel)
def cX407 : XD := zX cX405 132
def cZ408 : XS := stR cZ406 131 0 132
theorem rc_cZ408 : RC cZ408 := RC.s rc_cZ406 (by decide +kernel)
set_option maxHeartbeats 40000000 in
set_option maxRecDepth 100000 in
theorem ciX3_init_40 {l : Launch} {E : XE} {w : XW} (hW : ∀ i : Nat, w.1 i = w.1 0 + i) : Ct l E w yX3_init (wsM yX3_init cX3_init 2 none) (rmX 1 1 4) 1 4 [.ref (w.1 131), .int (4 : Int32)] (w.1 (sn cZ404)) (w.1 (sn cZ408)) cZ404 cZ408 cX405 cX407 none := by
  refine ct_of (by decide) (Nat.le_of_ble_eq_true rfl) ?_
  intro p e s m args below meth c hC hr hin hav
  refine ww_lv (lv' := [(0, .ref (w.1 131)), (1, .int (4 : Int32))]) rfl ?_
  refine ww_aload_n (pc := 0) hC dX3_init_0 0 rfl ?_
  refine ww_objInit (pc := 1) hC ql_X3_3 qi_java_lang_Object__init_ qc_java_lang_Object__init_ dX3_init_1 ⟨Nat.le_of_ble_eq_true rfl, Nat.le_of_ble_eq_true rfl⟩ (Nat.le_of_ble_eq_true rfl) ?_
  refine ww_aload_n (pc := 4) hC dX3_init_4 0 rfl ?_
  refine ww_iconst (pc := 5) hC (v := (0 : Int32)) dX3_init_5 (by decide) ?_
  refine ww_iload_n (pc := 6) hC dX3_init_6 1 rfl ?_
  refine ww_max (pc := 7) hC ql_X3_9 qt_J9_max_7cf53 qn_J9 qc_J9_max_7cf53 dX3_init_7 ⟨Nat.le_of_ble_eq_true rfl, Nat.le_of_ble_eq_true rfl⟩ (Nat.le_of_ble_eq_true rfl) ⟨Nat.le_of_ble_eq_true rfl, Nat.le_of_ble_eq_true rfl⟩ ?_
  rw [show (if (0 : Int32) < (4 : Int32) then (4 : Int32) else (0 : Int32)) = (4 : Int32) by decide]
  refine ww_newa (pc := 10) hC 13 (by decide) (by decide) rfl (ct0 hW _) (n := 132) (by decide +kernel) (by decide) (N := 4) (by decide) (Z' := cZ406) rfl (X' := cX407) rfl (by decide) qy_FieldType_int dX3_init_10 (Nat.le_of_ble_eq_true rfl) (Nat.le_of_ble_eq_true rfl) ?_
  refine ww_putR (pc := 12) hC (i := 131) (t := 132) 3 0 ⟨by decide +kernel, by decide +kernel⟩ RX3 (by decide) (by decide) rfl qf_X3_15 rfl hin rfl rfl rfl rfl (Z' := cZ408) rfl dX3_init_12 ?_
  exact ww_vret (pc := 15) hC hr (u := ()) (r := ()) rfl dX3_init_15
def cZ409 : XS := stR cZ408 126 8 131
theorem rc_cZ409 : RC cZ409 := RC.s rc_cZ408 (by decide +kernel)
def cZ410 : XS := newO 133 cZ409 3
theorem rc_cZ410 : RC cZ410 := RC.o rc_cZ409 (by decide +kernel)
def cX411 : XD := zX cX407 133
def cZ412 : XS := newA 134 cZ410 13 6
theorem rc_cZ412 : RC cZ412 := RC.a rc_cZ410 (by decide +kernel)
def cX413 : XD := zX cX411 134
def cZ414 : XS := stR cZ412 133 0 134
theorem rc_cZ414 : RC cZ414 := RC.s rc_cZ412 (by decide +kernel)
set_option maxHeartbeats 40000000 in
set_option maxRecDepth 100000 in
theorem ciX3_init_41 {l : Launch} {E : XE} {w : XW} (hW : ∀ i : Nat, w.1 i = w.1 0 + i) : Ct l E w yX3_init (wsM yX3_init cX3_init 2 none) (rmX 1 1 6) 1 6 [.ref (w.1 133), .int (6 : Int32)] (w.1 (sn cZ410)) (w.1 (sn cZ414)) cZ410 cZ414 cX411 cX413 none := by
  refine ct_of (by decide) (Nat.le_of_ble_eq_true rfl) ?_
  intro p e s m args below meth c hC hr hin hav
  refine ww_lv (lv' := [(0, .ref (w.1 133)), (1, .int (6 : Int32))]) rfl ?_
  refine ww_aload_n (pc := 0) hC dX3_init_0 0 rfl ?_
  refine ww_objInit (pc := 1) hC ql_X3_3 qi_java_lang_Object__init_ qc_java_lang_Object__init_ dX3_init_1 ⟨Nat.le_of_ble_eq_true rfl, Nat.le_of_ble_eq_true rfl⟩ (Nat.le_of_ble_eq_true rfl) ?_
  refine ww_aload_n (pc := 4) hC dX3_init_4 0 rfl ?_
  refine ww_iconst (pc := 5) hC (v := (0 : Int32)) dX3_init_5 (by decide) ?_
  refine ww_iload_n (pc := 6) hC dX3_init_6 1 rfl ?_
  refine ww_max (pc := 7) hC ql_X3_9 qt_J9_max_7cf53 qn_J9 qc_J9_max_7cf53 dX3_init_7 ⟨Nat.le_of_ble_eq_true rfl, Nat.le_of_ble_eq_true rfl⟩ (Nat.le_of_ble_eq_true rfl) ⟨Nat.le_of_ble_eq_true rfl, Nat.le_of_ble_eq_true rfl⟩ ?_
  rw [show (if (0 : Int32) < (6 : Int32) then (6 : Int32) else (0 : Int32)) = (6 : Int32) by decide]
  refine ww_newa (pc := 10) hC 13 (by decide) (by decide) rfl (ct0 hW _) (n := 134) (by decide +kernel) (by decide) (N := 6) (by decide) (Z' := cZ412) rfl (X' := cX413) rfl (by decide) qy_FieldType_int dX3_init_10 (Nat.le_of_ble_eq_true rfl) (Nat.le_of_ble_eq_true rfl) ?_
  refine ww_putR (pc := 12) hC (i := 133) (t := 134) 3 0 ⟨by decide +kernel, by decide +kernel⟩ RX3 (by decide) (by decide) rfl qf_X3_15 rfl hin rfl rfl rfl rfl (Z' := cZ414) rfl dX3_init_12 ?_
  exact ww_vret (pc := 15) hC hr (u := ()) (r := ()) rfl dX3_init_15
def cZ415 : XS := stR cZ414 126 9 133
theorem rc_cZ415 : RC cZ415 := RC.s rc_cZ414 (by decide +kernel)
def cZ416 : XS := newO 135 cZ415 3
theorem rc_cZ416 : RC cZ416 := RC.o rc_cZ415 (by decide +kernel)
def cX417 : XD := zX cX413 135
def cZ418 : XS := newA 136 cZ416 13 10
theorem rc_cZ418 : RC cZ418 := RC.a rc_cZ416 (by decide +kernel)
def cX419 : XD := zX cX417 136
def cZ420 : XS := stR cZ418 135 0 136
theorem rc_cZ420 : RC cZ420 := RC.s rc_cZ418 (by decide +kernel)
set_option maxHeartbeats 40000000 in
set_option maxRecDepth 100000 in
theorem ciX3_init_42 {l : Launch} {E : XE} {w : XW} (hW : ∀ i : Nat, w.1 i = w.1 0 + i) : Ct l E w yX3_init (wsM yX3_init cX3_init 2 none) (rmX 1 1 10) 1 10 [.ref (w.1 135), .int (10 : Int32)] (w.1 (sn cZ416)) (w.1 (sn cZ420)) cZ416 cZ420 cX417 cX419 none := by
  refine ct_of (by decide) (Nat.le_of_ble_eq_true rfl) ?_
  intro p e s m args below meth c hC hr hin hav
  refine ww_lv (lv' := [(0, .ref (w.1 135)), (1, .int (10 : Int32))]) rfl ?_
  refine ww_aload_n (pc := 0) hC dX3_init_0 0 rfl ?_
  refine ww_objInit (pc := 1) hC ql_X3_3 qi_java_lang_Object__init_ qc_java_lang_Object__init_ dX3_init_1 ⟨Nat.le_of_ble_eq_true rfl, Nat.le_of_ble_eq_true rfl⟩ (Nat.le_of_ble_eq_true rfl) ?_
  refine ww_aload_n (pc := 4) hC dX3_init_4 0 rfl ?_
  refine ww_iconst (pc := 5) hC (v := (0 : Int32)) dX3_init_5 (by decide) ?_
  refine ww_iload_n (pc := 6) hC dX3_init_6 1 rfl ?_
  refine ww_max (pc := 7) hC ql_X3_9 qt_J9_max_7cf53 qn_J9 qc_J9_max_7cf53 dX3_init_7 ⟨Nat.le_of_ble_eq_true rfl, Nat.le_of_ble_eq_true rfl⟩ (Nat.le_of_ble_eq_true rfl) ⟨Nat.le_of_ble_eq_true rfl, Nat.le_of_ble_eq_true rfl⟩ ?_
  rw [show (if (0 : Int32) < (10 : Int32) then (10 : Int32) else (0 : Int32)) = (10 : Int32) by decide]
  refine ww_newa (pc := 10) hC 13 (by decide) (by decide) rfl (ct0 hW _) (n := 136) (by decide +kernel) (by decide) (N := 10) (by decide) (Z' := cZ418) rfl (X' := cX419) rfl (by decide) qy_FieldType_int dX3_init_10 (Nat.le_of_ble_eq_true rfl) (Nat.le_of_ble_eq_true rfl) ?_
  refine ww_putR (pc := 12) hC (i := 135) (t := 136) 3 0 ⟨by decide +kernel, by decide +kernel⟩ RX3 (by decide) (by decide) rfl qf_X3_15 rfl hin rfl rfl rfl rfl (Z' := cZ420) rfl dX3_init_12 ?_
  exact ww_vret (pc := 15) hC hr (u := ()) (r := ()) rfl dX3_init_15
def cZ421 : XS := stR cZ420 126 10 135
theorem rc_cZ421 : RC cZ421 := RC.s rc_cZ420 (by decide +kernel)
def cZ422 : XS := newO 137 cZ421 3
theorem rc_cZ422 : RC cZ422 := RC.o rc_cZ421 (by decide +kernel)
def cX423 : XD := zX cX419 137
def cZ424 : XS := newA 138 cZ422 13 10
theorem rc_cZ424 : RC cZ424 := RC.a rc_cZ422 (by decide +kernel)
def cX425 : XD := zX cX423 138
def cZ426 : XS := stR cZ424 137 0 138
theorem rc_cZ426 : RC cZ426 := RC.s rc_cZ424 (by decide +kernel)
set_option maxHeartbeats 40000000 in
set_option maxRecDepth 100000 in
theorem ciX3_init_43 {l : Launch} {E : XE} {w : XW} (hW : ∀ i : Nat, w.1 i = w.1 0 + i) : Ct l E w yX3_init (wsM yX3_init cX3_init 2 none) (rmX 1 1 10) 1 10 [.ref (w.1 137), .int (10 : Int32)] (w.1 (sn cZ422)) (w.1 (sn cZ426)) cZ422 cZ426 cX423 cX425 none := by
  refine ct_of (by decide) (Nat.le_of_ble_eq_true rfl) ?_
  intro p e s m args below meth c hC hr hin hav
  refine ww_lv (lv' := [(0, .ref (w.1 137)), (1, .int (10 : Int32))]) rfl ?_
  refine ww_aload_n (pc := 0) hC dX3_init_0 0 rfl ?_
  refine ww_objInit (pc := 1) hC ql_X3_3 qi_java_lang_Object__init_ qc_java_lang_Object__init_ dX3_init_1 ⟨Nat.le_of_ble_eq_true rfl, Nat.le_of_ble_eq_true rfl⟩ (Nat.le_of_ble_eq_true rfl) ?_
  refine ww_aload_n (pc := 4) hC dX3_init_4 0 rfl ?_
  refine ww_iconst (pc := 5) hC (v := (0 : Int32)) dX3_init_5 (by decide) ?_
  refine ww_iload_n (pc := 6) hC dX3_init_6 1 rfl ?_
  refine ww_max (pc := 7) hC ql_X3_9 qt_J9_max_7cf53 qn_J9 qc_J9_max_7cf53 dX3_init_7 ⟨Nat.le_of_ble_eq_true rfl, Nat.le_of_ble_eq_true rfl⟩ (Nat.le_of_ble_eq_true rfl) ⟨Nat.le_of_ble_eq_true rfl, Nat.le_of_ble_eq_true rfl⟩ ?_
  rw [show (if (0 : Int32) < (10 : Int32) then (10 : Int32) else (0 : Int32)) = (10 : Int32) by decide]
  refine ww_newa (pc := 10) hC 13 (by decide) (by decide) rfl (ct0 hW _) (n := 138) (by decide +kernel) (by decide) (N := 10) (by decide) (Z' := cZ424) rfl (X' := cX425) rfl (by decide) qy_FieldType_int dX3_init_10 (Nat.le_of_ble_eq_true rfl) (Nat.le_of_ble_eq_true rfl) ?_
  refine ww_putR (pc := 12) hC (i := 137) (t := 138) 3 0 ⟨by decide +kernel, by decide +kernel⟩ RX3 (by decide) (by decide) rfl qf_X3_15 rfl hin rfl rfl rfl rfl (Z' := cZ426) rfl dX3_init_12 ?_
  exact ww_vret (pc := 15) hC hr (u := ()) (r := ()) rfl dX3_init_15
def cZ427 : XS := stR cZ426 126 11 137
theorem rc_cZ427 : RC cZ427 := RC.s rc_cZ426 (by decide +kernel)
set_option maxHeartbeats 40000000 in
set_option maxRecDepth 100000 in
theorem ciX6_init_39 {l : Launch} {E : XE} {w : XW} (hW : ∀ i : Nat, w.1 i = w.1 0 + i) : Ct l E w yX6_init (wsM yX6_init cX6_init 1 none) (rmX 2 12 84) 12 84 [.ref (w.1 126)] (w.1 (sn cZ388)) (w.1 (sn cZ427)) cZ388 cZ427 cX389 cX425 none := by
  refine ct_of (by decide) (Nat.le_of_ble_eq_true rfl) ?_
  intro p e s m args below meth c hC hr hin hav
  refine ww_lv (lv' := [(0, .ref (w.1 126))]) rfl ?_
  refine ww_aload_n (pc := 0) hC dX6_init_0 0 rfl ?_
  refine ww_objInit (pc := 1) hC ql_X6_3 qi_java_lang_Object__init_ qc_java_lang_Object__init_ dX6_init_1 ⟨Nat.le_of_ble_eq_true rfl, Nat.le_of_ble_eq_true rfl⟩ (Nat.le_of_ble_eq_true rfl) ?_
  refine ww_aload_n (pc := 4) hC dX6_init_4 0 rfl ?_
  refine ww_iconst (pc := 5) hC (v := (-1 : Int32)) dX6_init_5 (by decide) ?_
  refine ww_putI (pc := 6) hC (i := 126) 6 1 ⟨by decide +kernel, by decide +kernel⟩ RX6 (by decide) (by decide) rfl qf_X6_9 rfl rfl rfl rfl dX6_init_6 ?_
  refine ww_nmX (X' := cX390) rfl ?_
  refine ww_aload_n (pc := 9) hC dX6_init_9 0 rfl ?_
  refine ww_bipush (pc := 10) hC (v := (6 : Int32)) dX6_init_10 (by decide) ?_
  refine ww_newa (pc := 12) hC 13 (by decide) (by decide) rfl (ct0 hW _) (n := 127) (by decide +kernel) (by decide) (N := 6) (by decide) (Z' := cZ391) rfl (X' := cX392) rfl (by decide) qy_FieldType_int dX6_init_12 (Nat.le_of_ble_eq_true rfl) (Nat.le_of_ble_eq_true rfl) ?_
  refine ww_putR (pc := 14) hC (i := 126) (t := 127) 6 4 ⟨by decide +kernel, by decide +kernel⟩ RX6 (by decide) (by decide) rfl qf_X6_15 rfl hin rfl rfl rfl rfl (Z' := cZ393) rfl dX6_init_14 ?_
  refine ww_aload_n (pc := 17) hC dX6_init_17 0 rfl ?_
  refine ww_getR (pc := 18) hC (i := 126) 6 4 127 ⟨by decide +kernel, by decide +kernel⟩ RX6 (by decide) (by decide) rfl (by decide +kernel) qf_X6_15 rfl dX6_init_18 ?_
  refine ww_iconst (pc := 21) hC (v := (3 : Int32)) dX6_init_21 (by decide) ?_
  refine ww_callSv (pc := 22) hC [.ref (w.1 127), .int (3 : Int32)] (X' := cX394) (ceJ7_fill_53178 (show KA cZ393 127 13 (sL cZ393 127) from ⟨by decide +kernel, by decide +kernel, rfl⟩) (fill_eq (n := 6) (by decide) (show sL cZ393 127 = 6 by decide +kernel))) ql_X6_19 qt_J7_fill_53178 qn_J7 qc_J7_fill_53178 ⟨by decide, by decide, rfl⟩ rfl ⟨Nat.le_of_ble_eq_true rfl, Nat.le_of_ble_eq_true rfl⟩ (by decide) (rest := []) (Nat.le_of_ble_eq_true rfl) dX6_init_22 ⟨Nat.le_of_ble_eq_true rfl, Nat.le_of_ble_eq_true rfl⟩ rfl ?_
  refine ww_aload_n (pc := 25) hC dX6_init_25 0 rfl ?_
  refine ww_bipush (pc := 26) hC (v := (6 : Int32)) dX6_init_26 (by decide) ?_
  refine ww_newa (pc := 28) hC 13 (by decide) (by decide) rfl (ct0 hW _) (n := 128) (by decide +kernel) (by decide) (N := 6) (by decide) (Z' := cZ395) rfl (X' := cX396) rfl (by decide) qy_FieldType_int dX6_init_28 (Nat.le_of_ble_eq_true rfl) (Nat.le_of_ble_eq_true rfl) ?_
  refine ww_putR (pc := 30) hC (i := 126) (t := 128) 6 5 ⟨by decide +kernel, by decide +kernel⟩ RX6 (by decide) (by decide) rfl qf_X6_25 rfl hin rfl rfl rfl rfl (Z' := cZ397) rfl dX6_init_30 ?_
  refine ww_aload_n (pc := 33) hC dX6_init_33 0 rfl ?_
  refine ww_bipush (pc := 34) hC (v := (6 : Int32)) dX6_init_34 (by decide) ?_
  refine ww_newa (pc := 36) hC 13 (by decide) (by decide) rfl (ct0 hW _) (n := 129) (by decide +kernel) (by decide) (N := 6) (by decide) (Z' := cZ398) rfl (X' := cX399) rfl (by decide) qy_FieldType_int dX6_init_36 (Nat.le_of_ble_eq_true rfl) (Nat.le_of_ble_eq_true rfl) ?_
  refine ww_putR (pc := 38) hC (i := 126) (t := 129) 6 6 ⟨by decide +kernel, by decide +kernel⟩ RX6 (by decide) (by decide) rfl qf_X6_28 rfl hin rfl rfl rfl rfl (Z' := cZ400) rfl dX6_init_38 ?_
  refine ww_aload_n (pc := 41) hC dX6_init_41 0 rfl ?_
  refine ww_bipush (pc := 42) hC (v := (24 : Int32)) dX6_init_42 (by decide) ?_
  refine ww_newa (pc := 44) hC 13 (by decide) (by decide) rfl (ct0 hW _) (n := 130) (by decide +kernel) (by decide) (N := 24) (by decide) (Z' := cZ401) rfl (X' := cX402) rfl (by decide) qy_FieldType_int dX6_init_44 (Nat.le_of_ble_eq_true rfl) (Nat.le_of_ble_eq_true rfl) ?_
  refine ww_putR (pc := 46) hC (i := 126) (t := 130) 6 7 ⟨by decide +kernel, by decide +kernel⟩ RX6 (by decide) (by decide) rfl qf_X6_31 rfl hin rfl rfl rfl rfl (Z' := cZ403) rfl dX6_init_46 ?_
  refine ww_aload_n (pc := 49) hC dX6_init_49 0 rfl ?_
  refine ww_new (pc := 50) hC 3 (by decide) (ct0 hW _) (n := 131) (by decide +kernel) rfl (Z' := cZ404) rfl (X' := cX405) rfl qk_X6_34 qa_X3 qn_X3 dX6_init_50 (Nat.le_of_ble_eq_true rfl) (Nat.le_of_ble_eq_true rfl) ?_
  refine ww_dup (pc := 53) hC dX6_init_53 rfl ?_
  refine ww_iconst (pc := 54) hC (v := (4 : Int32)) dX6_init_54 (by decide) ?_
  refine ww_callI (pc := 55) hC [.int (4 : Int32)] (mc := 1) (ms := 4) (Z' := cZ408) (X' := cX407) (ciX3_init_40 hW) ql_X6_36 qi_X3_init qn_X3 qc_X3_init rfl ⟨by decide, by decide, rfl⟩ rfl ⟨Nat.le_of_ble_eq_true rfl, Nat.le_of_ble_eq_true rfl⟩ (by decide) (rest := [.ref (w.1 131), .ref (w.1 126)]) (Nat.le_of_ble_eq_true rfl) dX6_init_55 ⟨Nat.le_of_ble_eq_true rfl, Nat.le_of_ble_eq_true rfl⟩ rfl ?_
  refine ww_putR (pc := 58) hC (i := 126) (t := 131) 6 8 ⟨by decide +kernel, by decide +kernel⟩ RX6 (by decide) (by decide) rfl qf_X6_39 rfl hin rfl rfl rfl rfl (Z' := cZ409) rfl dX6_init_58 ?_
  refine ww_aload_n (pc := 61) hC dX6_init_61 0 rfl ?_
  refine ww_new (pc := 62) hC 3 (by decide) (ct0 hW _) (n := 133) (by decide +kernel) rfl (Z' := cZ410) rfl (X' := cX411) rfl qk_X6_34 qa_X3 qn_X3 dX6_init_62 (Nat.le_of_ble_eq_true rfl) (Nat.le_of_ble_eq_true rfl) ?_
  refine ww_dup (pc := 65) hC dX6_init_65 rfl ?_
  refine ww_bipush (pc := 66) hC (v := (6 : Int32)) dX6_init_66 (by decide) ?_
  refine ww_callI (pc := 68) hC [.int (6 : Int32)] (mc := 1) (ms := 6) (Z' := cZ414) (X' := cX413) (ciX3_init_41 hW) ql_X6_36 qi_X3_init qn_X3 qc_X3_init rfl ⟨by decide, by decide, rfl⟩ rfl ⟨Nat.le_of_ble_eq_true rfl, Nat.le_of_ble_eq_true rfl⟩ (by decide) (rest := [.ref (w.1 133), .ref (w.1 126)]) (Nat.le_of_ble_eq_true rfl) dX6_init_68 ⟨Nat.le_of_ble_eq_true rfl, Nat.le_of_ble_eq_true rfl⟩ rfl ?_
  refine ww_putR (pc := 71) hC (i := 126) (t := 133) 6 9 ⟨by decide +kernel, by decide +kernel⟩ RX6 (by decide) (by decide) rfl qf_X6_43 rfl hin rfl rfl rfl rfl (Z' := cZ415) rfl dX6_init_71 ?_
  refine ww_aload_n (pc := 74) hC dX6_init_74 0 rfl ?_
  refine ww_new (pc := 75) hC 3 (by decide) (ct0 hW _) (n := 135) (by decide +kernel) rfl (Z' := cZ416) rfl (X' := cX417) rfl qk_X6_34 qa_X3 qn_X3 dX6_init_75 (Nat.le_of_ble_eq_true rfl) (Nat.le_of_ble_eq_true rfl) ?_
  refine ww_dup (pc := 78) hC dX6_init_78 rfl ?_
  refine ww_bipush (pc := 79) hC (v := (10 : Int32)) dX6_init_79 (by decide) ?_
  refine ww_callI (pc := 81) hC [.int (10 : Int32)] (mc := 1) (ms := 10) (Z' := cZ420) (X' := cX419) (ciX3_init_42 hW) ql_X6_36 qi_X3_init qn_X3 qc_X3_init rfl ⟨by decide, by decide, rfl⟩ rfl ⟨Nat.le_of_ble_eq_true rfl, Nat.le_of_ble_eq_true rfl⟩ (by decide) (rest := [.ref (w.1 135), .ref (w.1 126)]) (Nat.le_of_ble_eq_true rfl) dX6_init_81 ⟨Nat.le_of_ble_eq_true rfl, Nat.le_of_ble_eq_true rfl⟩ rfl ?_
  refine ww_putR (pc := 84) hC (i := 126) (t := 135) 6 10 ⟨by decide +kernel, by decide +kernel⟩ RX6 (by decide) (by decide) rfl qf_X6_46 rfl hin rfl rfl rfl rfl (Z' := cZ421) rfl dX6_init_84 ?_
  refine ww_aload_n (pc := 87) hC dX6_init_87 0 rfl ?_
  refine ww_new (pc := 88) hC 3 (by decide) (ct0 hW _) (n := 137) (by decide +kernel) rfl (Z' := cZ422) rfl (X' := cX423) rfl qk_X6_34 qa_X3 qn_X3 dX6_init_88 (Nat.le_of_ble_eq_true rfl) (Nat.le_of_ble_eq_true rfl) ?_
  refine ww_dup (pc := 91) hC dX6_init_91 rfl ?_
  refine ww_bipush (pc := 92) hC (v := (10 : Int32)) dX6_init_92 (by decide) ?_
  refine ww_callI (pc := 94) hC [.int (10 : Int32)] (mc := 1) (ms := 10) (Z' := cZ426) (X' := cX425) (ciX3_init_43 hW) ql_X6_36 qi_X3_init qn_X3 qc_X3_init rfl ⟨by decide, by decide, rfl⟩ rfl ⟨Nat.le_of_ble_eq_true rfl, Nat.le_of_ble_eq_true rfl⟩ (by decide) (rest := [.ref (w.1 137), .ref (w.1 126)]) (Nat.le_of_ble_eq_true rfl) dX6_init_94 ⟨Nat.le_of_ble_eq_true rfl, Nat.le_of_ble_eq_true rfl⟩ rfl ?_
  refine ww_putR (pc := 97) hC (i := 126) (t := 137) 6 11 ⟨by decide +kernel, by decide +kernel⟩ RX6 (by decide) (by decide) rfl qf_X6_49 rfl hin rfl rfl rfl rfl (Z' := cZ427) rfl dX6_init_97 ?_
  exact ww_vret (pc := 100) hC hr (u := ()) (r := ()) rfl dX6_init_100
def cZ428 : XS := stR cZ427 73 4 126
theorem rc_cZ428 : RC cZ428 := RC.s rc_cZ427 (by decide +kernel)
def cZ429 : XS := newO 139 cZ428 9
theorem rc_cZ429 : RC cZ429 := RC.o rc_cZ428 (by decide +kernel)
def cX430 : XD := zX cX425 139
def cZ431 : XS := newA 140 cZ429 13 3
theorem rc_cZ431 : RC cZ431 := RC.a rc_cZ429 (by decide +kernel)
def cX432 : XD := zX cX430 140
def cZ433 : XS := stR cZ431 139 0 140
theorem rc_cZ433 : RC cZ433 := RC.s rc_cZ431 (by decide +kernel)
def cZ434 : XS := newA 141 cZ433 13 3
theorem rc_cZ434 : RC cZ434 := RC.a rc_cZ433 (by decide +kernel)
def cX435 : XD := zX cX432 141
def cZ436 : XS := stR cZ434 139 1 141
theorem rc_cZ436 : RC cZ436 := RC.s rc_cZ434 (by decide +kernel)
set_option maxHeartbeats 40000000 in
set_option maxRecDepth 100000 in
theorem ciX9_init_44 {l : Launch} {E : XE} {w : XW} (hW : ∀ i : Nat, w.1 i = w.1 0 + i) : Ct l E w yX9_init (wsM yX9_init cX9_init 1 none) (rmX 1 2 6) 2 6 [.ref (w.1 139)] (w.1 (sn cZ429)) (w.1 (sn cZ436)) cZ429 cZ436 cX430 cX435 none := by
  refine ct_of (by decide) (Nat.le_of_ble_eq_true rfl) ?_
  intro p e s m args below meth c hC hr hin hav
  refine ww_lv (lv' := [(0, .ref (w.1 139))]) rfl ?_
  refine ww_aload_n (pc := 0) hC dX9_init_0 0 rfl ?_
  refine ww_objInit (pc := 1) hC ql_X9_3 qi_java_lang_Object__init_ qc_java_lang_Object__init_ dX9_init_1 ⟨Nat.le_of_ble_eq_true rfl, Nat.le_of_ble_eq_true rfl⟩ (Nat.le_of_ble_eq_true rfl) ?_
  refine ww_aload_n (pc := 4) hC dX9_init_4 0 rfl ?_
  refine ww_iconst (pc := 5) hC (v := (3 : Int32)) dX9_init_5 (by decide) ?_
  refine ww_newa (pc := 6) hC 13 (by decide) (by decide) rfl (ct0 hW _) (n := 140) (by decide +kernel) (by decide) (N := 3) (by decide) (Z' := cZ431) rfl (X' := cX432) rfl (by decide) qy_FieldType_int dX9_init_6 (Nat.le_of_ble_eq_true rfl) (Nat.le_of_ble_eq_true rfl) ?_
  refine ww_putR (pc := 8) hC (i := 139) (t := 140) 9 0 ⟨by decide +kernel, by decide +kernel⟩ RX9 (by decide) (by decide) rfl qf_X9_9 rfl hin rfl rfl rfl rfl (Z' := cZ433) rfl dX9_init_8 ?_
  refine ww_aload_n (pc := 11) hC dX9_init_11 0 rfl ?_
  refine ww_iconst (pc := 12) hC (v := (3 : Int32)) dX9_init_12 (by decide) ?_
  refine ww_newa (pc := 13) hC 13 (by decide) (by decide) rfl (ct0 hW _) (n := 141) (by decide +kernel) (by decide) (N := 3) (by decide) (Z' := cZ434) rfl (X' := cX435) rfl (by decide) qy_FieldType_int dX9_init_13 (Nat.le_of_ble_eq_true rfl) (Nat.le_of_ble_eq_true rfl) ?_
  refine ww_putR (pc := 15) hC (i := 139) (t := 141) 9 1 ⟨by decide +kernel, by decide +kernel⟩ RX9 (by decide) (by decide) rfl qf_X9_15 rfl hin rfl rfl rfl rfl (Z' := cZ436) rfl dX9_init_15 ?_
  exact ww_vret (pc := 18) hC hr (u := ()) (r := ()) rfl dX9_init_18
def cZ437 : XS := stR cZ436 0 8 139
theorem rc_cZ437 : RC cZ437 := RC.s rc_cZ436 (by decide +kernel)
def cZ438 : XS := newO 142 cZ437 3
theorem rc_cZ438 : RC cZ438 := RC.o rc_cZ437 (by decide +kernel)
def cX439 : XD := zX cX435 142
def cZ440 : XS := newA 143 cZ438 13 20
theorem rc_cZ440 : RC cZ440 := RC.a rc_cZ438 (by decide +kernel)
def cX441 : XD := zX cX439 143
def cZ442 : XS := stR cZ440 142 0 143
theorem rc_cZ442 : RC cZ442 := RC.s rc_cZ440 (by decide +kernel)
set_option maxHeartbeats 40000000 in
set_option maxRecDepth 100000 in
theorem ciX3_init_45 {l : Launch} {E : XE} {w : XW} (hW : ∀ i : Nat, w.1 i = w.1 0 + i) : Ct l E w yX3_init (wsM yX3_init cX3_init 2 none) (rmX 1 1 20) 1 20 [.ref (w.1 142), .int (20 : Int32)] (w.1 (sn cZ438)) (w.1 (sn cZ442)) cZ438 cZ442 cX439 cX441 none := by
  refine ct_of (by decide) (Nat.le_of_ble_eq_true rfl) ?_
  intro p e s m args below meth c hC hr hin hav
  refine ww_lv (lv' := [(0, .ref (w.1 142)), (1, .int (20 : Int32))]) rfl ?_
  refine ww_aload_n (pc := 0) hC dX3_init_0 0 rfl ?_
  refine ww_objInit (pc := 1) hC ql_X3_3 qi_java_lang_Object__init_ qc_java_lang_Object__init_ dX3_init_1 ⟨Nat.le_of_ble_eq_true rfl, Nat.le_of_ble_eq_true rfl⟩ (Nat.le_of_ble_eq_true rfl) ?_
  refine ww_aload_n (pc := 4) hC dX3_init_4 0 rfl ?_
  refine ww_iconst (pc := 5) hC (v := (0 : Int32)) dX3_init_5 (by decide) ?_
  refine ww_iload_n (pc := 6) hC dX3_init_6 1 rfl ?_
  refine ww_max (pc := 7) hC ql_X3_9 qt_J9_max_7cf53 qn_J9 qc_J9_max_7cf53 dX3_init_7 ⟨Nat.le_of_ble_eq_true rfl, Nat.le_of_ble_eq_true rfl⟩ (Nat.le_of_ble_eq_true rfl) ⟨Nat.le_of_ble_eq_true rfl, Nat.le_of_ble_eq_true rfl⟩ ?_
  rw [show (if (0 : Int32) < (20 : Int32) then (20 : Int32) else (0 : Int32)) = (20 : Int32) by decide]
  refine ww_newa (pc := 10) hC 13 (by decide) (by decide) rfl (ct0 hW _) (n := 143) (by decide +kernel) (by decide) (N := 20) (by decide) (Z' := cZ440) rfl (X' := cX441) rfl (by decide) qy_FieldType_int dX3_init_10 (Nat.le_of_ble_eq_true rfl) (Nat.le_of_ble_eq_true rfl) ?_
  refine ww_putR (pc := 12) hC (i := 142) (t := 143) 3 0 ⟨by decide +kernel, by decide +kernel⟩ RX3 (by decide) (by decide) rfl qf_X3_15 rfl hin rfl rfl rfl rfl (Z' := cZ442) rfl dX3_init_12 ?_
  exact ww_vret (pc := 15) hC hr (u := ()) (r := ()) rfl dX3_init_15
def cZ443 : XS := stR cZ442 0 9 142
theorem rc_cZ443 : RC cZ443 := RC.s rc_cZ442 (by decide +kernel)
def cZ444 : XS := newM 144 cZ443 6 60
theorem rc_cZ444 : RC cZ444 := RC.m rc_cZ443 (by decide +kernel)
def cX445 : XD := zM cX441 144 6
def cZ446 : XS := stR cZ444 0 10 144
theorem rc_cZ446 : RC cZ446 := RC.s rc_cZ444 (by decide +kernel)
def cZ447 : XS := newA 151 cZ446 13 6
theorem rc_cZ447 : RC cZ447 := RC.a rc_cZ446 (by decide +kernel)
def cX448 : XD := zX cX445 151
def cZ449 : XS := stR cZ447 0 11 151
theorem rc_cZ449 : RC cZ449 := RC.s rc_cZ447 (by decide +kernel)
def cX450 : XD := fillI cX448 151 6 (-1 : Int32)
def cZ451 : XS := newA 152 cZ449 13 6
theorem rc_cZ451 : RC cZ451 := RC.a rc_cZ449 (by decide +kernel)
def cX452 : XD := zX cX450 152
def cZ453 : XS := stR cZ451 0 12 152
theorem rc_cZ453 : RC cZ453 := RC.s rc_cZ451 (by decide +kernel)
def cZ454 : XS := newA 153 cZ453 14 5
theorem rc_cZ454 : RC cZ454 := RC.a rc_cZ453 (by decide +kernel)
def cX455 : XD := zX cX452 153
def cZ456 : XS := stR cZ454 0 13 153
theorem rc_cZ456 : RC cZ456 := RC.s rc_cZ454 (by decide +kernel)
def cZ457 : XS := newA 154 cZ456 14 5
theorem rc_cZ457 : RC cZ457 := RC.a rc_cZ456 (by decide +kernel)
def cX458 : XD := zX cX455 154
def cZ459 : XS := stR cZ457 0 14 154
theorem rc_cZ459 : RC cZ459 := RC.s rc_cZ457 (by decide +kernel)
def cZ460 : XS := newA 155 cZ459 13 4
theorem rc_cZ460 : RC cZ460 := RC.a rc_cZ459 (by decide +kernel)
def cX461 : XD := zX cX458 155
def cZ462 : XS := stR cZ460 0 15 155
theorem rc_cZ462 : RC cZ462 := RC.s rc_cZ460 (by decide +kernel)
def cZ463 : XS := newA 156 cZ462 13 4
theorem rc_cZ463 : RC cZ463 := RC.a rc_cZ462 (by decide +kernel)
def cX464 : XD := zX cX461 156
def cZ465 : XS := stR cZ463 0 16 156
theorem rc_cZ465 : RC cZ465 := RC.s rc_cZ463 (by decide +kernel)
set_option maxHeartbeats 40000000 in
set_option maxRecDepth 100000 in
theorem ciX11_init_1 {l : Launch} {E : XE} {w : XW} (hW : ∀ i : Nat, w.1 i = w.1 0 + i) : Ct l E w yX11_init (wsM yX11_init cX11_init 2 none) (rmX 3 156 2150) 156 2150 [.ref (w.1 0)] (w.1 (sn cZ0)) (w.1 (sn cZ465)) cZ0 cZ465 cX0 cX464 none := by
  refine ct_of (by decide) (Nat.le_of_ble_eq_true rfl) ?_
  intro p e s m args below meth c hC hr hin hav
  refine ww_lv (lv' := [(0, .ref (w.1 0))]) rfl ?_
  refine ww_aload_n (pc := 0) hC dX11_init_0 0 rfl ?_
  refine ww_objInit (pc := 1) hC ql_X11_3 qi_java_lang_Object__init_ qc_java_lang_Object__init_ dX11_init_1 ⟨Nat.le_of_ble_eq_true rfl, Nat.le_of_ble_eq_true rfl⟩ (Nat.le_of_ble_eq_true rfl) ?_
  refine ww_aload_n (pc := 4) hC dX11_init_4 0 rfl ?_
  refine ww_bipush (pc := 5) hC (v := (6 : Int32)) dX11_init_5 (by decide) ?_
  refine ww_anew (pc := 7) hC 17 (by decide) (by decide) rfl hC.2.2.2.2.2.2.2.2.2.2.2.2.2.1 (ct0 hW _) (n := 1) (by decide +kernel) (by decide) (N := 6) (by decide) (Z' := cZ1) rfl (X' := cX2) rfl (by decide) qk_X11_11 dX11_init_7 (Nat.le_of_ble_eq_true rfl) (Nat.le_of_ble_eq_true rfl) ?_
  refine ww_putR (pc := 10) hC (i := 0) (t := 1) 11 0 ⟨by decide +kernel, by decide +kernel⟩ RX11 (by decide) (by decide) rfl qf_X11_13 rfl hin rfl rfl rfl rfl (Z' := cZ3) rfl dX11_init_10 ?_
  refine ww_aload_n (pc := 13) hC dX11_init_13 0 rfl ?_
  refine ww_bipush (pc := 14) hC (v := (6 : Int32)) dX11_init_14 (by decide) ?_
  refine ww_anew (pc := 16) hC 16 (by decide) (by decide) rfl hC.2.2.2.2.2.2.2.2.2.2.2.2.2.2.1 (ct0 hW _) (n := 2) (by decide +kernel) (by decide) (N := 6) (by decide) (Z' := cZ4) rfl (X' := cX5) rfl (by decide) qk_X11_17 dX11_init_16 (Nat.le_of_ble_eq_true rfl) (Nat.le_of_ble_eq_true rfl) ?_
  refine ww_putR (pc := 19) hC (i := 0) (t := 2) 11 1 ⟨by decide +kernel, by decide +kernel⟩ RX11 (by decide) (by decide) rfl qf_X11_19 rfl hin rfl rfl rfl rfl (Z' := cZ6) rfl dX11_init_19 ?_
  refine ww_iconst (pc := 22) hC (v := (0 : Int32)) dX11_init_22 (by decide) ?_
  refine ww_istore_n (pc := 23) hC [(1, .int (0 : Int32)), (0, .ref (w.1 0))] dX11_init_23 rfl (by decide) rfl ?_
  refine ww_iload_n (pc := 24) hC dX11_init_24 0 rfl ?_
  refine ww_aload_n (pc := 25) hC dX11_init_25 1 rfl ?_
  refine ww_getR (pc := 26) hC (i := 0) 11 1 2 ⟨by decide +kernel, by decide +kernel⟩ RX11 (by decide) (by decide) rfl (by decide +kernel) qf_X11_19 rfl dX11_init_26 ?_
  refine ww_alen (pc := 29) hC (n := 6) (d := 16) (6 : Int32) ⟨by decide +kernel, by decide +kernel, by decide +kernel⟩ (by decide) (by decide) (by decide) dX11_init_29 ?_
  refine ww_icmp_ge (pc := 30) hC (x := (0 : Int32)) (y := (6 : Int32)) (d := Classical.propDecidable _) (α := Unit) (f1 := none) (f2 := some ()) (r := ()) (if_neg (by decide)) 52 dX11_init_30 (by decide) (fun q => by cases q) (fun q => ?_)
  refine ww_aload_n (pc := 33) hC dX11_init_33 1 rfl ?_
  refine ww_getR (pc := 34) hC (i := 0) 11 1 2 ⟨by decide +kernel, by decide +kernel⟩ RX11 (by decide) (by decide) rfl (by decide +kernel) qf_X11_19 rfl dX11_init_34 ?_
  refine ww_iload_n (pc := 37) hC dX11_init_37 0 rfl ?_
  refine ww_new (pc := 38) hC 1 (by decide) (ct0 hW _) (n := 3) (by decide +kernel) rfl (Z' := cZ7) rfl (X' := cX8) rfl qk_X11_17 qa_X1 qn_X1 dX11_init_38 (Nat.le_of_ble_eq_true rfl) (Nat.le_of_ble_eq_true rfl) ?_
  refine ww_dup (pc := 41) hC dX11_init_41 rfl ?_
  refine ww_callI (pc := 42) hC [] (mc := 6) (ms := 146) (Z' := cZ26) (X' := cX25) (ciX1_init_2 hW) ql_X11_23 qi_X1_init qn_X1 qc_X1_init rfl ⟨by decide, by decide, rfl⟩ rfl ⟨Nat.le_of_ble_eq_true rfl, Nat.le_of_ble_eq_true rfl⟩ (by decide) (rest := [.ref (w.1 3), .int (0 : Int32), .ref (w.1 2)]) (Nat.le_of_ble_eq_true rfl) dX11_init_42 ⟨Nat.le_of_ble_eq_true rfl, Nat.le_of_ble_eq_true rfl⟩ rfl ?_
  refine ww_aast (pc := 45) hC (a := 2) (t := 3) (n := 6) 16 1 ⟨by decide +kernel, by decide +kernel, by decide +kernel⟩ (by decide) (by decide) rfl ⟨by decide +kernel, by decide +kernel⟩ (by decide) (Or.inl rfl) (by unfold vp_in; decide) (Z' := cZ27) rfl dX11_init_45 ?_
  refine ww_iinc (pc := 46) hC (1 : Int32) [(1, .int (1 : Int32)), (0, .ref (w.1 0))] dX11_init_46 0 rfl (by decide) (by decide) rfl ?_
  refine ww_goto (pc := 49) hC 24 dX11_init_49 (by decide) ?_
  refine ww_iload_n (pc := 24) hC dX11_init_24 0 rfl ?_
  refine ww_aload_n (pc := 25) hC dX11_init_25 1 rfl ?_
  refine ww_getR (pc := 26) hC (i := 0) 11 1 2 ⟨by decide +kernel, by decide +kernel⟩ RX11 (by decide) (by decide) rfl (by decide +kernel) qf_X11_19 rfl dX11_init_26 ?_
  refine ww_alen (pc := 29) hC (n := 6) (d := 16) (6 : Int32) ⟨by decide +kernel, by decide +kernel, by decide +kernel⟩ (by decide) (by decide) (by decide) dX11_init_29 ?_
  refine ww_icmp_ge (pc := 30) hC (x := (1 : Int32)) (y := (6 : Int32)) (d := Classical.propDecidable _) (α := Unit) (f1 := none) (f2 := some ()) (r := ()) (if_neg (by decide)) 52 dX11_init_30 (by decide) (fun q => by cases q) (fun q => ?_)
  refine ww_aload_n (pc := 33) hC dX11_init_33 1 rfl ?_
  refine ww_getR (pc := 34) hC (i := 0) 11 1 2 ⟨by decide +kernel, by decide +kernel⟩ RX11 (by decide) (by decide) rfl (by decide +kernel) qf_X11_19 rfl dX11_init_34 ?_
  refine ww_iload_n (pc := 37) hC dX11_init_37 0 rfl ?_
  refine ww_new (pc := 38) hC 1 (by decide) (ct0 hW _) (n := 10) (by decide +kernel) rfl (Z' := cZ28) rfl (X' := cX29) rfl qk_X11_17 qa_X1 qn_X1 dX11_init_38 (Nat.le_of_ble_eq_true rfl) (Nat.le_of_ble_eq_true rfl) ?_
  refine ww_dup (pc := 41) hC dX11_init_41 rfl ?_
  refine ww_callI (pc := 42) hC [] (mc := 6) (ms := 146) (Z' := cZ47) (X' := cX46) (ciX1_init_3 hW) ql_X11_23 qi_X1_init qn_X1 qc_X1_init rfl ⟨by decide, by decide, rfl⟩ rfl ⟨Nat.le_of_ble_eq_true rfl, Nat.le_of_ble_eq_true rfl⟩ (by decide) (rest := [.ref (w.1 10), .int (1 : Int32), .ref (w.1 2)]) (Nat.le_of_ble_eq_true rfl) dX11_init_42 ⟨Nat.le_of_ble_eq_true rfl, Nat.le_of_ble_eq_true rfl⟩ rfl ?_
  refine ww_aast (pc := 45) hC (a := 2) (t := 10) (n := 6) 16 1 ⟨by decide +kernel, by decide +kernel, by decide +kernel⟩ (by decide) (by decide) rfl ⟨by decide +kernel, by decide +kernel⟩ (by decide) (Or.inl rfl) (by unfold vp_in; decide) (Z' := cZ48) rfl dX11_init_45 ?_
  refine ww_iinc (pc := 46) hC (2 : Int32) [(1, .int (2 : Int32)), (0, .ref (w.1 0))] dX11_init_46 0 rfl (by decide) (by decide) rfl ?_
  refine ww_goto (pc := 49) hC 24 dX11_init_49 (by decide) ?_
  refine ww_iload_n (pc := 24) hC dX11_init_24 0 rfl ?_
  refine ww_aload_n (pc := 25) hC dX11_init_25 1 rfl ?_
  refine ww_getR (pc := 26) hC (i := 0) 11 1 2 ⟨by decide +kernel, by decide +kernel⟩ RX11 (by decide) (by decide) rfl (by decide +kernel) qf_X11_19 rfl dX11_init_26 ?_
  refine ww_alen (pc := 29) hC (n := 6) (d := 16) (6 : Int32) ⟨by decide +kernel, by decide +kernel, by decide +kernel⟩ (by decide) (by decide) (by decide) dX11_init_29 ?_
  refine ww_icmp_ge (pc := 30) hC (x := (2 : Int32)) (y := (6 : Int32)) (d := Classical.propDecidable _) (α := Unit) (f1 := none) (f2 := some ()) (r := ()) (if_neg (by decide)) 52 dX11_init_30 (by decide) (fun q => by cases q) (fun q => ?_)
  refine ww_aload_n (pc := 33) hC dX11_init_33 1 rfl ?_
  refine ww_getR (pc := 34) hC (i := 0) 11 1 2 ⟨by decide +kernel, by decide +kernel⟩ RX11 (by decide) (by decide) rfl (by decide +kernel) qf_X11_19 rfl dX11_init_34 ?_
  refine ww_iload_n (pc := 37) hC dX11_init_37 0 rfl ?_
  refine ww_new (pc := 38) hC 1 (by decide) (ct0 hW _) (n := 17) (by decide +kernel) rfl (Z' := cZ49) rfl (X' := cX50) rfl qk_X11_17 qa_X1 qn_X1 dX11_init_38 (Nat.le_of_ble_eq_true rfl) (Nat.le_of_ble_eq_true rfl) ?_
  refine ww_dup (pc := 41) hC dX11_init_41 rfl ?_
  refine ww_callI (pc := 42) hC [] (mc := 6) (ms := 146) (Z' := cZ68) (X' := cX67) (ciX1_init_4 hW) ql_X11_23 qi_X1_init qn_X1 qc_X1_init rfl ⟨by decide, by decide, rfl⟩ rfl ⟨Nat.le_of_ble_eq_true rfl, Nat.le_of_ble_eq_true rfl⟩ (by decide) (rest := [.ref (w.1 17), .int (2 : Int32), .ref (w.1 2)]) (Nat.le_of_ble_eq_true rfl) dX11_init_42 ⟨Nat.le_of_ble_eq_true rfl, Nat.le_of_ble_eq_true rfl⟩ rfl ?_
  refine ww_aast (pc := 45) hC (a := 2) (t := 17) (n := 6) 16 1 ⟨by decide +kernel, by decide +kernel, by decide +kernel⟩ (by decide) (by decide) rfl ⟨by decide +kernel, by decide +kernel⟩ (by decide) (Or.inl rfl) (by unfold vp_in; decide) (Z' := cZ69) rfl dX11_init_45 ?_
  refine ww_iinc (pc := 46) hC (3 : Int32) [(1, .int (3 : Int32)), (0, .ref (w.1 0))] dX11_init_46 0 rfl (by decide) (by decide) rfl ?_
  refine ww_goto (pc := 49) hC 24 dX11_init_49 (by decide) ?_
  refine ww_iload_n (pc := 24) hC dX11_init_24 0 rfl ?_
  refine ww_aload_n (pc := 25) hC dX11_init_25 1 rfl ?_
  refine ww_getR (pc := 26) hC (i := 0) 11 1 2 ⟨by decide +kernel, by decide +kernel⟩ RX11 (by decide) (by decide) rfl (by decide +kernel) qf_X11_19 rfl dX11_init_26 ?_
  refine ww_alen (pc := 29) hC (n := 6) (d := 16) (6 : Int32) ⟨by decide +kernel, by decide +kernel, by decide +kernel⟩ (by decide) (by decide) (by decide) dX11_init_29 ?_
  refine ww_icmp_ge (pc := 30) hC (x := (3 : Int32)) (y := (6 : Int32)) (d := Classical.propDecidable _) (α := Unit) (f1 := none) (f2 := some ()) (r := ()) (if_neg (by decide)) 52 dX11_init_30 (by decide) (fun q => by cases q) (fun q => ?_)
  refine ww_aload_n (pc := 33) hC dX11_init_33 1 rfl ?_
  refine ww_getR (pc := 34) hC (i := 0) 11 1 2 ⟨by decide +kernel, by decide +kernel⟩ RX11 (by decide) (by decide) rfl (by decide +kernel) qf_X11_19 rfl dX11_init_34 ?_
  refine ww_iload_n (pc := 37) hC dX11_init_37 0 rfl ?_
  refine ww_new (pc := 38) hC 1 (by decide) (ct0 hW _) (n := 24) (by decide +kernel) rfl (Z' := cZ70) rfl (X' := cX71) rfl qk_X11_17 qa_X1 qn_X1 dX11_init_38 (Nat.le_of_ble_eq_true rfl) (Nat.le_of_ble_eq_true rfl) ?_
  refine ww_dup (pc := 41) hC dX11_init_41 rfl ?_
  refine ww_callI (pc := 42) hC [] (mc := 6) (ms := 146) (Z' := cZ89) (X' := cX88) (ciX1_init_5 hW) ql_X11_23 qi_X1_init qn_X1 qc_X1_init rfl ⟨by decide, by decide, rfl⟩ rfl ⟨Nat.le_of_ble_eq_true rfl, Nat.le_of_ble_eq_true rfl⟩ (by decide) (rest := [.ref (w.1 24), .int (3 : Int32), .ref (w.1 2)]) (Nat.le_of_ble_eq_true rfl) dX11_init_42 ⟨Nat.le_of_ble_eq_true rfl, Nat.le_of_ble_eq_true rfl⟩ rfl ?_
  refine ww_aast (pc := 45) hC (a := 2) (t := 24) (n := 6) 16 1 ⟨by decide +kernel, by decide +kernel, by decide +kernel⟩ (by decide) (by decide) rfl ⟨by decide +kernel, by decide +kernel⟩ (by decide) (Or.inl rfl) (by unfold vp_in; decide) (Z' := cZ90) rfl dX11_init_45 ?_
  refine ww_iinc (pc := 46) hC (4 : Int32) [(1, .int (4 : Int32)), (0, .ref (w.1 0))] dX11_init_46 0 rfl (by decide) (by decide) rfl ?_
  refine ww_goto (pc := 49) hC 24 dX11_init_49 (by decide) ?_
  refine ww_iload_n (pc := 24) hC dX11_init_24 0 rfl ?_
  refine ww_aload_n (pc := 25) hC dX11_init_25 1 rfl ?_
  refine ww_getR (pc := 26) hC (i := 0) 11 1 2 ⟨by decide +kernel, by decide +kernel⟩ RX11 (by decide) (by decide) rfl (by decide +kernel) qf_X11_19 rfl dX11_init_26 ?_
  refine ww_alen (pc := 29) hC (n := 6) (d := 16) (6 : Int32) ⟨by decide +kernel, by decide +kernel, by decide +kernel⟩ (by decide) (by decide) (by decide) dX11_init_29 ?_
  refine ww_icmp_ge (pc := 30) hC (x := (4 : Int32)) (y := (6 : Int32)) (d := Classical.propDecidable _) (α := Unit) (f1 := none) (f2 := some ()) (r := ()) (if_neg (by decide)) 52 dX11_init_30 (by decide) (fun q => by cases q) (fun q => ?_)
  refine ww_aload_n (pc := 33) hC dX11_init_33 1 rfl ?_
  refine ww_getR (pc := 34) hC (i := 0) 11 1 2 ⟨by decide +kernel, by decide +kernel⟩ RX11 (by decide) (by decide) rfl (by decide +kernel) qf_X11_19 rfl dX11_init_34 ?_
  refine ww_iload_n (pc := 37) hC dX11_init_37 0 rfl ?_
  refine ww_new (pc := 38) hC 1 (by decide) (ct0 hW _) (n := 31) (by decide +kernel) rfl (Z' := cZ91) rfl (X' := cX92) rfl qk_X11_17 qa_X1 qn_X1 dX11_init_38 (Nat.le_of_ble_eq_true rfl) (Nat.le_of_ble_eq_true rfl) ?_
  refine ww_dup (pc := 41) hC dX11_init_41 rfl ?_
  refine ww_callI (pc := 42) hC [] (mc := 6) (ms := 146) (Z' := cZ110) (X' := cX109) (ciX1_init_6 hW) ql_X11_23 qi_X1_init qn_X1 qc_X1_init rfl ⟨by decide, by decide, rfl⟩ rfl ⟨Nat.le_of_ble_eq_true rfl, Nat.le_of_ble_eq_true rfl⟩ (by decide) (rest := [.ref (w.1 31), .int (4 : Int32), .ref (w.1 2)]) (Nat.le_of_ble_eq_true rfl) dX11_init_42 ⟨Nat.le_of_ble_eq_true rfl, Nat.le_of_ble_eq_true rfl⟩ rfl ?_
  refine ww_aast (pc := 45) hC (a := 2) (t := 31) (n := 6) 16 1 ⟨by decide +kernel, by decide +kernel, by decide +kernel⟩ (by decide) (by decide) rfl ⟨by decide +kernel, by decide +kernel⟩ (by decide) (Or.inl rfl) (by unfold vp_in; decide) (Z' := cZ111) rfl dX11_init_45 ?_
  refine ww_iinc (pc := 46) hC (5 : Int32) [(1, .int (5 : Int32)), (0, .ref (w.1 0))] dX11_init_46 0 rfl (by decide) (by decide) rfl ?_
  refine ww_goto (pc := 49) hC 24 dX11_init_49 (by decide) ?_
  refine ww_iload_n (pc := 24) hC dX11_init_24 0 rfl ?_
  refine ww_aload_n (pc := 25) hC dX11_init_25 1 rfl ?_
  refine ww_getR (pc := 26) hC (i := 0) 11 1 2 ⟨by decide +kernel, by decide +kernel⟩ RX11 (by decide) (by decide) rfl (by decide +kernel) qf_X11_19 rfl dX11_init_26 ?_
  refine ww_alen (pc := 29) hC (n := 6) (d := 16) (6 : Int32) ⟨by decide +kernel, by decide +kernel, by decide +kernel⟩ (by decide) (by decide) (by decide) dX11_init_29 ?_
  refine ww_icmp_ge (pc := 30) hC (x := (5 : Int32)) (y := (6 : Int32)) (d := Classical.propDecidable _) (α := Unit) (f1 := none) (f2 := some ()) (r := ()) (if_neg (by decide)) 52 dX11_init_30 (by decide) (fun q => by cases q) (fun q => ?_)
  refine ww_aload_n (pc := 33) hC dX11_init_33 1 rfl ?_
  refine ww_getR (pc := 34) hC (i := 0) 11 1 2 ⟨by decide +kernel, by decide +kernel⟩ RX11 (by decide) (by decide) rfl (by decide +kernel) qf_X11_19 rfl dX11_init_34 ?_
  refine ww_iload_n (pc := 37) hC dX11_init_37 0 rfl ?_
  refine ww_new (pc := 38) hC 1 (by decide) (ct0 hW _) (n := 38) (by decide +kernel) rfl (Z' := cZ112) rfl (X' := cX113) rfl qk_X11_17 qa_X1 qn_X1 dX11_init_38 (Nat.le_of_ble_eq_true rfl) (Nat.le_of_ble_eq_true rfl) ?_
  refine ww_dup (pc := 41) hC dX11_init_41 rfl ?_
  refine ww_callI (pc := 42) hC [] (mc := 6) (ms := 146) (Z' := cZ131) (X' := cX130) (ciX1_init_7 hW) ql_X11_23 qi_X1_init qn_X1 qc_X1_init rfl ⟨by decide, by decide, rfl⟩ rfl ⟨Nat.le_of_ble_eq_true rfl, Nat.le_of_ble_eq_true rfl⟩ (by decide) (rest := [.ref (w.1 38), .int (5 : Int32), .ref (w.1 2)]) (Nat.le_of_ble_eq_true rfl) dX11_init_42 ⟨Nat.le_of_ble_eq_true rfl, Nat.le_of_ble_eq_true rfl⟩ rfl ?_
  refine ww_aast (pc := 45) hC (a := 2) (t := 38) (n := 6) 16 1 ⟨by decide +kernel, by decide +kernel, by decide +kernel⟩ (by decide) (by decide) rfl ⟨by decide +kernel, by decide +kernel⟩ (by decide) (Or.inl rfl) (by unfold vp_in; decide) (Z' := cZ132) rfl dX11_init_45 ?_
  refine ww_iinc (pc := 46) hC (6 : Int32) [(1, .int (6 : Int32)), (0, .ref (w.1 0))] dX11_init_46 0 rfl (by decide) (by decide) rfl ?_
  refine ww_goto (pc := 49) hC 24 dX11_init_49 (by decide) ?_
  refine ww_iload_n (pc := 24) hC dX11_init_24 0 rfl ?_
  refine ww_aload_n (pc := 25) hC dX11_init_25 1 rfl ?_
  refine ww_getR (pc := 26) hC (i := 0) 11 1 2 ⟨by decide +kernel, by decide +kernel⟩ RX11 (by decide) (by decide) rfl (by decide +kernel) qf_X11_19 rfl dX11_init_26 ?_
  refine ww_alen (pc := 29) hC (n := 6) (d := 16) (6 : Int32) ⟨by decide +kernel, by decide +kernel, by decide +kernel⟩ (by decide) (by decide) (by decide) dX11_init_29 ?_
  refine ww_icmp_ge (pc := 30) hC (x := (6 : Int32)) (y := (6 : Int32)) (d := Classical.propDecidable _) (α := Unit) (f1 := some ()) (f2 := none) (r := ()) (if_pos (by decide)) 52 dX11_init_30 (by decide) (fun q => ?_) (fun q => by cases q)
  refine ww_aload_n (pc := 52) hC dX11_init_52 1 rfl ?_
  refine ww_new (pc := 53) hC 3 (by decide) (ct0 hW _) (n := 45) (by decide +kernel) rfl (Z' := cZ133) rfl (X' := cX134) rfl qk_X11_24 qa_X3 qn_X3 dX11_init_53 (Nat.le_of_ble_eq_true rfl) (Nat.le_of_ble_eq_true rfl) ?_
  refine ww_dup (pc := 56) hC dX11_init_56 rfl ?_
  refine ww_bipush (pc := 57) hC (v := (100 : Int32)) dX11_init_57 (by decide) ?_
  refine ww_callI (pc := 59) hC [.int (100 : Int32)] (mc := 1) (ms := 100) (Z' := cZ137) (X' := cX136) (ciX3_init_8 hW) ql_X11_26 qi_X3_init qn_X3 qc_X3_init rfl ⟨by decide, by decide, rfl⟩ rfl ⟨Nat.le_of_ble_eq_true rfl, Nat.le_of_ble_eq_true rfl⟩ (by decide) (rest := [.ref (w.1 45), .ref (w.1 0)]) (Nat.le_of_ble_eq_true rfl) dX11_init_59 ⟨Nat.le_of_ble_eq_true rfl, Nat.le_of_ble_eq_true rfl⟩ rfl ?_
  refine ww_putR (pc := 62) hC (i := 0) (t := 45) 11 3 ⟨by decide +kernel, by decide +kernel⟩ RX11 (by decide) (by decide) rfl qf_X11_29 rfl hin rfl rfl rfl rfl (Z' := cZ138) rfl dX11_init_62 ?_
  refine ww_aload_n (pc := 65) hC dX11_init_65 1 rfl ?_
  refine ww_new (pc := 66) hC 6 (by decide) (ct0 hW _) (n := 47) (by decide +kernel) rfl (Z' := cZ139) rfl (X' := cX140) rfl qk_X11_33 qa_X6 qn_X6 dX11_init_66 (Nat.le_of_ble_eq_true rfl) (Nat.le_of_ble_eq_true rfl) ?_
  refine ww_dup (pc := 69) hC dX11_init_69 rfl ?_
  refine ww_callI (pc := 70) hC [] (mc := 12) (ms := 84) (Z' := cZ178) (X' := cX176) (ciX6_init_9 hW) ql_X11_35 qi_X6_init qn_X6 qc_X6_init rfl ⟨by decide, by decide, rfl⟩ rfl ⟨Nat.le_of_ble_eq_true rfl, Nat.le_of_ble_eq_true rfl⟩ (by decide) (rest := [.ref (w.1 47), .ref (w.1 0)]) (Nat.le_of_ble_eq_true rfl) dX11_init_70 ⟨Nat.le_of_ble_eq_true rfl, Nat.le_of_ble_eq_true rfl⟩ rfl ?_
  refine ww_putR (pc := 73) hC (i := 0) (t := 47) 11 4 ⟨by decide +kernel, by decide +kernel⟩ RX11 (by decide) (by decide) rfl qf_X11_36 rfl hin rfl rfl rfl rfl (Z' := cZ179) rfl dX11_init_73 ?_
  refine ww_aload_n (pc := 76) hC dX11_init_76 1 rfl ?_
  refine ww_new (pc := 77) hC 6 (by decide) (ct0 hW _) (n := 60) (by decide +kernel) rfl (Z' := cZ180) rfl (X' := cX181) rfl qk_X11_33 qa_X6 qn_X6 dX11_init_77 (Nat.le_of_ble_eq_true rfl) (Nat.le_of_ble_eq_true rfl) ?_
  refine ww_dup (pc := 80) hC dX11_init_80 rfl ?_
  refine ww_callI (pc := 81) hC [] (mc := 12) (ms := 84) (Z' := cZ219) (X' := cX217) (ciX6_init_14 hW) ql_X11_35 qi_X6_init qn_X6 qc_X6_init rfl ⟨by decide, by decide, rfl⟩ rfl ⟨Nat.le_of_ble_eq_true rfl, Nat.le_of_ble_eq_true rfl⟩ (by decide) (rest := [.ref (w.1 60), .ref (w.1 0)]) (Nat.le_of_ble_eq_true rfl) dX11_init_81 ⟨Nat.le_of_ble_eq_true rfl, Nat.le_of_ble_eq_true rfl⟩ rfl ?_
  refine ww_putR (pc := 84) hC (i := 0) (t := 60) 11 5 ⟨by decide +kernel, by decide +kernel⟩ RX11 (by decide) (by decide) rfl qf_X11_40 rfl hin rfl rfl rfl rfl (Z' := cZ220) rfl dX11_init_84 ?_
  refine ww_aload_n (pc := 87) hC dX11_init_87 1 rfl ?_
  refine ww_iconst (pc := 88) hC (v := (5 : Int32)) dX11_init_88 (by decide) ?_
  refine ww_anew (pc := 89) hC 18 (by decide) (by decide) rfl hC.2.2.2.2.2.2.2.2.2.2.2.2.2.2.2.1 (ct0 hW _) (n := 73) (by decide +kernel) (by decide) (N := 5) (by decide) (Z' := cZ221) rfl (X' := cX222) rfl (by decide) qk_X11_33 dX11_init_89 (Nat.le_of_ble_eq_true rfl) (Nat.le_of_ble_eq_true rfl) ?_
  refine ww_putR (pc := 92) hC (i := 0) (t := 73) 11 7 ⟨by decide +kernel, by decide +kernel⟩ RX11 (by decide) (by decide) rfl qf_X11_43 rfl hin rfl rfl rfl rfl (Z' := cZ223) rfl dX11_init_92 ?_
  refine ww_iconst (pc := 95) hC (v := (0 : Int32)) dX11_init_95 (by decide) ?_
  refine ww_istore_n (pc := 96) hC [(1, .int (0 : Int32)), (0, .ref (w.1 0))] dX11_init_96 rfl (by decide) rfl ?_
  refine ww_iload_n (pc := 97) hC dX11_init_97 0 rfl ?_
  refine ww_aload_n (pc := 98) hC dX11_init_98 1 rfl ?_
  refine ww_getR (pc := 99) hC (i := 0) 11 7 73 ⟨by decide +kernel, by decide +kernel⟩ RX11 (by decide) (by decide) rfl (by decide +kernel) qf_X11_43 rfl dX11_init_99 ?_
  refine ww_alen (pc := 102) hC (n := 5) (d := 18) (5 : Int32) ⟨by decide +kernel, by decide +kernel, by decide +kernel⟩ (by decide) (by decide) (by decide) dX11_init_102 ?_
  refine ww_icmp_ge (pc := 103) hC (x := (0 : Int32)) (y := (5 : Int32)) (d := Classical.propDecidable _) (α := Unit) (f1 := none) (f2 := some ()) (r := ()) (if_neg (by decide)) 125 dX11_init_103 (by decide) (fun q => by cases q) (fun q => ?_)
  refine ww_aload_n (pc := 106) hC dX11_init_106 1 rfl ?_
  refine ww_getR (pc := 107) hC (i := 0) 11 7 73 ⟨by decide +kernel, by decide +kernel⟩ RX11 (by decide) (by decide) rfl (by decide +kernel) qf_X11_43 rfl dX11_init_107 ?_
  refine ww_iload_n (pc := 110) hC dX11_init_110 0 rfl ?_
  refine ww_new (pc := 111) hC 6 (by decide) (ct0 hW _) (n := 74) (by decide +kernel) rfl (Z' := cZ224) rfl (X' := cX225) rfl qk_X11_33 qa_X6 qn_X6 dX11_init_111 (Nat.le_of_ble_eq_true rfl) (Nat.le_of_ble_eq_true rfl) ?_
  refine ww_dup (pc := 114) hC dX11_init_114 rfl ?_
  refine ww_callI (pc := 115) hC [] (mc := 12) (ms := 84) (Z' := cZ263) (X' := cX261) (ciX6_init_19 hW) ql_X11_35 qi_X6_init qn_X6 qc_X6_init rfl ⟨by decide, by decide, rfl⟩ rfl ⟨Nat.le_of_ble_eq_true rfl, Nat.le_of_ble_eq_true rfl⟩ (by decide) (rest := [.ref (w.1 74), .int (0 : Int32), .ref (w.1 73)]) (Nat.le_of_ble_eq_true rfl) dX11_init_115 ⟨Nat.le_of_ble_eq_true rfl, Nat.le_of_ble_eq_true rfl⟩ rfl ?_
  refine ww_aast (pc := 118) hC (a := 73) (t := 74) (n := 5) 18 6 ⟨by decide +kernel, by decide +kernel, by decide +kernel⟩ (by decide) (by decide) rfl ⟨by decide +kernel, by decide +kernel⟩ (by decide) (Or.inl rfl) (by unfold vp_in; decide) (Z' := cZ264) rfl dX11_init_118 ?_
  refine ww_iinc (pc := 119) hC (1 : Int32) [(1, .int (1 : Int32)), (0, .ref (w.1 0))] dX11_init_119 0 rfl (by decide) (by decide) rfl ?_
  refine ww_goto (pc := 122) hC 97 dX11_init_122 (by decide) ?_
  refine ww_iload_n (pc := 97) hC dX11_init_97 0 rfl ?_
  refine ww_aload_n (pc := 98) hC dX11_init_98 1 rfl ?_
  refine ww_getR (pc := 99) hC (i := 0) 11 7 73 ⟨by decide +kernel, by decide +kernel⟩ RX11 (by decide) (by decide) rfl (by decide +kernel) qf_X11_43 rfl dX11_init_99 ?_
  refine ww_alen (pc := 102) hC (n := 5) (d := 18) (5 : Int32) ⟨by decide +kernel, by decide +kernel, by decide +kernel⟩ (by decide) (by decide) (by decide) dX11_init_102 ?_
  refine ww_icmp_ge (pc := 103) hC (x := (1 : Int32)) (y := (5 : Int32)) (d := Classical.propDecidable _) (α := Unit) (f1 := none) (f2 := some ()) (r := ()) (if_neg (by decide)) 125 dX11_init_103 (by decide) (fun q => by cases q) (fun q => ?_)
  refine ww_aload_n (pc := 106) hC dX11_init_106 1 rfl ?_
  refine ww_getR (pc := 107) hC (i := 0) 11 7 73 ⟨by decide +kernel, by decide +kernel⟩ RX11 (by decide) (by decide) rfl (by decide +kernel) qf_X11_43 rfl dX11_init_107 ?_
  refine ww_iload_n (pc := 110) hC dX11_init_110 0 rfl ?_
  refine ww_new (pc := 111) hC 6 (by decide) (ct0 hW _) (n := 87) (by decide +kernel) rfl (Z' := cZ265) rfl (X' := cX266) rfl qk_X11_33 qa_X6 qn_X6 dX11_init_111 (Nat.le_of_ble_eq_true rfl) (Nat.le_of_ble_eq_true rfl) ?_
  refine ww_dup (pc := 114) hC dX11_init_114 rfl ?_
  refine ww_callI (pc := 115) hC [] (mc := 12) (ms := 84) (Z' := cZ304) (X' := cX302) (ciX6_init_24 hW) ql_X11_35 qi_X6_init qn_X6 qc_X6_init rfl ⟨by decide, by decide, rfl⟩ rfl ⟨Nat.le_of_ble_eq_true rfl, Nat.le_of_ble_eq_true rfl⟩ (by decide) (rest := [.ref (w.1 87), .int (1 : Int32), .ref (w.1 73)]) (Nat.le_of_ble_eq_true rfl) dX11_init_115 ⟨Nat.le_of_ble_eq_true rfl, Nat.le_of_ble_eq_true rfl⟩ rfl ?_
  refine ww_aast (pc := 118) hC (a := 73) (t := 87) (n := 5) 18 6 ⟨by decide +kernel, by decide +kernel, by decide +kernel⟩ (by decide) (by decide) rfl ⟨by decide +kernel, by decide +kernel⟩ (by decide) (Or.inl rfl) (by unfold vp_in; decide) (Z' := cZ305) rfl dX11_init_118 ?_
  refine ww_iinc (pc := 119) hC (2 : Int32) [(1, .int (2 : Int32)), (0, .ref (w.1 0))] dX11_init_119 0 rfl (by decide) (by decide) rfl ?_
  refine ww_goto (pc := 122) hC 97 dX11_init_122 (by decide) ?_
  refine ww_iload_n (pc := 97) hC dX11_init_97 0 rfl ?_
  refine ww_aload_n (pc := 98) hC dX11_init_98 1 rfl ?_
  refine ww_getR (pc := 99) hC (i := 0) 11 7 73 ⟨by decide +kernel, by decide +kernel⟩ RX11 (by decide) (by decide) rfl (by decide +kernel) qf_X11_43 rfl dX11_init_99 ?_
  refine ww_alen (pc := 102) hC (n := 5) (d := 18) (5 : Int32) ⟨by decide +kernel, by decide +kernel, by decide +kernel⟩ (by decide) (by decide) (by decide) dX11_init_102 ?_
  refine ww_icmp_ge (pc := 103) hC (x := (2 : Int32)) (y := (5 : Int32)) (d := Classical.propDecidable _) (α := Unit) (f1 := none) (f2 := some ()) (r := ()) (if_neg (by decide)) 125 dX11_init_103 (by decide) (fun q => by cases q) (fun q => ?_)
  refine ww_aload_n (pc := 106) hC dX11_init_106 1 rfl ?_
  refine ww_getR (pc := 107) hC (i := 0) 11 7 73 ⟨by decide +kernel, by decide +kernel⟩ RX11 (by decide) (by decide) rfl (by decide +kernel) qf_X11_43 rfl dX11_init_107 ?_
  refine ww_iload_n (pc := 110) hC dX11_init_110 0 rfl ?_
  refine ww_new (pc := 111) hC 6 (by decide) (ct0 hW _) (n := 100) (by decide +kernel) rfl (Z' := cZ306) rfl (X' := cX307) rfl qk_X11_33 qa_X6 qn_X6 dX11_init_111 (Nat.le_of_ble_eq_true rfl) (Nat.le_of_ble_eq_true rfl) ?_
  refine ww_dup (pc := 114) hC dX11_init_114 rfl ?_
  refine ww_callI (pc := 115) hC [] (mc := 12) (ms := 84) (Z' := cZ345) (X' := cX343) (ciX6_init_29 hW) ql_X11_35 qi_X6_init qn_X6 qc_X6_init rfl ⟨by decide, by decide, rfl⟩ rfl ⟨Nat.le_of_ble_eq_true rfl, Nat.le_of_ble_eq_true rfl⟩ (by decide) (rest := [.ref (w.1 100), .int (2 : Int32), .ref (w.1 73)]) (Nat.le_of_ble_eq_true rfl) dX11_init_115 ⟨Nat.le_of_ble_eq_true rfl, Nat.le_of_ble_eq_true rfl⟩ rfl ?_
  refine ww_aast (pc := 118) hC (a := 73) (t := 100) (n := 5) 18 6 ⟨by decide +kernel, by decide +kernel, by decide +kernel⟩ (by decide) (by decide) rfl ⟨by decide +kernel, by decide +kernel⟩ (by decide) (Or.inl rfl) (by unfold vp_in; decide) (Z' := cZ346) rfl dX11_init_118 ?_
  refine ww_iinc (pc := 119) hC (3 : Int32) [(1, .int (3 : Int32)), (0, .ref (w.1 0))] dX11_init_119 0 rfl (by decide) (by decide) rfl ?_
  refine ww_goto (pc := 122) hC 97 dX11_init_122 (by decide) ?_
  refine ww_iload_n (pc := 97) hC dX11_init_97 0 rfl ?_
  refine ww_aload_n (pc := 98) hC dX11_init_98 1 rfl ?_
  refine ww_getR (pc := 99) hC (i := 0) 11 7 73 ⟨by decide +kernel, by decide +kernel⟩ RX11 (by decide) (by decide) rfl (by decide +kernel) qf_X11_43 rfl dX11_init_99 ?_
  refine ww_alen (pc := 102) hC (n := 5) (d := 18) (5 : Int32) ⟨by decide +kernel, by decide +kernel, by decide +kernel⟩ (by decide) (by decide) (by decide) dX11_init_102 ?_
  refine ww_icmp_ge (pc := 103) hC (x := (3 : Int32)) (y := (5 : Int32)) (d := Classical.propDecidable _) (α := Unit) (f1 := none) (f2 := some ()) (r := ()) (if_neg (by decide)) 125 dX11_init_103 (by decide) (fun q => by cases q) (fun q => ?_)
  refine ww_aload_n (pc := 106) hC dX11_init_106 1 rfl ?_
  refine ww_getR (pc := 107) hC (i := 0) 11 7 73 ⟨by decide +kernel, by decide +kernel⟩ RX11 (by decide) (by decide) rfl (by decide +kernel) qf_X11_43 rfl dX11_init_107 ?_
  refine ww_iload_n (pc := 110) hC dX11_init_110 0 rfl ?_
  refine ww_new (pc := 111) hC 6 (by decide) (ct0 hW _) (n := 113) (by decide +kernel) rfl (Z' := cZ347) rfl (X' := cX348) rfl qk_X11_33 qa_X6 qn_X6 dX11_init_111 (Nat.le_of_ble_eq_true rfl) (Nat.le_of_ble_eq_true rfl) ?_
  refine ww_dup (pc := 114) hC dX11_init_114 rfl ?_
  refine ww_callI (pc := 115) hC [] (mc := 12) (ms := 84) (Z' := cZ386) (X' := cX384) (ciX6_init_34 hW) ql_X11_35 qi_X6_init qn_X6 qc_X6_init rfl ⟨by decide, by decide, rfl⟩ rfl ⟨Nat.le_of_ble_eq_true rfl, Nat.le_of_ble_eq_true rfl⟩ (by decide) (rest := [.ref (w.1 113), .int (3 : Int32), .ref (w.1 73)]) (Nat.le_of_ble_eq_true rfl) dX11_init_115 ⟨Nat.le_of_ble_eq_true rfl, Nat.le_of_ble_eq_true rfl⟩ rfl ?_
  refine ww_aast (pc := 118) hC (a := 73) (t := 113) (n := 5) 18 6 ⟨by decide +kernel, by decide +kernel, by decide +kernel⟩ (by decide) (by decide) rfl ⟨by decide +kernel, by decide +kernel⟩ (by decide) (Or.inl rfl) (by unfold vp_in; decide) (Z' := cZ387) rfl dX11_init_118 ?_
  refine ww_iinc (pc := 119) hC (4 : Int32) [(1, .int (4 : Int32)), (0, .ref (w.1 0))] dX11_init_119 0 rfl (by decide) (by decide) rfl ?_
  refine ww_goto (pc := 122) hC 97 dX11_init_122 (by decide) ?_
  refine ww_iload_n (pc := 97) hC dX11_init_97 0 rfl ?_
  refine ww_aload_n (pc := 98) hC dX11_init_98 1 rfl ?_
  refine ww_getR (pc := 99) hC (i := 0) 11 7 73 ⟨by decide +kernel, by decide +kernel⟩ RX11 (by decide) (by decide) rfl (by decide +kernel) qf_X11_43 rfl dX11_init_99 ?_
  refine ww_alen (pc := 102) hC (n := 5) (d := 18) (5 : Int32) ⟨by decide +kernel, by decide +kernel, by decide +kernel⟩ (by decide) (by decide) (by decide) dX11_init_102 ?_
  refine ww_icmp_ge (pc := 103) hC (x := (4 : Int32)) (y := (5 : Int32)) (d := Classical.propDecidable _) (α := Unit) (f1 := none) (f2 := some ()) (r := ()) (if_neg (by decide)) 125 dX11_init_103 (by decide) (fun q => by cases q) (fun q => ?_)
  refine ww_aload_n (pc := 106) hC dX11_init_106 1 rfl ?_
  refine ww_getR (pc := 107) hC (i := 0) 11 7 73 ⟨by decide +kernel, by decide +kernel⟩ RX11 (by decide) (by decide) rfl (by decide +kernel) qf_X11_43 rfl dX11_init_107 ?_
  refine ww_iload_n (pc := 110) hC dX11_init_110 0 rfl ?_
  refine ww_new (pc := 111) hC 6 (by decide) (ct0 hW _) (n := 126) (by decide +kernel) rfl (Z' := cZ388) rfl (X' := cX389) rfl qk_X11_33 qa_X6 qn_X6 dX11_init_111 (Nat.le_of_ble_eq_true rfl) (Nat.le_of_ble_eq_true rfl) ?_
  refine ww_dup (pc := 114) hC dX11_init_114 rfl ?_
  refine ww_callI (pc := 115) hC [] (mc := 12) (ms := 84) (Z' := cZ427) (X' := cX425) (ciX6_init_39 hW) ql_X11_35 qi_X6_init qn_X6 qc_X6_init rfl ⟨by decide, by decide, rfl⟩ rfl ⟨Nat.le_of_ble_eq_true rfl, Nat.le_of_ble_eq_true rfl⟩ (by decide) (rest := [.ref (w.1 126), .int (4 : Int32), .ref (w.1 73)]) (Nat.le_of_ble_eq_true rfl) dX11_init_115 ⟨Nat.le_of_ble_eq_true rfl, Nat.le_of_ble_eq_true rfl⟩ rfl ?_
  refine ww_aast (pc := 118) hC (a := 73) (t := 126) (n := 5) 18 6 ⟨by decide +kernel, by decide +kernel, by decide +kernel⟩ (by decide) (by decide) rfl ⟨by decide +kernel, by decide +kernel⟩ (by decide) (Or.inl rfl) (by unfold vp_in; decide) (Z' := cZ428) rfl dX11_init_118 ?_
  refine ww_iinc (pc := 119) hC (5 : Int32) [(1, .int (5 : Int32)), (0, .ref (w.1 0))] dX11_init_119 0 rfl (by decide) (by decide) rfl ?_
  refine ww_goto (pc := 122) hC 97 dX11_init_122 (by decide) ?_
  refine ww_iload_n (pc := 97) hC dX11_init_97 0 rfl ?_
  refine ww_aload_n (pc := 98) hC dX11_init_98 1 rfl ?_
  refine ww_getR (pc := 99) hC (i := 0) 11 7 73 ⟨by decide +kernel, by decide +kernel⟩ RX11 (by decide) (by decide) rfl (by decide +kernel) qf_X11_43 rfl dX11_init_99 ?_
  refine ww_alen (pc := 102) hC (n := 5) (d := 18) (5 : Int32) ⟨by decide +kernel, by decide +kernel, by decide +kernel⟩ (by decide) (by decide) (by decide) dX11_init_102 ?_
  refine ww_icmp_ge (pc := 103) hC (x := (5 : Int32)) (y := (5 : Int32)) (d := Classical.propDecidable _) (α := Unit) (f1 := some ()) (f2 := none) (r := ()) (if_pos (by decide)) 125 dX11_init_103 (by decide) (fun q => ?_) (fun q => by cases q)
  refine ww_aload_n (pc := 125) hC dX11_init_125 1 rfl ?_
  refine ww_new (pc := 126) hC 9 (by decide) (ct0 hW _) (n := 139) (by decide +kernel) rfl (Z' := cZ429) rfl (X' := cX430) rfl qk_X11_47 qa_X9 qn_X9 dX11_init_126 (Nat.le_of_ble_eq_true rfl) (Nat.le_of_ble_eq_true rfl) ?_
  refine ww_dup (pc := 129) hC dX11_init_129 rfl ?_
  refine ww_callI (pc := 130) hC [] (mc := 2) (ms := 6) (Z' := cZ436) (X' := cX435) (ciX9_init_44 hW) ql_X11_49 qi_X9_init qn_X9 qc_X9_init rfl ⟨by decide, by decide, rfl⟩ rfl ⟨Nat.le_of_ble_eq_true rfl, Nat.le_of_ble_eq_true rfl⟩ (by decide) (rest := [.ref (w.1 139), .ref (w.1 0)]) (Nat.le_of_ble_eq_true rfl) dX11_init_130 ⟨Nat.le_of_ble_eq_true rfl, Nat.le_of_ble_eq_true rfl⟩ rfl ?_
  refine ww_putR (pc := 133) hC (i := 0) (t := 139) 11 8 ⟨by decide +kernel, by decide +kernel⟩ RX11 (by decide) (by decide) rfl qf_X11_50 rfl hin rfl rfl rfl rfl (Z' := cZ437) rfl dX11_init_133 ?_
  refine ww_aload_n (pc := 136) hC dX11_init_136 1 rfl ?_
  refine ww_new (pc := 137) hC 3 (by decide) (ct0 hW _) (n := 142) (by decide +kernel) rfl (Z' := cZ438) rfl (X' := cX439) rfl qk_X11_24 qa_X3 qn_X3 dX11_init_137 (Nat.le_of_ble_eq_true rfl) (Nat.le_of_ble_eq_true rfl) ?_
  refine ww_dup (pc := 140) hC dX11_init_140 rfl ?_
  refine ww_bipush (pc := 141) hC (v := (20 : Int32)) dX11_init_141 (by decide) ?_
  refine ww_callI (pc := 143) hC [.int (20 : Int32)] (mc := 1) (ms := 20) (Z' := cZ442) (X' := cX441) (ciX3_init_45 hW) ql_X11_26 qi_X3_init qn_X3 qc_X3_init rfl ⟨by decide, by decide, rfl⟩ rfl ⟨Nat.le_of_ble_eq_true rfl, Nat.le_of_ble_eq_true rfl⟩ (by decide) (rest := [.ref (w.1 142), .ref (w.1 0)]) (Nat.le_of_ble_eq_true rfl) dX11_init_143 ⟨Nat.le_of_ble_eq_true rfl, Nat.le_of_ble_eq_true rfl⟩ rfl ?_
  refine ww_putR (pc := 146) hC (i := 0) (t := 142) 11 9 ⟨by decide +kernel, by decide +kernel⟩ RX11 (by decide) (by decide) rfl qf_X11_54 rfl hin rfl rfl rfl rfl (Z' := cZ443) rfl dX11_init_146 ?_
  refine ww_aload_n (pc := 149) hC dX11_init_149 1 rfl ?_
  refine ww_bipush (pc := 150) hC (v := (6 : Int32)) dX11_init_150 (by decide) ?_
  refine ww_bipush (pc := 152) hC (v := (60 : Int32)) dX11_init_152 (by decide) ?_
  refine ww_mna (pc := 154) hC (ct0 hW _) (n := 144) (by decide +kernel) (by decide) (by decide) (N := 6) (K := 60) (by decide) (by decide) (by decide) (Z' := cZ444) rfl (X' := cX445) rfl qk_X11_57 qy_FieldType_long dX11_init_154 (Nat.le_of_ble_eq_true rfl) (Nat.le_of_ble_eq_true rfl) ?_
  refine ww_putR (pc := 158) hC (i := 0) (t := 144) 11 10 ⟨by decide +kernel, by decide +kernel⟩ RX11 (by decide) (by decide) rfl qf_X11_59 rfl hin rfl rfl rfl rfl (Z' := cZ446) rfl dX11_init_158 ?_
  refine ww_aload_n (pc := 161) hC dX11_init_161 1 rfl ?_
  refine ww_bipush (pc := 162) hC (v := (6 : Int32)) dX11_init_162 (by decide) ?_
  refine ww_newa (pc := 164) hC 13 (by decide) (by decide) rfl (ct0 hW _) (n := 151) (by decide +kernel) (by decide) (N := 6) (by decide) (Z' := cZ447) rfl (X' := cX448) rfl (by decide) qy_FieldType_int dX11_init_164 (Nat.le_of_ble_eq_true rfl) (Nat.le_of_ble_eq_true rfl) ?_
  refine ww_putR (pc := 166) hC (i := 0) (t := 151) 11 11 ⟨by decide +kernel, by decide +kernel⟩ RX11 (by decide) (by decide) rfl qf_X11_62 rfl hin rfl rfl rfl rfl (Z' := cZ449) rfl dX11_init_166 ?_
  refine ww_aload_n (pc := 169) hC dX11_init_169 1 rfl ?_
  refine ww_getR (pc := 170) hC (i := 0) 11 11 151 ⟨by decide +kernel, by decide +kernel⟩ RX11 (by decide) (by decide) rfl (by decide +kernel) qf_X11_62 rfl dX11_init_170 ?_
  refine ww_iconst (pc := 173) hC (v := (-1 : Int32)) dX11_init_173 (by decide) ?_
  refine ww_callSv (pc := 174) hC [.ref (w.1 151), .int (-1 : Int32)] (X' := cX450) (ceJ7_fill_53178 (show KA cZ449 151 13 (sL cZ449 151) from ⟨by decide +kernel, by decide +kernel, rfl⟩) (fill_eq (n := 6) (by decide) (show sL cZ449 151 = 6 by decide +kernel))) ql_X11_66 qt_J7_fill_53178 qn_J7 qc_J7_fill_53178 ⟨by decide, by decide, rfl⟩ rfl ⟨Nat.le_of_ble_eq_true rfl, Nat.le_of_ble_eq_true rfl⟩ (by decide) (rest := []) (Nat.le_of_ble_eq_true rfl) dX11_init_174 ⟨Nat.le_of_ble_eq_true rfl, Nat.le_of_ble_eq_true rfl⟩ rfl ?_
  refine ww_aload_n (pc := 177) hC dX11_init_177 1 rfl ?_
  refine ww_bipush (pc := 178) hC (v := (6 : Int32)) dX11_init_178 (by decide) ?_
  refine ww_newa (pc := 180) hC 13 (by decide) (by decide) rfl (ct0 hW _) (n := 152) (by decide +kernel) (by decide) (N := 6) (by decide) (Z' := cZ451) rfl (X' := cX452) rfl (by decide) qy_FieldType_int dX11_init_180 (Nat.le_of_ble_eq_true rfl) (Nat.le_of_ble_eq_true rfl) ?_
  refine ww_putR (pc := 182) hC (i := 0) (t := 152) 11 12 ⟨by decide +kernel, by decide +kernel⟩ RX11 (by decide) (by decide) rfl qf_X11_72 rfl hin rfl rfl rfl rfl (Z' := cZ453) rfl dX11_init_182 ?_
  refine ww_aload_n (pc := 185) hC dX11_init_185 1 rfl ?_
  refine ww_iconst (pc := 186) hC (v := (5 : Int32)) dX11_init_186 (by decide) ?_
  refine ww_newa (pc := 187) hC 14 (by decide) (by decide) rfl (ct0 hW _) (n := 153) (by decide +kernel) (by decide) (N := 5) (by decide) (Z' := cZ454) rfl (X' := cX455) rfl (by decide) qy_FieldType_long dX11_init_187 (Nat.le_of_ble_eq_true rfl) (Nat.le_of_ble_eq_true rfl) ?_
  refine ww_putR (pc := 189) hC (i := 0) (t := 153) 11 13 ⟨by decide +kernel, by decide +kernel⟩ RX11 (by decide) (by decide) rfl qf_X11_75 rfl hin rfl rfl rfl rfl (Z' := cZ456) rfl dX11_init_189 ?_
  refine ww_aload_n (pc := 192) hC dX11_init_192 1 rfl ?_
  refine ww_iconst (pc := 193) hC (v := (5 : Int32)) dX11_init_193 (by decide) ?_
  refine ww_newa (pc := 194) hC 14 (by decide) (by decide) rfl (ct0 hW _) (n := 154) (by decide +kernel) (by decide) (N := 5) (by decide) (Z' := cZ457) rfl (X' := cX458) rfl (by decide) qy_FieldType_long dX11_init_194 (Nat.le_of_ble_eq_true rfl) (Nat.le_of_ble_eq_true rfl) ?_
  refine ww_putR (pc := 196) hC (i := 0) (t := 154) 11 14 ⟨by decide +kernel, by decide +kernel⟩ RX11 (by decide) (by decide) rfl qf_X11_79 rfl hin rfl rfl rfl rfl (Z' := cZ459) rfl dX11_init_196 ?_
  refine ww_aload_n (pc := 199) hC dX11_init_199 1 rfl ?_
  refine ww_iconst (pc := 200) hC (v := (4 : Int32)) dX11_init_200 (by decide) ?_
  refine ww_newa (pc := 201) hC 13 (by decide) (by decide) rfl (ct0 hW _) (n := 155) (by decide +kernel) (by decide) (N := 4) (by decide) (Z' := cZ460) rfl (X' := cX461) rfl (by decide) qy_FieldType_int dX11_init_201 (Nat.le_of_ble_eq_true rfl) (Nat.le_of_ble_eq_true rfl) ?_
  refine ww_putR (pc := 203) hC (i := 0) (t := 155) 11 15 ⟨by decide +kernel, by decide +kernel⟩ RX11 (by decide) (by decide) rfl qf_X11_82 rfl hin rfl rfl rfl rfl (Z' := cZ462) rfl dX11_init_203 ?_
  refine ww_aload_n (pc := 206) hC dX11_init_206 1 rfl ?_
  refine ww_iconst (pc := 207) hC (v := (4 : Int32)) dX11_init_207 (by decide) ?_
  refine ww_newa (pc := 208) hC 13 (by decide) (by decide) rfl (ct0 hW _) (n := 156) (by decide +kernel) (by decide) (N := 4) (by decide) (Z' := cZ463) rfl (X' := cX464) rfl (by decide) qy_FieldType_int dX11_init_208 (Nat.le_of_ble_eq_true rfl) (Nat.le_of_ble_eq_true rfl) ?_
  refine ww_putR (pc := 210) hC (i := 0) (t := 156) 11 16 ⟨by decide +kernel, by decide +kernel⟩ RX11 (by decide) (by decide) rfl qf_X11_85 rfl hin rfl rfl rfl rfl (Z' := cZ465) rfl dX11_init_210 ?_
  exact ww_vret (pc := 213) hC hr (u := ()) (r := ()) rfl dX11_init_213
abbrev cZE : XS := cZ465
abbrev cXE : XD := cX464
theorem rcC : RC cZE := rc_cZ465
