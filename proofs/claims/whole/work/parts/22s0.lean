section XS
variable {p : Program} {l : Launch} {e : Env} {R : Room} {s : State} {m : MethodId} {args : Array Value} {below : List Frame} {meth : Method} {c : Code} {nL : Nat} {Q : State → Prop} {E : XE} {w : XW} {cells slots z : Nat} {Z : XS} {pc : Nat} {lv : List (Nat × Value)} {rest : List Value} {X : XD} {cc : ByteArray} {own : String}
theorem ww_strV (h : CX p s m args meth c E cc nL own) {k idx : Nat} (hk : k < 7) (hw : Cond.fieldLink own idx "java/lang/String" "value" "[B" ∈ xtb) (hd : decode cc pc = .ok (.getfield idx, 3)) (kk : WW p l e R s m args below meth c nL Q E w cells slots z Z (pc + 3) lv (.ref (E.2.2.2.2 k) :: rest) X) : WW p l e R s m args below meth c nL Q E w cells slots z Z pc lv (.ref (E.2.2.2.1 k) :: rest) X := fun H locs ls hP hS hl =>
  vk_getf h.1 h.2.1 (o := "java/lang/String") (n := "value") (d := "[B") (ref := "java/lang/String") (h.2.2.2.2.2.2.2.2.1.1 k hk).2.2.1 hS h.2.2.2.1 (h.2.2.2.2.1 _ hw) (fun _ q => q) hd (kk H locs ls hP hS hl)
theorem ww_strC (h : CX p s m args meth c E cc nL own) {k idx : Nat} (hk : k < 7) (hw : Cond.fieldLink own idx "java/lang/String" "coder" "B" ∈ xtb) (hd : decode cc pc = .ok (.getfield idx, 3)) (kk : WW p l e R s m args below meth c nL Q E w cells slots z Z (pc + 3) lv (.int 0 :: rest) X) : WW p l e R s m args below meth c nL Q E w cells slots z Z pc lv (.ref (E.2.2.2.1 k) :: rest) X := fun H locs ls hP hS hl =>
  vk_getf h.1 h.2.1 (o := "java/lang/String") (n := "coder") (d := "B") (ref := "java/lang/String") (h.2.2.2.2.2.2.2.2.1.1 k hk).2.1 hS h.2.2.2.1 (h.2.2.2.2.1 _ hw) (fun _ q => q) hd (kk H locs ls hP hS hl)
theorem ww_gsC (h : CX p s m args meth c E cc nL own) {idx : Nat} (hw : Cond.fieldLink own idx "java/lang/String" "COMPACT_STRINGS" "Z" ∈ xtb) (hd : decode cc pc = .ok (.getstatic idx, 3)) (kk : WW p l e R s m args below meth c nL Q E w cells slots z Z (pc + 3) lv (.int 1 :: rest) X) : WW p l e R s m args below meth c nL Q E w cells slots z Z pc lv rest X := fun H locs ls hP hS hl =>
  va_gets h.1 h.2.1 (ref := "java/lang/String") h.2.2.2.2.2.2.2.2.2.1 hS h.2.2.2.1 (h.2.2.2.2.1 _ hw) (fun _ q => q) hd (kk H locs ls hP hS hl)
theorem ww_gsF (h : CX p s m args meth c E cc nL own) {idx : Nat} (hw : Cond.fieldLink own idx "jdk/internal/util/Preconditions" "SIOOBE_FORMATTER" "Ljava/util/function/BiFunction;" ∈ xtb) (hd : decode cc pc = .ok (.getstatic idx, 3)) (kn : WW p l e R s m args below meth c nL Q E w cells slots z Z (pc + 3) lv (.null :: rest) X) (kr : ∀ t : Nat, WW p l e R s m args below meth c nL Q E w cells slots z Z (pc + 3) lv (.ref t :: rest) X) : WW p l e R s m args below meth c nL Q E w cells slots z Z pc lv rest X := by
  intro H locs ls hP hS hl
  rcases h.2.2.2.2.2.2.2.2.2.2.2.1 with q | ⟨t, q⟩
  · exact va_gets h.1 h.2.1 (ref := "jdk/internal/util/Preconditions") q hS h.2.2.2.1 (h.2.2.2.2.1 _ hw) (fun _ q => q) hd (kn H locs ls hP hS hl)
  · exact va_gets h.1 h.2.1 (ref := "jdk/internal/util/Preconditions") q hS h.2.2.2.1 (h.2.2.2.2.1 _ hw) (fun _ q => q) hd (kr t H locs ls hP hS hl)
theorem ww_blen (h : CX p s m args meth c E cc nL own) {k : Nat} (hk : k < 7) (hd : decode cc pc = .ok (.arraylength, 1)) (kk : WW p l e R s m args below meth c nL Q E w cells slots z Z (pc + 1) lv (.int (Int32.ofNat (xLen.getD k 0)) :: rest) X) : WW p l e R s m args below meth c nL Q E w cells slots z Z pc lv (.ref (E.2.2.2.2 k) :: rest) X := fun H locs ls hP hS hl =>
  va_tlen h.1 h.2.1 (h.2.2.2.2.2.2.2.2.1.1 k hk).2.2.2 hS rfl hd (kk H locs ls hP hS hl)
theorem ww_bald (h : CX p s m args meth c E cc nL own) {k : Nat} {j : Int32} (hk : k < 7) {α : Type} {f : Option α} {r : α} (hf : gin j (xLen.getD k 0) f = some r) (hd : decode cc pc = .ok (.baload, 1)) (kk : f = some r → WW p l e R s m args below meth c nL Q E w cells slots z Z (pc + 1) lv (.int ((xByt.getD k []).getD j.toNatClampNeg 0) :: rest) X) : WW p l e R s m args below meth c nL Q E w cells slots z Z pc lv (.int j :: .ref (E.2.2.2.2 k) :: rest) X := fun H locs ls hP hS hl =>
  va_tb h.1 h.2.1 (h.2.2.2.2.2.2.2.2.1.1 k hk).2.2.2 hS (gin_i hf).1 rfl hd (kk (gin_i hf).2 H locs ls hP hS hl)
theorem ww_callVsi {st : List Value} {v : Int32} {k ml idx n sid : Nat} {y : MethodName} {b : ByteArray} {ret : Option FieldType} {X' : XD} (h : CX p s m args meth c E cc nL own) (As : List Value) (hk : sid < 7) (hM : Ct l E w y (wsM y b ml ret) (rmX k 0 0) 0 0 (.ref (E.2.2.2.1 sid) :: As) z z Z Z X X' (some (.int v))) (w1 : Cond.methodLink own idx y ∈ xtb) (w2 : Cond.instanceMethod y ∈ xtb) (w3 : Cond.selects "java/lang/String" y y ∈ xtb) (w4 : Cond.initialized "java/lang/String" ∈ xtb) (w5 : Cond.code y b ml ret ∈ xtb) (hy : y.cls = "java/lang/String") (hdd : y.cls ≠ "java/lang/invoke/MethodHandle" ∧ y.cls ≠ "java/lang/invoke/VarHandle" ∧ (parseMethodDescriptor y.desc).map (fun d => d.parameters.length) = some n) (hn : As.length = n) (hR : k + 1 ≤ R.frames ∧ 60 * (k + 1) ≤ R.locals) (hml : ml ≤ 41) (hst : (rest.map fun v => v.category).sum ≤ 8) (hd : decode cc pc = .ok (.invokevirtual idx, 3)) (hf : cells ≤ R.cells ∧ slots ≤ R.slots) (hs : st = As.reverse ++ .ref (E.2.2.2.1 sid) :: rest)
    (kk : WW p l e R s m args below meth c nL Q E w cells slots z Z (pc + 3) lv (.int v :: rest) X') : WW p l e R s m args below meth c nL Q E w cells slots z Z pc lv st X := by
  subst hs
  refine ww_run (mc := 0) (ms := 0) (rv := some (.int v)) (a := (Value.ref (E.2.2.2.1 sid) :: As).toArray) (fun H locs ls hP hS hl => ?_) kk
  have hG : GoodIn xtb (wsV own idx "java/lang/String" y (wsM y b ml ret)) := x_goods (by
    intro q hq
    simp only [List.mem_cons, List.not_mem_nil, or_false] at hq
    rcases hq with rfl | rfl | rfl | rfl
    · exact w1
    · exact w2
    · exact w3
    · exact w4) (wsM_good w5)
  exact va_runV (As := As) (rest := rest) (n := n) ⟨h.1, h.2.1, h.2.2.1, h.2.2.2.1, h.2.2.2.2.1⟩ hM (cwV n h.2.2.2.2.1 hG rfl rfl rfl ⟨hy, hdd⟩ (x_room hR hml)) ⟨XPre.blind, vk_recv h.2.2.2.2.2.2.2.2.1 hk hS, fun U hU hW => ⟨rfl, XPre.of h hP hS hU hW⟩⟩ rfl hn hl.1 rfl (lv_room hst) hd hf
def gch {α : Type} (x : Int32) (f : Option α) : Option α := if (x.toUInt32 % 65536).toInt32 = x then f else none
theorem gch_i {α : Type} {x : Int32} {f : Option α} {y : α} (h : gch x f = some y) : narrow .char (.int x) = .int x ∧ f = some y := by
  unfold gch at h
  split at h
  · rename_i q
    exact ⟨by rw [← q]; exact pk_nc x, h⟩
  · cases h
theorem ww_ldcS (h : CX p s m args meth c E cc nL own) {idx : Nat} (k : Nat) (hk : k < 7) (hi : xEnt k = idx) (ho : own = "FootKeeper$Ground") (hd : decode cc pc = .ok (.ldc idx, 2)) (kk : WW p l e R s m args below meth c nL Q E w cells slots z Z (pc + 2) lv (.ref (E.2.2.2.1 k) :: rest) X) : WW p l e R s m args below meth c nL Q E w cells slots z Z pc lv rest X := by
  subst hi
  subst ho
  exact fun H locs ls hP hS hl => va_ldcS h.1 h.2.1 h.2.2.2.1 (h.2.2.2.2.2.2.2.2.2.2.1 k hk) hd (kk H locs ls hP hS hl)
end XS
noncomputable def fJ0_coder_7d493 (a0 : Nat) (X : XD) : Option Int32 := if ((1 : Int32)) = 0 then some ((1 : Int32)) else some ((0 : Int32))
set_option maxHeartbeats 40000000 in
set_option maxRecDepth 100000 in
theorem ceJ0_coder_7d493 {l : Launch} {E : XE} {w : XW} {z : Nat} {Z : XS}  {a0 : Nat} (h_a0 : a0 < 7) {X : XD} {r : Int32} (h : fJ0_coder_7d493 a0 X = some r) : Ct l E w yJ0_coder_7d493 (wsM yJ0_coder_7d493 cJ0_coder_7d493 1 (some .byte)) (rmX 1 0 0) 0 0 [.ref (E.2.2.2.1 a0)] z z Z Z X X (some (.int r)) := by
  refine ct_of (by decide) (Nat.le_of_ble_eq_true rfl) ?_
  intro p e s m args below meth c hC hr hin hav
  unfold fJ0_coder_7d493 at h
  refine ww_lv (lv' := [(0, .ref (E.2.2.2.1 a0))]) rfl ?_
  refine ww_gsC (pc := 0) hC qf_J0_38 dJ0_coder_7d493_0 ?_
  refine ww_if_eq (pc := 3) hC h 13 dJ0_coder_7d493_3 (by decide) (fun h => ?_) (fun h => ?_)
  · refine ww_iconst (pc := 13) hC (v := (1 : Int32)) dJ0_coder_7d493_13 (by decide) ?_
    exact ww_zret (pc := 14) hC hr rfl (ret_r h) dJ0_coder_7d493_14
  · refine ww_aload_n (pc := 6) hC dJ0_coder_7d493_6 0 rfl ?_
    refine ww_strC (pc := 7) hC h_a0 qf_J0_15 dJ0_coder_7d493_7 ?_
    refine ww_goto (pc := 10) hC 14 dJ0_coder_7d493_10 (by decide) ?_
    exact ww_zret (pc := 14) hC hr rfl (ret_r h) dJ0_coder_7d493_14
noncomputable def fJ0_length_8abf5 (a0 : Nat) (X : XD) : Option Int32 := bnd (fJ0_coder_7d493 a0 X) (fun r2 => some ((Int32.ofNat (xLen.getD a0 0)) >>> (r2 &&& 31)))
set_option maxHeartbeats 40000000 in
set_option maxRecDepth 100000 in
theorem ceJ0_length_8abf5 {l : Launch} {E : XE} {w : XW} {z : Nat} {Z : XS}  {a0 : Nat} (h_a0 : a0 < 7) {X : XD} {r : Int32} (h : fJ0_length_8abf5 a0 X = some r) : Ct l E w yJ0_length_8abf5 (wsM yJ0_length_8abf5 cJ0_length_8abf5 1 (some .int)) (rmX 2 0 0) 0 0 [.ref (E.2.2.2.1 a0)] z z Z Z X X (some (.int r)) := by
  refine ct_of (by decide) (Nat.le_of_ble_eq_true rfl) ?_
  intro p e s m args below meth c hC hr hin hav
  unfold fJ0_length_8abf5 at h
  refine ww_lv (lv' := [(0, .ref (E.2.2.2.1 a0))]) rfl ?_
  refine ww_aload_n (pc := 0) hC dJ0_length_8abf5_0 0 rfl ?_
  refine ww_strV (pc := 1) hC h_a0 qf_J0_9 dJ0_length_8abf5_1 ?_
  refine ww_blen (pc := 4) hC h_a0 dJ0_length_8abf5_4 ?_
  refine ww_aload_n (pc := 5) hC dJ0_length_8abf5_5 0 rfl ?_
  obtain ⟨r2, h1, h⟩ := bnd_i h
  refine ww_callVsi (pc := 6) hC [] h_a0 (ceJ0_coder_7d493 h_a0 h1) ql_J0_335 qi_J0_coder_7d493 qs_J0_J0_coder_7d493 qn_J0 qc_J0_coder_7d493 rfl ⟨by decide, by decide, rfl⟩ rfl ⟨Nat.le_of_ble_eq_true rfl, Nat.le_of_ble_eq_true rfl⟩ (by decide) (rest := [.int (Int32.ofNat (xLen.getD a0 0))]) (Nat.le_of_ble_eq_true rfl) dJ0_length_8abf5_6 ⟨Nat.le_of_ble_eq_true rfl, Nat.le_of_ble_eq_true rfl⟩ rfl ?_
  refine ww_ishr (pc := 9) hC dJ0_length_8abf5_9 ?_
  exact ww_iret (pc := 10) hC hr (ret_r h) dJ0_length_8abf5_10
noncomputable def fJ0_isLatin1_aae02 (a0 : Nat) (X : XD) : Option Int32 := if ((1 : Int32)) = 0 then some ((0 : Int32)) else if ((0 : Int32)) = 0 then some ((1 : Int32)) else some ((0 : Int32))
set_option maxHeartbeats 40000000 in
set_option maxRecDepth 100000 in
theorem ceJ0_isLatin1_aae02 {l : Launch} {E : XE} {w : XW} {z : Nat} {Z : XS}  {a0 : Nat} (h_a0 : a0 < 7) {X : XD} {r : Int32} (h : fJ0_isLatin1_aae02 a0 X = some r) : Ct l E w yJ0_isLatin1_aae02 (wsM yJ0_isLatin1_aae02 cJ0_isLatin1_aae02 1 (some .boolean)) (rmX 1 0 0) 0 0 [.ref (E.2.2.2.1 a0)] z z Z Z X X (some (.int r)) := by
  refine ct_of (by decide) (Nat.le_of_ble_eq_true rfl) ?_
  intro p e s m args below meth c hC hr hin hav
  unfold fJ0_isLatin1_aae02 at h
  refine ww_lv (lv' := [(0, .ref (E.2.2.2.1 a0))]) rfl ?_
  refine ww_gsC (pc := 0) hC qf_J0_38 dJ0_isLatin1_aae02_0 ?_
  refine ww_if_eq (pc := 3) hC h 17 dJ0_isLatin1_aae02_3 (by decide) (fun h => ?_) (fun h => ?_)
  · refine ww_iconst (pc := 17) hC (v := (0 : Int32)) dJ0_isLatin1_aae02_17 (by decide) ?_
    exact ww_zret (pc := 18) hC hr rfl (ret_r h) dJ0_isLatin1_aae02_18
  · refine ww_aload_n (pc := 6) hC dJ0_isLatin1_aae02_6 0 rfl ?_
    refine ww_strC (pc := 7) hC h_a0 qf_J0_15 dJ0_isLatin1_aae02_7 ?_
    refine ww_if_ne (pc := 10) hC h 17 dJ0_isLatin1_aae02_10 (by decide) (fun h => ?_) (fun h => ?_)
    · refine ww_iconst (pc := 17) hC (v := (0 : Int32)) dJ0_isLatin1_aae02_17 (by decide) ?_
      exact ww_zret (pc := 18) hC hr rfl (ret_r h) dJ0_isLatin1_aae02_18
    · refine ww_iconst (pc := 13) hC (v := (1 : Int32)) dJ0_isLatin1_aae02_13 (by decide) ?_
      refine ww_goto (pc := 14) hC 18 dJ0_isLatin1_aae02_14 (by decide) ?_
      exact ww_zret (pc := 18) hC hr rfl (ret_r h) dJ0_isLatin1_aae02_18
noncomputable def fJ3_checkIndex_8e157_9 (x0 : Int32) (x1 : Int32) (X : XD) : Option Int32 := none
noncomputable def fJ3_checkIndex_8e157 (x0 : Int32) (x1 : Int32) (X : XD) : Option Int32 := if x0 < 0 then fJ3_checkIndex_8e157_9 x0 x1 X else if x0 < x1 then some x0 else fJ3_checkIndex_8e157_9 x0 x1 X
set_option maxHeartbeats 40000000 in
set_option maxRecDepth 100000 in
theorem ceJ3_checkIndex_8e157n {l : Launch} {E : XE} {w : XW} {z : Nat} {Z : XS}  {x0 : Int32} {x1 : Int32} {X : XD} {r : Int32} (h : fJ3_checkIndex_8e157 x0 x1 X = some r) : Ct l E w yJ3_checkIndex_8e157 (wsM yJ3_checkIndex_8e157 cJ3_checkIndex_8e157 3 (some .int)) (rmX 1 0 0) 0 0 [.int x0, .int x1, .null] z z Z Z X X (some (.int r)) := by
  refine ct_of (by decide) (Nat.le_of_ble_eq_true rfl) ?_
  intro p e s m args below meth c hC hr hin hav
  have j9 : ∀ (x0 : Int32) (x1 : Int32), fJ3_checkIndex_8e157_9 x0 x1 X = some r → WW p l e (rmX 1 0 0) s m args below meth c 3 (MQ below (XQ E w z Z X (some (.int r))) args s 0 0 (A0 E)) E w 0 0 z Z 9 [(0, .int x0), (1, .int x1), (2, .null)] [] X := by
    intro x0 x1 h
    unfold fJ3_checkIndex_8e157_9 at h
    cases (show none = some r from h)
  unfold fJ3_checkIndex_8e157 at h
  refine ww_lv (lv' := [(0, .int x0), (1, .int x1), (2, .null)]) rfl ?_
  refine ww_iload_n (pc := 0) hC dJ3_checkIndex_8e157_0 0 rfl ?_
  refine ww_if_lt (pc := 1) hC h 9 dJ3_checkIndex_8e157_1 (by decide) (fun h => ?_) (fun h => ?_)
  · refine ww_sub [0, 1, 2] rfl ?_
    exact j9 _ _ h
  · refine ww_iload_n (pc := 4) hC dJ3_checkIndex_8e157_4 0 rfl ?_
    refine ww_iload_n (pc := 5) hC dJ3_checkIndex_8e157_5 1 rfl ?_
    refine ww_icmp_lt (pc := 6) hC h 16 dJ3_checkIndex_8e157_6 (by decide) (fun h => ?_) (fun h => ?_)
    · refine ww_iload_n (pc := 16) hC dJ3_checkIndex_8e157_16 0 rfl ?_
      exact ww_iret (pc := 17) hC hr (ret_r h) dJ3_checkIndex_8e157_17
    · refine ww_sub [0, 1, 2] rfl ?_
      exact j9 _ _ h
set_option maxHeartbeats 40000000 in
set_option maxRecDepth 100000 in
theorem ceJ3_checkIndex_8e157r {l : Launch} {E : XE} {w : XW} {z : Nat} {Z : XS}  {a2 : Nat} {x0 : Int32} {x1 : Int32} {X : XD} {r : Int32} (h : fJ3_checkIndex_8e157 x0 x1 X = some r) : Ct l E w yJ3_checkIndex_8e157 (wsM yJ3_checkIndex_8e157 cJ3_checkIndex_8e157 3 (some .int)) (rmX 1 0 0) 0 0 [.int x0, .int x1, .ref a2] z z Z Z X X (some (.int r)) := by
  refine ct_of (by decide) (Nat.le_of_ble_eq_true rfl) ?_
  intro p e s m args below meth c hC hr hin hav
  have j9 : ∀ (x0 : Int32) (x1 : Int32), fJ3_checkIndex_8e157_9 x0 x1 X = some r → WW p l e (rmX 1 0 0) s m args below meth c 3 (MQ below (XQ E w z Z X (some (.int r))) args s 0 0 (A0 E)) E w 0 0 z Z 9 [(0, .int x0), (1, .int x1), (2, .ref a2)] [] X := by
    intro x0 x1 h
    unfold fJ3_checkIndex_8e157_9 at h
    cases (show none = some r from h)
  unfold fJ3_checkIndex_8e157 at h
  refine ww_lv (lv' := [(0, .int x0), (1, .int x1), (2, .ref a2)]) rfl ?_
  refine ww_iload_n (pc := 0) hC dJ3_checkIndex_8e157_0 0 rfl ?_
  refine ww_if_lt (pc := 1) hC h 9 dJ3_checkIndex_8e157_1 (by decide) (fun h => ?_) (fun h => ?_)
  · refine ww_sub [0, 1, 2] rfl ?_
    exact j9 _ _ h
  · refine ww_iload_n (pc := 4) hC dJ3_checkIndex_8e157_4 0 rfl ?_
    refine ww_iload_n (pc := 5) hC dJ3_checkIndex_8e157_5 1 rfl ?_
    refine ww_icmp_lt (pc := 6) hC h 16 dJ3_checkIndex_8e157_6 (by decide) (fun h => ?_) (fun h => ?_)
    · refine ww_iload_n (pc := 16) hC dJ3_checkIndex_8e157_16 0 rfl ?_
      exact ww_iret (pc := 17) hC hr (ret_r h) dJ3_checkIndex_8e157_17
    · refine ww_sub [0, 1, 2] rfl ?_
      exact j9 _ _ h
noncomputable def fJ0_checkIndex_df160 (x0 : Int32) (x1 : Int32) (X : XD) : Option Unit := bnd (fJ3_checkIndex_8e157 x0 x1 X) (fun r3 => some ())
set_option maxHeartbeats 40000000 in
set_option maxRecDepth 100000 in
theorem ceJ0_checkIndex_df160 {l : Launch} {E : XE} {w : XW} {z : Nat} {Z : XS}  {x0 : Int32} {x1 : Int32} {X : XD} {r : Unit} (h : fJ0_checkIndex_df160 x0 x1 X = some r) : Ct l E w yJ0_checkIndex_df160 (wsM yJ0_checkIndex_df160 cJ0_checkIndex_df160 2 none) (rmX 2 0 0) 0 0 [.int x0, .int x1] z z Z Z X X none := by
  refine ct_of (by decide) (Nat.le_of_ble_eq_true rfl) ?_
  intro p e s m args below meth c hC hr hin hav
  unfold fJ0_checkIndex_df160 at h
  refine ww_lv (lv' := [(0, .int x0), (1, .int x1)]) rfl ?_
  refine ww_iload_n (pc := 0) hC dJ0_checkIndex_df160_0 0 rfl ?_
  refine ww_iload_n (pc := 1) hC dJ0_checkIndex_df160_1 1 rfl ?_
  refine ww_gsF (pc := 2) hC qf_J0_1053 dJ0_checkIndex_df160_2 ?_ (fun v1 => ?_)
  · obtain ⟨r3, h2, h⟩ := bnd_i h
    refine ww_callSi (pc := 5) hC [.int x0, .int x1, .null] (ceJ3_checkIndex_8e157n h2) ql_J0_1059 qt_J3_checkIndex_8e157 qn_J3 qc_J3_checkIndex_8e157 ⟨by decide, by decide, rfl⟩ rfl ⟨Nat.le_of_ble_eq_true rfl, Nat.le_of_ble_eq_true rfl⟩ (by decide) (rest := []) (Nat.le_of_ble_eq_true rfl) dJ0_checkIndex_df160_5 ⟨Nat.le_of_ble_eq_true rfl, Nat.le_of_ble_eq_true rfl⟩ rfl ?_
    refine ww_pop (pc := 8) hC dJ0_checkIndex_df160_8 rfl ?_
    exact ww_vret (pc := 9) hC hr (ret_r h) dJ0_checkIndex_df160_9
  · obtain ⟨r5, h4, h⟩ := bnd_i h
    refine ww_callSi (pc := 5) hC [.int x0, .int x1, .ref v1] (ceJ3_checkIndex_8e157r h4) ql_J0_1059 qt_J3_checkIndex_8e157 qn_J3 qc_J3_checkIndex_8e157 ⟨by decide, by decide, rfl⟩ rfl ⟨Nat.le_of_ble_eq_true rfl, Nat.le_of_ble_eq_true rfl⟩ (by decide) (rest := []) (Nat.le_of_ble_eq_true rfl) dJ0_checkIndex_df160_5 ⟨Nat.le_of_ble_eq_true rfl, Nat.le_of_ble_eq_true rfl⟩ rfl ?_
    refine ww_pop (pc := 8) hC dJ0_checkIndex_df160_8 rfl ?_
    exact ww_vret (pc := 9) hC hr (ret_r h) dJ0_checkIndex_df160_9
noncomputable def fJ1_charAt_3b067 (a0 : Nat) (x1 : Int32) (X : XD) : Option Int32 := bnd (fJ0_checkIndex_df160 x1 (Int32.ofNat (xLen.getD a0 0)) X) (fun _ => gin x1 (xLen.getD a0 0) (gch (((((xByt.getD a0 []).getD (x1).toNatClampNeg 0) &&& ((255 : Int32))).toUInt32 % 65536).toInt32) (some (((((xByt.getD a0 []).getD (x1).toNatClampNeg 0) &&& ((255 : Int32))).toUInt32 % 65536).toInt32))))
set_option maxHeartbeats 40000000 in
set_option maxRecDepth 100000 in
theorem ceJ1_charAt_3b067 {l : Launch} {E : XE} {w : XW} {z : Nat} {Z : XS}  {a0 : Nat} (h_a0 : a0 < 7) {x1 : Int32} {X : XD} {r : Int32} (h : fJ1_charAt_3b067 a0 x1 X = some r) : Ct l E w yJ1_charAt_3b067 (wsM yJ1_charAt_3b067 cJ1_charAt_3b067 2 (some .char)) (rmX 3 0 0) 0 0 [.ref (E.2.2.2.2 a0), .int x1] z z Z Z X X (some (.int r)) := by
  refine ct_of (by decide) (Nat.le_of_ble_eq_true rfl) ?_
  intro p e s m args below meth c hC hr hin hav
  unfold fJ1_charAt_3b067 at h
  refine ww_lv (lv' := [(0, .ref (E.2.2.2.2 a0)), (1, .int x1)]) rfl ?_
  refine ww_iload_n (pc := 0) hC dJ1_charAt_3b067_0 1 rfl ?_
  refine ww_aload_n (pc := 1) hC dJ1_charAt_3b067_1 0 rfl ?_
  refine ww_blen (pc := 2) hC h_a0 dJ1_charAt_3b067_2 ?_
  obtain ⟨_, h1, h⟩ := bnd_i h
  refine ww_callSv (pc := 3) hC [.int x1, .int (Int32.ofNat (xLen.getD a0 0))] (ceJ0_checkIndex_df160 h1) ql_J1_9 qt_J0_checkIndex_df160 qn_J0 qc_J0_checkIndex_df160 ⟨by decide, by decide, rfl⟩ rfl ⟨Nat.le_of_ble_eq_true rfl, Nat.le_of_ble_eq_true rfl⟩ (by decide) (rest := []) (Nat.le_of_ble_eq_true rfl) dJ1_charAt_3b067_3 ⟨Nat.le_of_ble_eq_true rfl, Nat.le_of_ble_eq_true rfl⟩ rfl ?_
  refine ww_aload_n (pc := 6) hC dJ1_charAt_3b067_6 0 rfl ?_
  refine ww_iload_n (pc := 7) hC dJ1_charAt_3b067_7 1 rfl ?_
  refine ww_bald (pc := 8) hC h_a0 h dJ1_charAt_3b067_8 (fun h => ?_)
  refine ww_sipush (pc := 9) hC (v := (255 : Int32)) dJ1_charAt_3b067_9 (by decide) ?_
  refine ww_iand (pc := 12) hC dJ1_charAt_3b067_12 ?_
  refine ww_i2c (pc := 13) hC dJ1_charAt_3b067_13 ?_
  obtain ⟨hb3, h⟩ := gch_i h
  exact ww_zret (pc := 14) hC hr hb3 (ret_r h) dJ1_charAt_3b067_14
noncomputable def fJ0_charAt_5068e (a0 : Nat) (x1 : Int32) (X : XD) : Option Int32 := bnd (fJ0_isLatin1_aae02 a0 X) (fun r2 => if r2 = 0 then none else bnd (fJ1_charAt_3b067 a0 x1 X) (fun r4 => gch r4 (some r4)))
set_option maxHeartbeats 40000000 in
set_option maxRecDepth 100000 in
theorem ceJ0_charAt_5068e {l : Launch} {E : XE} {w : XW} {z : Nat} {Z : XS}  {a0 : Nat} (h_a0 : a0 < 7) {x1 : Int32} {X : XD} {r : Int32} (h : fJ0_charAt_5068e a0 x1 X = some r) : Ct l E w yJ0_charAt_5068e (wsM yJ0_charAt_5068e cJ0_charAt_5068e 2 (some .char)) (rmX 4 0 0) 0 0 [.ref (E.2.2.2.1 a0), .int x1] z z Z Z X X (some (.int r)) := by
  refine ct_of (by decide) (Nat.le_of_ble_eq_true rfl) ?_
  intro p e s m args below meth c hC hr hin hav
  unfold fJ0_charAt_5068e at h
  refine ww_lv (lv' := [(0, .ref (E.2.2.2.1 a0)), (1, .int x1)]) rfl ?_
  refine ww_aload_n (pc := 0) hC dJ0_charAt_5068e_0 0 rfl ?_
  obtain ⟨r2, h1, h⟩ := bnd_i h
  refine ww_callVsi (pc := 1) hC [] h_a0 (ceJ0_isLatin1_aae02 h_a0 h1) ql_J0_492 qi_J0_isLatin1_aae02 qs_J0_J0_isLatin1_aae02 qn_J0 qc_J0_isLatin1_aae02 rfl ⟨by decide, by decide, rfl⟩ rfl ⟨Nat.le_of_ble_eq_true rfl, Nat.le_of_ble_eq_true rfl⟩ (by decide) (rest := []) (Nat.le_of_ble_eq_true rfl) dJ0_charAt_5068e_1 ⟨Nat.le_of_ble_eq_true rfl, Nat.le_of_ble_eq_true rfl⟩ rfl ?_
  refine ww_if_eq (pc := 4) hC h 16 dJ0_charAt_5068e_4 (by decide) (fun h => ?_) (fun h => ?_)
  · cases (show none = some r from h)
  · refine ww_aload_n (pc := 7) hC dJ0_charAt_5068e_7 0 rfl ?_
    refine ww_strV (pc := 8) hC h_a0 qf_J0_9 dJ0_charAt_5068e_8 ?_
    refine ww_iload_n (pc := 11) hC dJ0_charAt_5068e_11 1 rfl ?_
    obtain ⟨r4, h3, h⟩ := bnd_i h
    refine ww_callSi (pc := 12) hC [.ref (E.2.2.2.2 a0), .int x1] (ceJ1_charAt_3b067 h_a0 h3) ql_J0_495 qt_J1_charAt_3b067 qn_J1 qc_J1_charAt_3b067 ⟨by decide, by decide, rfl⟩ rfl ⟨Nat.le_of_ble_eq_true rfl, Nat.le_of_ble_eq_true rfl⟩ (by decide) (rest := []) (Nat.le_of_ble_eq_true rfl) dJ0_charAt_5068e_12 ⟨Nat.le_of_ble_eq_true rfl, Nat.le_of_ble_eq_true rfl⟩ rfl ?_
    obtain ⟨hb5, h⟩ := gch_i h
    exact ww_zret (pc := 15) hC hr hb5 (ret_r h) dJ0_charAt_5068e_15
noncomputable def fJ1_canEncode_9a6ad (x0 : Int32) (X : XD) : Option Int32 := if x0 < 0 then some ((0 : Int32)) else if ((255 : Int32)) < x0 then some ((0 : Int32)) else some ((1 : Int32))
set_option maxHeartbeats 40000000 in
set_option maxRecDepth 100000 in
theorem ceJ1_canEncode_9a6ad {l : Launch} {E : XE} {w : XW} {z : Nat} {Z : XS}  {x0 : Int32} {X : XD} {r : Int32} (h : fJ1_canEncode_9a6ad x0 X = some r) : Ct l E w yJ1_canEncode_9a6ad (wsM yJ1_canEncode_9a6ad cJ1_canEncode_9a6ad 1 (some .boolean)) (rmX 1 0 0) 0 0 [.int x0] z z Z Z X X (some (.int r)) := by
  refine ct_of (by decide) (Nat.le_of_ble_eq_true rfl) ?_
  intro p e s m args below meth c hC hr hin hav
  unfold fJ1_canEncode_9a6ad at h
  refine ww_lv (lv' := [(0, .int x0)]) rfl ?_
  refine ww_iload_n (pc := 0) hC dJ1_canEncode_9a6ad_0 0 rfl ?_
  refine ww_if_lt (pc := 1) hC h 15 dJ1_canEncode_9a6ad_1 (by decide) (fun h => ?_) (fun h => ?_)
  · refine ww_iconst (pc := 15) hC (v := (0 : Int32)) dJ1_canEncode_9a6ad_15 (by decide) ?_
    exact ww_zret (pc := 16) hC hr rfl (ret_r h) dJ1_canEncode_9a6ad_16
  · refine ww_iload_n (pc := 4) hC dJ1_canEncode_9a6ad_4 0 rfl ?_
    refine ww_sipush (pc := 5) hC (v := (255 : Int32)) dJ1_canEncode_9a6ad_5 (by decide) ?_
    refine ww_icmp_gt (pc := 8) hC h 15 dJ1_canEncode_9a6ad_8 (by decide) (fun h => ?_) (fun h => ?_)
    · refine ww_iconst (pc := 15) hC (v := (0 : Int32)) dJ1_canEncode_9a6ad_15 (by decide) ?_
      exact ww_zret (pc := 16) hC hr rfl (ret_r h) dJ1_canEncode_9a6ad_16
    · refine ww_iconst (pc := 11) hC (v := (1 : Int32)) dJ1_canEncode_9a6ad_11 (by decide) ?_
      refine ww_goto (pc := 12) hC 16 dJ1_canEncode_9a6ad_12 (by decide) ?_
      exact ww_zret (pc := 16) hC hr rfl (ret_r h) dJ1_canEncode_9a6ad_16
noncomputable def fJ1_indexOfChar_4cfef_7 (a0 : Nat) (n : Nat) : Int32 → Int32 → Int32 → XD → Option Int32 := Nat.rec (motive := fun _ => Int32 → Int32 → Int32 → XD → Option Int32) (fun _ _ _ _ => none) (fun _ f => fun x3 x4 x5 X => if x3 ≤ x5 then some ((-1 : Int32)) else gin x5 (xLen.getD a0 0) (if ((xByt.getD a0 []).getD (x5).toNatClampNeg 0) = x4 then some x5 else nm (x5 + (1 : Int32)) (fun y2 => f x3 x4 y2 X))) n
theorem fJ1_indexOfChar_4cfef_7_s (a0 : Nat) (n : Nat) (x3 : Int32) (x4 : Int32) (x5 : Int32) (X : XD) : fJ1_indexOfChar_4cfef_7 a0 (n + 1) x3 x4 x5 X = if x3 ≤ x5 then some ((-1 : Int32)) else gin x5 (xLen.getD a0 0) (if ((xByt.getD a0 []).getD (x5).toNatClampNeg 0) = x4 then some x5 else nm (x5 + (1 : Int32)) (fun y2 => (fJ1_indexOfChar_4cfef_7 a0 n) x3 x4 y2 X)) := rfl
noncomputable def fJ1_indexOfChar_4cfef (a0 : Nat) (x1 : Int32) (x2 : Int32) (x3 : Int32) (X : XD) : Option Int32 := nm x1.toInt8.toInt32 (fun y1 => fJ1_indexOfChar_4cfef_7 a0 FU x3 y1 x2 X)
set_option maxHeartbeats 40000000 in
set_option maxRecDepth 100000 in
theorem ceJ1_indexOfChar_4cfef {l : Launch} {E : XE} {w : XW} {z : Nat} {Z : XS}  {a0 : Nat} (h_a0 : a0 < 7) {x1 : Int32} {x2 : Int32} {x3 : Int32} {X : XD} {r : Int32} (h : fJ1_indexOfChar_4cfef a0 x1 x2 x3 X = some r) : Ct l E w yJ1_indexOfChar_4cfef (wsM yJ1_indexOfChar_4cfef cJ1_indexOfChar_4cfef 6 (some .int)) (rmX 1 0 0) 0 0 [.ref (E.2.2.2.2 a0), .int x1, .int x2, .int x3] z z Z Z X X (some (.int r)) := by
  refine ct_of (by decide) (Nat.le_of_ble_eq_true rfl) ?_
  intro p e s m args below meth c hC hr hin hav
  have j7 : ∀ (n : Nat), ∀ (x3 : Int32) (x4 : Int32) (x5 : Int32), fJ1_indexOfChar_4cfef_7 a0 n x3 x4 x5 X = some r → WW p l e (rmX 1 0 0) s m args below meth c 6 (MQ below (XQ E w z Z X (some (.int r))) args s 0 0 (A0 E)) E w 0 0 z Z 7 [(0, .ref (E.2.2.2.2 a0)), (3, .int x3), (4, .int x4), (5, .int x5)] [] X := by
    intro n
    induction n with
    | zero =>
      intro x3 x4 x5 h
      cases (show none = some r from h)
    | succ n ih =>
      intro x3 x4 x5 h
      rw [fJ1_indexOfChar_4cfef_7_s] at h
      refine ww_iload (pc := 7) hC dJ1_indexOfChar_4cfef_7 3 rfl ?_
      refine ww_iload_n (pc := 9) hC dJ1_indexOfChar_4cfef_9 1 rfl ?_
      refine ww_icmp_ge (pc := 10) hC h 31 dJ1_indexOfChar_4cfef_10 (by decide) (fun h => ?_) (fun h => ?_)
      · refine ww_iconst (pc := 31) hC (v := (-1 : Int32)) dJ1_indexOfChar_4cfef_31 (by decide) ?_
        exact ww_iret (pc := 32) hC hr (ret_r h) dJ1_indexOfChar_4cfef_32
      · refine ww_aload_n (pc := 13) hC dJ1_indexOfChar_4cfef_13 0 rfl ?_
        refine ww_iload (pc := 14) hC dJ1_indexOfChar_4cfef_14 3 rfl ?_
        refine ww_bald (pc := 16) hC h_a0 h dJ1_indexOfChar_4cfef_16 (fun h => ?_)
        refine ww_iload (pc := 17) hC dJ1_indexOfChar_4cfef_17 2 rfl ?_
        refine ww_icmp_ne (pc := 19) hC h 25 dJ1_indexOfChar_4cfef_19 (by decide) (fun h => ?_) (fun h => ?_)
        · obtain ⟨y2, ey2⟩ : ∃ q, q = x5 + (1 : Int32) := ⟨_, rfl⟩
          replace h := nm_i h ey2
          refine ww_iinc (pc := 25) hC y2 [(5, .int y2), (0, .ref (E.2.2.2.2 a0)), (3, .int x3), (4, .int x4)] dJ1_indexOfChar_4cfef_25 3 rfl (by rw [ey2]; rfl) (by decide) rfl ?_
          refine ww_goto (pc := 28) hC 7 dJ1_indexOfChar_4cfef_28 (by decide) ?_
          refine ww_sub [1, 2, 3, 0] rfl ?_
          exact ih _ _ _ h
        · refine ww_iload (pc := 22) hC dJ1_indexOfChar_4cfef_22 3 rfl ?_
          exact ww_iret (pc := 24) hC hr (ret_r h) dJ1_indexOfChar_4cfef_24
  unfold fJ1_indexOfChar_4cfef at h
  refine ww_lv (lv' := [(0, .ref (E.2.2.2.2 a0)), (1, .int x1), (2, .int x2), (3, .int x3)]) rfl ?_
  refine ww_iload_n (pc := 0) hC dJ1_indexOfChar_4cfef_0 1 rfl ?_
  refine ww_i2b (pc := 1) hC dJ1_indexOfChar_4cfef_1 ?_
  obtain ⟨y1, ey1⟩ : ∃ q, q = x1.toInt8.toInt32 := ⟨_, rfl⟩
  replace h := nm_i h ey1
  refine ww_nmi ey1 ?_
  refine ww_istore (pc := 2) hC [(4, .int y1), (0, .ref (E.2.2.2.2 a0)), (1, .int x1), (2, .int x2), (3, .int x3)] dJ1_indexOfChar_4cfef_2  (by decide) rfl ?_
  refine ww_iload_n (pc := 4) hC dJ1_indexOfChar_4cfef_4 3 rfl ?_
  refine ww_istore (pc := 5) hC [(5, .int x2), (4, .int y1), (0, .ref (E.2.2.2.2 a0)), (1, .int x1), (2, .int x2), (3, .int x3)] dJ1_indexOfChar_4cfef_5  (by decide) rfl ?_
  refine ww_sub [2, 5, 1, 0] rfl ?_
  exact j7 _ _ _ _ h
noncomputable def fJ1_indexOf_4cfef (a0 : Nat) (x1 : Int32) (x2 : Int32) (x3 : Int32) (X : XD) : Option Int32 := bnd (fJ1_canEncode_9a6ad x1 X) (fun r2 => if r2 = 0 then some ((-1 : Int32)) else nm (if x2 < ((0 : Int32)) then ((0 : Int32)) else x2) (fun y3 => nm (if (Int32.ofNat (xLen.getD a0 0)) < x3 then (Int32.ofNat (xLen.getD a0 0)) else x3) (fun y4 => if y3 < y4 then bnd (fJ1_indexOfChar_4cfef a0 x1 y3 y4 X) (fun r6 => some r6) else some ((-1 : Int32)))))
set_option maxHeartbeats 40000000 in
set_option maxRecDepth 100000 in
theorem ceJ1_indexOf_4cfef {l : Launch} {E : XE} {w : XW} {z : Nat} {Z : XS}  {a0 : Nat} (h_a0 : a0 < 7) {x1 : Int32} {x2 : Int32} {x3 : Int32} {X : XD} {r : Int32} (h : fJ1_indexOf_4cfef a0 x1 x2 x3 X = some r) : Ct l E w yJ1_indexOf_4cfef (wsM yJ1_indexOf_4cfef cJ1_indexOf_4cfef 4 (some .int)) (rmX 2 0 0) 0 0 [.ref (E.2.2.2.2 a0), .int x1, .int x2, .int x3] z z Z Z X X (some (.int r)) := by
  refine ct_of (by decide) (Nat.le_of_ble_eq_true rfl) ?_
  intro p e s m args below meth c hC hr hin hav
  unfold fJ1_indexOf_4cfef at h
  refine ww_lv (lv' := [(0, .ref (E.2.2.2.2 a0)), (1, .int x1), (2, .int x2), (3, .int x3)]) rfl ?_
  refine ww_iload_n (pc := 0) hC dJ1_indexOf_4cfef_0 1 rfl ?_
  obtain ⟨r2, h1, h⟩ := bnd_i h
  refine ww_callSi (pc := 1) hC [.int x1] (ceJ1_canEncode_9a6ad h1) ql_J1_88 qt_J1_canEncode_9a6ad qn_J1 qc_J1_canEncode_9a6ad ⟨by decide, by decide, rfl⟩ rfl ⟨Nat.le_of_ble_eq_true rfl, Nat.le_of_ble_eq_true rfl⟩ (by decide) (rest := []) (Nat.le_of_ble_eq_true rfl) dJ1_indexOf_4cfef_1 ⟨Nat.le_of_ble_eq_true rfl, Nat.le_of_ble_eq_true rfl⟩ rfl ?_
  refine ww_if_ne (pc := 4) hC h 9 dJ1_indexOf_4cfef_4 (by decide) (fun h => ?_) (fun h => ?_)
  · refine ww_iload_n (pc := 9) hC dJ1_indexOf_4cfef_9 2 rfl ?_
    refine ww_iconst (pc := 10) hC (v := (0 : Int32)) dJ1_indexOf_4cfef_10 (by decide) ?_
    refine ww_max (pc := 11) hC ql_J1_92 qt_J9_max_7cf53 qn_J9 qc_J9_max_7cf53 dJ1_indexOf_4cfef_11 ⟨Nat.le_of_ble_eq_true rfl, Nat.le_of_ble_eq_true rfl⟩ (Nat.le_of_ble_eq_true rfl) ⟨Nat.le_of_ble_eq_true rfl, Nat.le_of_ble_eq_true rfl⟩ ?_
    obtain ⟨y3, ey3⟩ : ∃ q, q = if x2 < ((0 : Int32)) then ((0 : Int32)) else x2 := ⟨_, rfl⟩
    replace h := nm_i h ey3
    refine ww_nmi ey3 ?_
    refine ww_istore_n (pc := 14) hC [(2, .int y3), (0, .ref (E.2.2.2.2 a0)), (1, .int x1), (3, .int x3)] dJ1_indexOf_4cfef_14 rfl (by decide) rfl ?_
    refine ww_iload_n (pc := 15) hC dJ1_indexOf_4cfef_15 3 rfl ?_
    refine ww_aload_n (pc := 16) hC dJ1_indexOf_4cfef_16 1 rfl ?_
    refine ww_blen (pc := 17) hC h_a0 dJ1_indexOf_4cfef_17 ?_
    refine ww_min (pc := 18) hC ql_J1_38 qt_J9_min_7cf53 qn_J9 qc_J9_min_7cf53 dJ1_indexOf_4cfef_18 ⟨Nat.le_of_ble_eq_true rfl, Nat.le_of_ble_eq_true rfl⟩ (Nat.le_of_ble_eq_true rfl) ⟨Nat.le_of_ble_eq_true rfl, Nat.le_of_ble_eq_true rfl⟩ ?_
    obtain ⟨y4, ey4⟩ : ∃ q, q = if (Int32.ofNat (xLen.getD a0 0)) < x3 then (Int32.ofNat (xLen.getD a0 0)) else x3 := ⟨_, rfl⟩
    replace h := nm_i h ey4
    refine ww_nmi ey4 ?_
    refine ww_istore_n (pc := 21) hC [(3, .int y4), (2, .int y3), (0, .ref (E.2.2.2.2 a0)), (1, .int x1)] dJ1_indexOf_4cfef_21 rfl (by decide) rfl ?_
    refine ww_iload_n (pc := 22) hC dJ1_indexOf_4cfef_22 1 rfl ?_
    refine ww_iload_n (pc := 23) hC dJ1_indexOf_4cfef_23 0 rfl ?_
    refine ww_icmp_lt (pc := 24) hC h 29 dJ1_indexOf_4cfef_24 (by decide) (fun h => ?_) (fun h => ?_)
    · refine ww_aload_n (pc := 29) hC dJ1_indexOf_4cfef_29 2 rfl ?_
      refine ww_iload_n (pc := 30) hC dJ1_indexOf_4cfef_30 3 rfl ?_
      refine ww_iload_n (pc := 31) hC dJ1_indexOf_4cfef_31 1 rfl ?_
      refine ww_iload_n (pc := 32) hC dJ1_indexOf_4cfef_32 0 rfl ?_
      obtain ⟨r6, h5, h⟩ := bnd_i h
      refine ww_callSi (pc := 33) hC [.ref (E.2.2.2.2 a0), .int x1, .int y3, .int y4] (ceJ1_indexOfChar_4cfef h_a0 h5) ql_J1_95 qt_J1_indexOfChar_4cfef qn_J1 qc_J1_indexOfChar_4cfef ⟨by decide, by decide, rfl⟩ rfl ⟨Nat.le_of_ble_eq_true rfl, Nat.le_of_ble_eq_true rfl⟩ (by decide) (rest := []) (Nat.le_of_ble_eq_true rfl) dJ1_indexOf_4cfef_33 ⟨Nat.le_of_ble_eq_true rfl, Nat.le_of_ble_eq_true rfl⟩ rfl ?_
      exact ww_iret (pc := 36) hC hr (ret_r h) dJ1_indexOf_4cfef_36
    · refine ww_iconst (pc := 27) hC (v := (-1 : Int32)) dJ1_indexOf_4cfef_27 (by decide) ?_
      exact ww_iret (pc := 28) hC hr (ret_r h) dJ1_indexOf_4cfef_28
  · refine ww_iconst (pc := 7) hC (v := (-1 : Int32)) dJ1_indexOf_4cfef_7 (by decide) ?_
    exact ww_iret (pc := 8) hC hr (ret_r h) dJ1_indexOf_4cfef_8
noncomputable def fJ0_indexOf_7cf53 (a0 : Nat) (x1 : Int32) (x2 : Int32) (X : XD) : Option Int32 := bnd (fJ0_isLatin1_aae02 a0 X) (fun r2 => if r2 = 0 then none else bnd (fJ0_length_8abf5 a0 X) (fun r4 => bnd (fJ1_indexOf_4cfef a0 x1 x2 r4 X) (fun r6 => some r6)))
set_option maxHeartbeats 40000000 in
set_option maxRecDepth 100000 in
theorem ceJ0_indexOf_7cf53 {l : Launch} {E : XE} {w : XW} {z : Nat} {Z : XS}  {a0 : Nat} (h_a0 : a0 < 7) {x1 : Int32} {x2 : Int32} {X : XD} {r : Int32} (h : fJ0_indexOf_7cf53 a0 x1 x2 X = some r) : Ct l E w yJ0_indexOf_7cf53 (wsM yJ0_indexOf_7cf53 cJ0_indexOf_7cf53 3 (some .int)) (rmX 3 0 0) 0 0 [.ref (E.2.2.2.1 a0), .int x1, .int x2] z z Z Z X X (some (.int r)) := by
  refine ct_of (by decide) (Nat.le_of_ble_eq_true rfl) ?_
  intro p e s m args below meth c hC hr hin hav
  unfold fJ0_indexOf_7cf53 at h
  refine ww_lv (lv' := [(0, .ref (E.2.2.2.1 a0)), (1, .int x1), (2, .int x2)]) rfl ?_
  refine ww_aload_n (pc := 0) hC dJ0_indexOf_7cf53_0 0 rfl ?_
  obtain ⟨r2, h1, h⟩ := bnd_i h
  refine ww_callVsi (pc := 1) hC [] h_a0 (ceJ0_isLatin1_aae02 h_a0 h1) ql_J0_492 qi_J0_isLatin1_aae02 qs_J0_J0_isLatin1_aae02 qn_J0 qc_J0_isLatin1_aae02 rfl ⟨by decide, by decide, rfl⟩ rfl ⟨Nat.le_of_ble_eq_true rfl, Nat.le_of_ble_eq_true rfl⟩ (by decide) (rest := []) (Nat.le_of_ble_eq_true rfl) dJ0_indexOf_7cf53_1 ⟨Nat.le_of_ble_eq_true rfl, Nat.le_of_ble_eq_true rfl⟩ rfl ?_
  refine ww_if_eq (pc := 4) hC h 23 dJ0_indexOf_7cf53_4 (by decide) (fun h => ?_) (fun h => ?_)
  · cases (show none = some r from h)
  · refine ww_aload_n (pc := 7) hC dJ0_indexOf_7cf53_7 0 rfl ?_
    refine ww_strV (pc := 8) hC h_a0 qf_J0_9 dJ0_indexOf_7cf53_8 ?_
    refine ww_iload_n (pc := 11) hC dJ0_indexOf_7cf53_11 1 rfl ?_
    refine ww_iload_n (pc := 12) hC dJ0_indexOf_7cf53_12 2 rfl ?_
    refine ww_aload_n (pc := 13) hC dJ0_indexOf_7cf53_13 0 rfl ?_
    obtain ⟨r4, h3, h⟩ := bnd_i h
    refine ww_callVsi (pc := 14) hC [] h_a0 (ceJ0_length_8abf5 h_a0 h3) ql_J0_505 qi_J0_length_8abf5 qs_J0_J0_length_8abf5 qn_J0 qc_J0_length_8abf5 rfl ⟨by decide, by decide, rfl⟩ rfl ⟨Nat.le_of_ble_eq_true rfl, Nat.le_of_ble_eq_true rfl⟩ (by decide) (rest := [.int x2, .int x1, .ref (E.2.2.2.2 a0)]) (Nat.le_of_ble_eq_true rfl) dJ0_indexOf_7cf53_14 ⟨Nat.le_of_ble_eq_true rfl, Nat.le_of_ble_eq_true rfl⟩ rfl ?_
    obtain ⟨r6, h5, h⟩ := bnd_i h
    refine ww_callSi (pc := 17) hC [.ref (E.2.2.2.2 a0), .int x1, .int x2, .int r4] (ceJ1_indexOf_4cfef h_a0 h5) ql_J0_637 qt_J1_indexOf_4cfef qn_J1 qc_J1_indexOf_4cfef ⟨by decide, by decide, rfl⟩ rfl ⟨Nat.le_of_ble_eq_true rfl, Nat.le_of_ble_eq_true rfl⟩ (by decide) (rest := []) (Nat.le_of_ble_eq_true rfl) dJ0_indexOf_7cf53_17 ⟨Nat.le_of_ble_eq_true rfl, Nat.le_of_ble_eq_true rfl⟩ rfl ?_
    refine ww_goto (pc := 20) hC 36 dJ0_indexOf_7cf53_20 (by decide) ?_
    exact ww_iret (pc := 36) hC hr (ret_r h) dJ0_indexOf_7cf53_36
noncomputable def fJ0_indexOf_0f7a4 (a0 : Nat) (x1 : Int32) (X : XD) : Option Int32 := bnd (fJ0_indexOf_7cf53 a0 x1 ((0 : Int32)) X) (fun r2 => some r2)
set_option maxHeartbeats 40000000 in
set_option maxRecDepth 100000 in
theorem ceJ0_indexOf_0f7a4 {l : Launch} {E : XE} {w : XW} {z : Nat} {Z : XS}  {a0 : Nat} (h_a0 : a0 < 7) {x1 : Int32} {X : XD} {r : Int32} (h : fJ0_indexOf_0f7a4 a0 x1 X = some r) : Ct l E w yJ0_indexOf_0f7a4 (wsM yJ0_indexOf_0f7a4 cJ0_indexOf_0f7a4 2 (some .int)) (rmX 4 0 0) 0 0 [.ref (E.2.2.2.1 a0), .int x1] z z Z Z X X (some (.int r)) := by
  refine ct_of (by decide) (Nat.le_of_ble_eq_true rfl) ?_
  intro p e s m args below meth c hC hr hin hav
  unfold fJ0_indexOf_0f7a4 at h
  refine ww_lv (lv' := [(0, .ref (E.2.2.2.1 a0)), (1, .int x1)]) rfl ?_
  refine ww_aload_n (pc := 0) hC dJ0_indexOf_0f7a4_0 0 rfl ?_
  refine ww_iload_n (pc := 1) hC dJ0_indexOf_0f7a4_1 1 rfl ?_
  refine ww_iconst (pc := 2) hC (v := (0 : Int32)) dJ0_indexOf_0f7a4_2 (by decide) ?_
  obtain ⟨r2, h1, h⟩ := bnd_i h
  refine ww_callVsi (pc := 3) hC [.int x1, .int ((0 : Int32))] h_a0 (ceJ0_indexOf_7cf53 h_a0 h1) ql_J0_633 qi_J0_indexOf_7cf53 qs_J0_J0_indexOf_7cf53 qn_J0 qc_J0_indexOf_7cf53 rfl ⟨by decide, by decide, rfl⟩ rfl ⟨Nat.le_of_ble_eq_true rfl, Nat.le_of_ble_eq_true rfl⟩ (by decide) (rest := []) (Nat.le_of_ble_eq_true rfl) dJ0_indexOf_0f7a4_3 ⟨Nat.le_of_ble_eq_true rfl, Nat.le_of_ble_eq_true rfl⟩ rfl ?_
  exact ww_iret (pc := 6) hC hr (ret_r h) dJ0_indexOf_0f7a4_6
