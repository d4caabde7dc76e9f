noncomputable def fX11_goOn (Z : XS) (f : Int32 → Int32 → Int64 → XD → Option (Unit × XD)) (x1 : Int32) (x2 : Int32) (x3 : Int32) (x4 : Int32) (x5 : Int32) (x6 : Int64) (X : XD) : Option (Unit × XD) := if x1 < 0 then some ((), X) else if (x1 + ((1 : Int32))) < ((5 : Int32)) then gin (x1 + ((1 : Int32))) 5 (gin x1 5 (bnw (fX6_takeRound Z (74 + 13 * (x1 + ((1 : Int32))).toNatClampNeg) (74 + 13 * (x1).toNatClampNeg) X) (fun _ X_5 => gin (x1 + ((1 : Int32))) 5 (bnw (fX6_addShot Z (74 + 13 * (x1 + ((1 : Int32))).toNatClampNeg) x2 x3 x4 X_5) (fun _ X_9 => bnw (f (x1 + ((1 : Int32))) x5 x6 X_9) (fun _ X_12 => some ((), X_12))))))) else some ((), X)
set_option maxHeartbeats 40000000 in
set_option maxRecDepth 100000 in
theorem ceX11_goOn {l : Launch} {E : XE} {w : XW} {z : Nat} {Z : XS} {k : Nat} {f : Int32 → Int32 → Int64 → XD → Option (Unit × XD)} (hf : ∀ {x1 x2 : Int32} {x3 : Int64} {X X1 : XD} {r : Unit}, f x1 x2 x3 X = some (r, X1) → Ct l E w yX11_spread (wsM yX11_spread cX11_spread 8 none) (rmX k 0 0) 0 0 [.ref (w.1 0), .int x1, .int x2, .long x3] z z Z Z X X1 none) (hk : 6 ≤ k)  (hL : LayC Z) {x1 : Int32} {x2 : Int32} {x3 : Int32} {x4 : Int32} {x5 : Int32} {x6 : Int64} {X X1 : XD} {r : Unit} (h : fX11_goOn Z f x1 x2 x3 x4 x5 x6 X = some (r, X1)) : Ct l E w yX11_goOn (wsM yX11_goOn cX11_goOn 8 none) (rmX (k + 1) 0 0) 0 0 [.ref (w.1 0), .int x1, .int x2, .int x3, .int x4, .int x5, .long x6] z z Z Z X X1 none := by
  refine ct_of (by decide) (Nat.le_of_ble_eq_true rfl) ?_
  intro p e s m args below meth c hC hr hin hav
  unfold fX11_goOn at h
  refine ww_lv (lv' := [(0, .ref (w.1 0)), (1, .int x1), (2, .int x2), (3, .int x3), (4, .int x4), (5, .int x5), (6, .long x6)]) rfl ?_
  refine ww_iload_n (pc := 0) hC dX11_goOn_0 1 rfl ?_
  refine ww_if_lt (pc := 1) hC h 15 dX11_goOn_1 (by decide) (fun h => ?_) (fun h => ?_)
  · exact ww_vret (pc := 15) hC hr h dX11_goOn_15
  · refine ww_iload_n (pc := 4) hC dX11_goOn_4 1 rfl ?_
    refine ww_iconst (pc := 5) hC (v := (1 : Int32)) dX11_goOn_5 (by decide) ?_
    refine ww_iadd (pc := 6) hC dX11_goOn_6 ?_
    refine ww_aload_n (pc := 7) hC dX11_goOn_7 0 rfl ?_
    refine ww_getR (pc := 8) hC 11 7 73 hL.1 RX11 (by decide) (by decide) rfl (lay_11_7 hL).1 qf_X11_43 rfl dX11_goOn_8 ?_
    refine ww_alen (pc := 11) hC ((5 : Int32)) ((lay_11_7 hL).2) (by decide) (by decide) rfl dX11_goOn_11 ?_
    refine ww_icmp_lt (pc := 12) hC h 16 dX11_goOn_12 (by decide) (fun h => ?_) (fun h => ?_)
    · refine ww_aload_n (pc := 16) hC dX11_goOn_16 0 rfl ?_
      refine ww_getR (pc := 17) hC 11 7 73 hL.1 RX11 (by decide) (by decide) rfl (lay_11_7 hL).1 qf_X11_43 rfl dX11_goOn_17 ?_
      refine ww_iload_n (pc := 20) hC dX11_goOn_20 1 rfl ?_
      refine ww_iconst (pc := 21) hC (v := (1 : Int32)) dX11_goOn_21 (by decide) ?_
      refine ww_iadd (pc := 22) hC dX11_goOn_22 ?_
      have hin1 := (gin_i h).1
      refine ww_aald (pc := 23) hC (74 + 13 * (x1 + ((1 : Int32))).toNatClampNeg) ((lay_11_7 hL).2) (by decide) (by decide) h (fun q => (lay_el18 hL q).1) dX11_goOn_23 (fun h => ?_)
      refine ww_aload_n (pc := 24) hC dX11_goOn_24 0 rfl ?_
      refine ww_getR (pc := 25) hC 11 7 73 hL.1 RX11 (by decide) (by decide) rfl (lay_11_7 hL).1 qf_X11_43 rfl dX11_goOn_25 ?_
      refine ww_iload_n (pc := 28) hC dX11_goOn_28 1 rfl ?_
      have hin2 := (gin_i h).1
      refine ww_aald (pc := 29) hC (74 + 13 * (x1).toNatClampNeg) ((lay_11_7 hL).2) (by decide) (by decide) h (fun q => (lay_el18 hL q).1) dX11_goOn_29 (fun h => ?_)
      obtain ⟨_, X_5, h3, h⟩ := bnw_i h
      refine ww_callVv (pc := 30) hC [.ref (w.1 (74 + 13 * (x1).toNatClampNeg))] ((lay_el18 hL hin1).2).1 ((lay_el18 hL hin1).2).2 (by decide) (ceX6_takeRound hL ((lay_el18 hL hin1).2) ((lay_el18 hL hin2).2) h3) ql_X11_328 qi_X6_takeRound qs_X6_X6_takeRound qn_X6 qc_X6_takeRound rfl ⟨by decide, by decide, rfl⟩ rfl (x_lev (k := 1) (k2 := k + 1) (by omega)) (by decide) (rest := []) (Nat.le_of_ble_eq_true rfl) dX11_goOn_30 ⟨Nat.le_of_ble_eq_true rfl, Nat.le_of_ble_eq_true rfl⟩ rfl ?_
      refine ww_aload_n (pc := 33) hC dX11_goOn_33 0 rfl ?_
      refine ww_getR (pc := 34) hC 11 7 73 hL.1 RX11 (by decide) (by decide) rfl (lay_11_7 hL).1 qf_X11_43 rfl dX11_goOn_34 ?_
      refine ww_iload_n (pc := 37) hC dX11_goOn_37 1 rfl ?_
      refine ww_iconst (pc := 38) hC (v := (1 : Int32)) dX11_goOn_38 (by decide) ?_
      refine ww_iadd (pc := 39) hC dX11_goOn_39 ?_
      have hin6 := (gin_i h).1
      refine ww_aald (pc := 40) hC (74 + 13 * (x1 + ((1 : Int32))).toNatClampNeg) ((lay_11_7 hL).2) (by decide) (by decide) h (fun q => (lay_el18 hL q).1) dX11_goOn_40 (fun h => ?_)
      refine ww_iload_n (pc := 41) hC dX11_goOn_41 2 rfl ?_
      refine ww_iload_n (pc := 42) hC dX11_goOn_42 3 rfl ?_
      refine ww_iload (pc := 43) hC dX11_goOn_43 4 rfl ?_
      obtain ⟨_, X_9, h7, h⟩ := bnw_i h
      refine ww_callVv (pc := 45) hC [.int x2, .int x3, .int x4] ((lay_el18 hL hin6).2).1 ((lay_el18 hL hin6).2).2 (by decide) (ceX6_addShot hL ((lay_el18 hL hin6).2) h7) ql_X11_180 qi_X6_addShot qs_X6_X6_addShot qn_X6 qc_X6_addShot rfl ⟨by decide, by decide, rfl⟩ rfl (x_lev (k := 1) (k2 := k + 1) (by omega)) (by decide) (rest := []) (Nat.le_of_ble_eq_true rfl) dX11_goOn_45 ⟨Nat.le_of_ble_eq_true rfl, Nat.le_of_ble_eq_true rfl⟩ rfl ?_
      refine ww_aload_n (pc := 48) hC dX11_goOn_48 0 rfl ?_
      refine ww_iload_n (pc := 49) hC dX11_goOn_49 1 rfl ?_
      refine ww_iconst (pc := 50) hC (v := (1 : Int32)) dX11_goOn_50 (by decide) ?_
      refine ww_iadd (pc := 51) hC dX11_goOn_51 ?_
      refine ww_iload (pc := 52) hC dX11_goOn_52 5 rfl ?_
      refine ww_lload (pc := 54) hC dX11_goOn_54 6 rfl ?_
      obtain ⟨_, X_12, h10, h⟩ := bnw_i h
      refine ww_callVv (pc := 56) hC [.int (x1 + ((1 : Int32))), .int x5, .long x6] hL.1.1 hL.1.2 (by decide) (hf h10) ql_X11_334 qi_X11_spread qs_X11_X11_spread qn_X11 qc_X11_spread rfl ⟨by decide, by decide, rfl⟩ rfl (x_lev (k := k) (k2 := k + 1) (by omega)) (by decide) (rest := []) (Nat.le_of_ble_eq_true rfl) dX11_goOn_56 ⟨Nat.le_of_ble_eq_true rfl, Nat.le_of_ble_eq_true rfl⟩ rfl ?_
      exact ww_vret (pc := 59) hC hr h dX11_goOn_59
    · exact ww_vret (pc := 15) hC hr h dX11_goOn_15
noncomputable def fX11_spread_27 (Z : XS) (f : Int32 → Int32 → Int64 → XD → Option (Unit × XD)) (x2 : Int32) (x3 : Int64) (X : XD) : Option (Unit × XD) := if x2 < 0 then some ((), X) else if ((5 : Int32)) ≤ x2 then some ((), X) else gin x2 5 (gin x2 5 (nm (wJ X 153 (x2).toNatClampNeg ((X.2 153 (x2).toNatClampNeg) + x3)) (fun X_18 => some ((), X_18))))
noncomputable def fX11_spread_161 (Z : XS) (f : Int32 → Int32 → Int64 → XD → Option (Unit × XD)) (x1 : Int32) (x2 : Int32) (x3 : Int64) (tL5 : Nat) (x6 : Int32) (x7 : Int32) (X : XD) : Option (Unit × XD) := if ((100 : Int32)) ≤ x7 then some ((), X) else bnw (fX11_goOn Z f x1 (X.1 tL5 0) x6 ((0 : Int32)) x2 (x3 * ((((100 : Int32)) - x7).toInt64)) X) (fun _ X_21 => some ((), X_21))
noncomputable def fX11_spread (Z : XS) (f : Int32 → Int32 → Int64 → XD → Option (Unit × XD)) (x1 : Int32) (x2 : Int32) (x3 : Int64) (X : XD) : Option (Unit × XD) := if x1 < 0 then fX11_spread_27 Z f x2 x3 X else if (X.1 52 1) ≤ x1 then fX11_spread_27 Z f x2 x3 X else if x1 < ((4 : Int32)) then gin x1 4 (bnd (fX3_at Z 52 (X.1 155 (x1).toNatClampNeg) X) (fun r2 => bnd (fX11_find Z r2 X) (fun r4 => mto r4 (some ((), X)) (fun t5 => if x1 < ((5 : Int32)) then gin x1 5 (bnw (fX11_look Z (74 + 13 * (x1).toNatClampNeg) t5 X) (fun _ X_9 => gin x1 5 (bnd (fV_X4_side Z t5 139 (74 + 13 * (x1).toNatClampNeg) X_9) (fun r12 => bnd (fX9_chanceBy Z 139 r12 (X_9.1 139 2) X_9) (fun r14 => if r14 ≤ 0 then fX11_spread_161 Z f x1 x2 x3 t5 r12 r14 X_9 else bnw (fX11_goOn Z f x1 (X_9.1 t5 0) r12 ((1 : Int32)) (x2 + ((1 : Int32))) (x3 * r14.toInt64) X_9) (fun _ X_17 => fX11_spread_161 Z f x1 x2 x3 t5 r12 r14 X_17)))))) else some ((), X))))) else fX11_spread_27 Z f x2 x3 X
set_option maxHeartbeats 40000000 in
set_option maxRecDepth 100000 in
theorem ceX11_spread {l : Launch} {E : XE} {w : XW} {z : Nat} {Z : XS} {k : Nat} {f : Int32 → Int32 → Int64 → XD → Option (Unit × XD)} (hf : ∀ {x1 x2 : Int32} {x3 : Int64} {X X1 : XD} {r : Unit}, f x1 x2 x3 X = some (r, X1) → Ct l E w yX11_spread (wsM yX11_spread cX11_spread 8 none) (rmX k 0 0) 0 0 [.ref (w.1 0), .int x1, .int x2, .long x3] z z Z Z X X1 none) (hk : 6 ≤ k)  (hL : LayC Z) {x1 : Int32} {x2 : Int32} {x3 : Int64} {X X1 : XD} {r : Unit} (h : fX11_spread Z f x1 x2 x3 X = some (r, X1)) : Ct l E w yX11_spread (wsM yX11_spread cX11_spread 8 none) (rmX (k + 2) 0 0) 0 0 [.ref (w.1 0), .int x1, .int x2, .long x3] z z Z Z X X1 none := by
  refine ct_of (by decide) (Nat.le_of_ble_eq_true rfl) ?_
  intro p e s m args below meth c hC hr hin hav
  have j27 : ∀ (x2 : Int32) (x3 : Int64) (X : XD), fX11_spread_27 Z f x2 x3 X = some (r, X1) → WW p l e (rmX (k + 2) 0 0) s m args below meth c 8 (MQ below (XQ E w z Z X1 none) args s 0 0 (A0 E)) E w 0 0 z Z 27 [(0, .ref (w.1 0)), (2, .int x2), (3, .long x3)] [] X := by
    intro x2 x3 X h
    unfold fX11_spread_27 at h
    refine ww_iload_n (pc := 27) hC dX11_spread_27 1 rfl ?_
    refine ww_if_lt (pc := 28) hC h 50 dX11_spread_28 (by decide) (fun h => ?_) (fun h => ?_)
    · exact ww_vret (pc := 50) hC hr h dX11_spread_50
    · refine ww_iload_n (pc := 31) hC dX11_spread_31 1 rfl ?_
      refine ww_aload_n (pc := 32) hC dX11_spread_32 0 rfl ?_
      refine ww_getR (pc := 33) hC 11 13 153 hL.1 RX11 (by decide) (by decide) rfl (lay_11_13 hL).1 qf_X11_75 rfl dX11_spread_33 ?_
      refine ww_alen (pc := 36) hC ((5 : Int32)) ((lay_11_13 hL).2) (by decide) (by decide) rfl dX11_spread_36 ?_
      refine ww_icmp_ge (pc := 37) hC h 50 dX11_spread_37 (by decide) (fun h => ?_) (fun h => ?_)
      · exact ww_vret (pc := 50) hC hr h dX11_spread_50
      · refine ww_aload_n (pc := 40) hC dX11_spread_40 0 rfl ?_
        refine ww_getR (pc := 41) hC 11 13 153 hL.1 RX11 (by decide) (by decide) rfl (lay_11_13 hL).1 qf_X11_75 rfl dX11_spread_41 ?_
        refine ww_iload_n (pc := 44) hC dX11_spread_44 1 rfl ?_
        refine ww_dup2_11 (pc := 45) hC dX11_spread_45 rfl rfl ?_
        refine ww_lald (pc := 46) hC ((lay_11_13 hL).2) h dX11_spread_46 (fun h => ?_)
        refine ww_lload_n (pc := 47) hC dX11_spread_47 2 rfl ?_
        refine ww_ladd (pc := 48) hC dX11_spread_48 ?_
        refine ww_last (pc := 49) hC ((lay_11_13 hL).2) h dX11_spread_49 (fun h => ?_)
        obtain ⟨X_18, eX_18⟩ : ∃ q, q = wJ X 153 (x2).toNatClampNeg ((X.2 153 (x2).toNatClampNeg) + x3) := ⟨_, rfl⟩
        replace h := nm_i h eX_18
        refine ww_nmX eX_18 ?_
        exact ww_vret (pc := 50) hC hr h dX11_spread_50
  have j161 : ∀ (x1 : Int32) (x2 : Int32) (x3 : Int64) (tL5 : Nat) (h_tL5 : KS Z tL5) (x6 : Int32) (x7 : Int32) (X : XD), fX11_spread_161 Z f x1 x2 x3 tL5 x6 x7 X = some (r, X1) → WW p l e (rmX (k + 2) 0 0) s m args below meth c 8 (MQ below (XQ E w z Z X1 none) args s 0 0 (A0 E)) E w 0 0 z Z 161 [(0, .ref (w.1 0)), (1, .int x1), (2, .int x2), (3, .long x3), (5, .ref (w.1 tL5)), (6, .int x6), (7, .int x7)] [] X := by
    intro x1 x2 x3 tL5 h_tL5 x6 x7 X h
    unfold fX11_spread_161 at h
    refine ww_iload (pc := 161) hC dX11_spread_161 6 rfl ?_
    refine ww_bipush (pc := 163) hC (v := (100 : Int32)) dX11_spread_163 (by decide) ?_
    refine ww_icmp_ge (pc := 165) hC h 190 dX11_spread_165 (by decide) (fun h => ?_) (fun h => ?_)
    · exact ww_vret (pc := 190) hC hr h dX11_spread_190
    · refine ww_aload_n (pc := 168) hC dX11_spread_168 0 rfl ?_
      refine ww_iload_n (pc := 169) hC dX11_spread_169 1 rfl ?_
      refine ww_aload (pc := 170) hC dX11_spread_170 4 rfl ?_
      refine ww_getS (pc := 172) hC 0 (by decide) h_tL5 RX4 "number" rfl qf_X11_241 (Or.inl rfl) dX11_spread_172 ?_
      refine ww_iload (pc := 175) hC dX11_spread_175 5 rfl ?_
      refine ww_iconst (pc := 177) hC (v := (0 : Int32)) dX11_spread_177 (by decide) ?_
      refine ww_iload_n (pc := 178) hC dX11_spread_178 2 rfl ?_
      refine ww_lload_n (pc := 179) hC dX11_spread_179 3 rfl ?_
      refine ww_bipush (pc := 180) hC (v := (100 : Int32)) dX11_spread_180 (by decide) ?_
      refine ww_iload (pc := 182) hC dX11_spread_182 6 rfl ?_
      refine ww_isub (pc := 184) hC dX11_spread_184 ?_
      refine ww_i2l (pc := 185) hC dX11_spread_185 ?_
      refine ww_lmul (pc := 186) hC dX11_spread_186 ?_
      obtain ⟨_, X_21, h19, h⟩ := bnw_i h
      refine ww_callVv (pc := 187) hC [.int x1, .int (X.1 tL5 0), .int x6, .int ((0 : Int32)), .int x2, .long (x3 * ((((100 : Int32)) - x7).toInt64))] hL.1.1 hL.1.2 (by decide) (ceX11_goOn hf hk hL h19) ql_X11_338 qi_X11_goOn qs_X11_X11_goOn qn_X11 qc_X11_goOn rfl ⟨by decide, by decide, rfl⟩ rfl (x_lev (k := k + 1) (k2 := k + 2) (by omega)) (by decide) (rest := []) (Nat.le_of_ble_eq_true rfl) dX11_spread_187 ⟨Nat.le_of_ble_eq_true rfl, Nat.le_of_ble_eq_true rfl⟩ rfl ?_
      exact ww_vret (pc := 190) hC hr h dX11_spread_190
  unfold fX11_spread at h
  refine ww_lv (lv' := [(0, .ref (w.1 0)), (1, .int x1), (2, .int x2), (3, .long x3)]) rfl ?_
  refine ww_iload_n (pc := 0) hC dX11_spread_0 1 rfl ?_
  refine ww_if_lt (pc := 1) hC h 27 dX11_spread_1 (by decide) (fun h => ?_) (fun h => ?_)
  · refine ww_sub [0, 2, 3] rfl ?_
    exact j27 _ _ _ h
  · refine ww_iload_n (pc := 4) hC dX11_spread_4 1 rfl ?_
    refine ww_aload_n (pc := 5) hC dX11_spread_5 0 rfl ?_
    refine ww_getR (pc := 6) hC 11 4 47 hL.1 RX11 (by decide) (by decide) rfl (lay_11_4 hL).1 qf_X11_36 rfl dX11_spread_6 ?_
    refine ww_getR (pc := 9) hC 6 8 52 ((lay_11_4 hL).2) RX6 (by decide) (by decide) rfl (lay_6_8 hL ((lay_11_4 hL).2)).1 qf_X11_194 rfl dX11_spread_9 ?_
    refine ww_getI (pc := 12) hC 3 1 ((lay_6_8 hL ((lay_11_4 hL).2)).2) RX3 (by decide) (by decide) rfl qf_X11_145 (Or.inl rfl) dX11_spread_12 ?_
    refine ww_icmp_ge (pc := 15) hC h 27 dX11_spread_15 (by decide) (fun h => ?_) (fun h => ?_)
    · refine ww_sub [0, 2, 3] rfl ?_
      exact j27 _ _ _ h
    · refine ww_iload_n (pc := 18) hC dX11_spread_18 1 rfl ?_
      refine ww_aload_n (pc := 19) hC dX11_spread_19 0 rfl ?_
      refine ww_getR (pc := 20) hC 11 15 155 hL.1 RX11 (by decide) (by decide) rfl (lay_11_15 hL).1 qf_X11_82 rfl dX11_spread_20 ?_
      refine ww_alen (pc := 23) hC ((4 : Int32)) ((lay_11_15 hL).2) (by decide) (by decide) rfl dX11_spread_23 ?_
      refine ww_icmp_lt (pc := 24) hC h 51 dX11_spread_24 (by decide) (fun h => ?_) (fun h => ?_)
      · refine ww_aload_n (pc := 51) hC dX11_spread_51 0 rfl ?_
        refine ww_aload_n (pc := 52) hC dX11_spread_52 0 rfl ?_
        refine ww_getR (pc := 53) hC 11 4 47 hL.1 RX11 (by decide) (by decide) rfl (lay_11_4 hL).1 qf_X11_36 rfl dX11_spread_53 ?_
        refine ww_getR (pc := 56) hC 6 8 52 ((lay_11_4 hL).2) RX6 (by decide) (by decide) rfl (lay_6_8 hL ((lay_11_4 hL).2)).1 qf_X11_194 rfl dX11_spread_56 ?_
        refine ww_aload_n (pc := 59) hC dX11_spread_59 0 rfl ?_
        refine ww_getR (pc := 60) hC 11 15 155 hL.1 RX11 (by decide) (by decide) rfl (lay_11_15 hL).1 qf_X11_82 rfl dX11_spread_60 ?_
        refine ww_iload_n (pc := 63) hC dX11_spread_63 1 rfl ?_
        refine ww_iald (pc := 64) hC ((lay_11_15 hL).2) h dX11_spread_64 (fun h => ?_)
        obtain ⟨r2, h1, h⟩ := bnd_i h
        refine ww_callVi (pc := 65) hC [.int (X.1 155 (x1).toNatClampNeg)] ((lay_6_8 hL ((lay_11_4 hL).2)).2).1 ((lay_6_8 hL ((lay_11_4 hL).2)).2).2 (by decide) (ceX3_at hL ((lay_6_8 hL ((lay_11_4 hL).2)).2) h1) ql_X11_238 qi_X3_at qs_X3_X3_at qn_X3 qc_X3_at rfl ⟨by decide, by decide, rfl⟩ rfl (x_lev (k := 1) (k2 := k + 2) (by omega)) (by decide) (rest := [.ref (w.1 0)]) (Nat.le_of_ble_eq_true rfl) dX11_spread_65 ⟨Nat.le_of_ble_eq_true rfl, Nat.le_of_ble_eq_true rfl⟩ rfl ?_
        obtain ⟨r4, h3, h⟩ := bnd_i h
        rcases r4 with _ | t5
        · replace h := mto_n h
          refine ww_callVn (pc := 68) hC [.int r2] hL.1.1 hL.1.2 (by decide) (ceX11_find hL h3) ql_X11_95 qi_X11_find qs_X11_X11_find qn_X11 qc_X11_find rfl ⟨by decide, by decide, rfl⟩ rfl (x_lev (k := 1) (k2 := k + 2) (by omega)) (by decide) (rest := []) (Nat.le_of_ble_eq_true rfl) dX11_spread_68 ⟨Nat.le_of_ble_eq_true rfl, Nat.le_of_ble_eq_true rfl⟩ rfl ?_
          refine ww_astoreN (pc := 71) hC [(5, .null), (0, .ref (w.1 0)), (1, .int x1), (2, .int x2), (3, .long x3)] dX11_spread_71  (by decide) rfl ?_
          refine ww_aloadN (pc := 73) hC dX11_spread_73 0 rfl ?_
          refine ww_ifnullN (pc := 75) hC 87 dX11_spread_75 (by decide) ?_
          exact ww_vret (pc := 87) hC hr h dX11_spread_87
        · replace h := mto_s h
          have hkt5 : KS Z t5 := ks_find hL h3
          refine ww_callVr (pc := 68) hC [.int r2] hL.1.1 hL.1.2 (by decide) (ceX11_find hL h3) ql_X11_95 qi_X11_find qs_X11_X11_find qn_X11 qc_X11_find rfl ⟨by decide, by decide, rfl⟩ rfl (x_lev (k := 1) (k2 := k + 2) (by omega)) (by decide) (rest := []) (Nat.le_of_ble_eq_true rfl) dX11_spread_68 ⟨Nat.le_of_ble_eq_true rfl, Nat.le_of_ble_eq_true rfl⟩ rfl ?_
          refine ww_astore (pc := 71) hC [(5, .ref (w.1 t5)), (0, .ref (w.1 0)), (1, .int x1), (2, .int x2), (3, .long x3)] dX11_spread_71  (by decide) rfl ?_
          refine ww_aload (pc := 73) hC dX11_spread_73 0 rfl ?_
          refine ww_ifnull (pc := 75) hC dX11_spread_75 ?_
          refine ww_iload_n (pc := 78) hC dX11_spread_78 2 rfl ?_
          refine ww_aload_n (pc := 79) hC dX11_spread_79 1 rfl ?_
          refine ww_getR (pc := 80) hC 11 7 73 hL.1 RX11 (by decide) (by decide) rfl (lay_11_7 hL).1 qf_X11_43 rfl dX11_spread_80 ?_
          refine ww_alen (pc := 83) hC ((5 : Int32)) ((lay_11_7 hL).2) (by decide) (by decide) rfl dX11_spread_83 ?_
          refine ww_icmp_lt (pc := 84) hC h 88 dX11_spread_84 (by decide) (fun h => ?_) (fun h => ?_)
          · refine ww_aload_n (pc := 88) hC dX11_spread_88 1 rfl ?_
            refine ww_aload_n (pc := 89) hC dX11_spread_89 1 rfl ?_
            refine ww_getR (pc := 90) hC 11 7 73 hL.1 RX11 (by decide) (by decide) rfl (lay_11_7 hL).1 qf_X11_43 rfl dX11_spread_90 ?_
            refine ww_iload_n (pc := 93) hC dX11_spread_93 2 rfl ?_
            have hin6 := (gin_i h).1
            refine ww_aald (pc := 94) hC (74 + 13 * (x1).toNatClampNeg) ((lay_11_7 hL).2) (by decide) (by decide) h (fun q => (lay_el18 hL q).1) dX11_spread_94 (fun h => ?_)
            refine ww_aload (pc := 95) hC dX11_spread_95 0 rfl ?_
            obtain ⟨_, X_9, h7, h⟩ := bnw_i h
            refine ww_callVv (pc := 97) hC [.ref (w.1 (74 + 13 * (x1).toNatClampNeg)), .ref (w.1 t5)] hL.1.1 hL.1.2 (by decide) (ceX11_look hL ((lay_el18 hL hin6).2) hkt5 h7) ql_X11_116 qi_X11_look qs_X11_X11_look qn_X11 qc_X11_look rfl ⟨by decide, by decide, rfl⟩ rfl (x_lev (k := 5) (k2 := k + 2) (by omega)) (by decide) (rest := []) (Nat.le_of_ble_eq_true rfl) dX11_spread_97 ⟨Nat.le_of_ble_eq_true rfl, Nat.le_of_ble_eq_true rfl⟩ rfl ?_
            refine ww_aload (pc := 100) hC dX11_spread_100 0 rfl ?_
            refine ww_aload_n (pc := 102) hC dX11_spread_102 1 rfl ?_
            refine ww_getR (pc := 103) hC 11 8 139 hL.1 RX11 (by decide) (by decide) rfl (lay_11_8 hL).1 qf_X11_50 rfl dX11_spread_103 ?_
            refine ww_aload_n (pc := 106) hC dX11_spread_106 1 rfl ?_
            refine ww_getR (pc := 107) hC 11 7 73 hL.1 RX11 (by decide) (by decide) rfl (lay_11_7 hL).1 qf_X11_43 rfl dX11_spread_107 ?_
            refine ww_iload_n (pc := 110) hC dX11_spread_110 2 rfl ?_
            have hin10 := (gin_i h).1
            refine ww_aald (pc := 111) hC (74 + 13 * (x1).toNatClampNeg) ((lay_11_7 hL).2) (by decide) (by decide) h (fun q => (lay_el18 hL q).1) dX11_spread_111 (fun h => ?_)
            obtain ⟨r12, h11, h⟩ := bnd_i h
            refine vd_X4_side (pc := 112) hC hL hkt5 ((lay_11_8 hL).2) ((lay_el18 hL hin10).2) h11 ql_X11_173 (x_lev (k := 4) (k2 := k + 2) (by omega)) (Nat.le_of_ble_eq_true rfl) dX11_spread_112 ⟨Nat.le_of_ble_eq_true rfl, Nat.le_of_ble_eq_true rfl⟩ ?_
            refine ww_istore (pc := 115) hC [(6, .int r12), (5, .ref (w.1 t5)), (0, .ref (w.1 0)), (1, .int x1), (2, .int x2), (3, .long x3)] dX11_spread_115  (by decide) rfl ?_
            refine ww_aload_n (pc := 117) hC dX11_spread_117 2 rfl ?_
            refine ww_getR (pc := 118) hC 11 8 139 hL.1 RX11 (by decide) (by decide) rfl (lay_11_8 hL).1 qf_X11_50 rfl dX11_spread_118 ?_
            refine ww_iload (pc := 121) hC dX11_spread_121 0 rfl ?_
            refine ww_aload_n (pc := 123) hC dX11_spread_123 2 rfl ?_
            refine ww_getR (pc := 124) hC 11 8 139 hL.1 RX11 (by decide) (by decide) rfl (lay_11_8 hL).1 qf_X11_50 rfl dX11_spread_124 ?_
            refine ww_getI (pc := 127) hC 9 2 ((lay_11_8 hL).2) RX9 (by decide) (by decide) rfl qf_X11_177 (Or.inl rfl) dX11_spread_127 ?_
            obtain ⟨r14, h13, h⟩ := bnd_i h
            refine ww_callVi (pc := 130) hC [.int r12, .int (X_9.1 139 2)] ((lay_11_8 hL).2).1 ((lay_11_8 hL).2).2 (by decide) (ceX9_chanceBy hL ((lay_11_8 hL).2) h13) ql_X11_167 qi_X9_chanceBy qs_X9_X9_chanceBy qn_X9 qc_X9_chanceBy rfl ⟨by decide, by decide, rfl⟩ rfl (x_lev (k := 2) (k2 := k + 2) (by omega)) (by decide) (rest := []) (Nat.le_of_ble_eq_true rfl) dX11_spread_130 ⟨Nat.le_of_ble_eq_true rfl, Nat.le_of_ble_eq_true rfl⟩ rfl ?_
            refine ww_istore (pc := 133) hC [(7, .int r14), (6, .int r12), (5, .ref (w.1 t5)), (0, .ref (w.1 0)), (1, .int x1), (2, .int x2), (3, .long x3)] dX11_spread_133  (by decide) rfl ?_
            refine ww_iload (pc := 135) hC dX11_spread_135 0 rfl ?_
            refine ww_if_le (pc := 137) hC h 161 dX11_spread_137 (by decide) (fun h => ?_) (fun h => ?_)
            · refine ww_sub [3, 4, 5, 6, 2, 1, 0] rfl ?_
              exact j161 _ _ _ _ hkt5 _ _ _ h
            · refine ww_aload_n (pc := 140) hC dX11_spread_140 3 rfl ?_
              refine ww_iload_n (pc := 141) hC dX11_spread_141 4 rfl ?_
              refine ww_aload (pc := 142) hC dX11_spread_142 2 rfl ?_
              refine ww_getS (pc := 144) hC 0 (by decide) hkt5 RX4 "number" rfl qf_X11_241 (Or.inl rfl) dX11_spread_144 ?_
              refine ww_iload (pc := 147) hC dX11_spread_147 1 rfl ?_
              refine ww_iconst (pc := 149) hC (v := (1 : Int32)) dX11_spread_149 (by decide) ?_
              refine ww_iload_n (pc := 150) hC dX11_spread_150 5 rfl ?_
              refine ww_iconst (pc := 151) hC (v := (1 : Int32)) dX11_spread_151 (by decide) ?_
              refine ww_iadd (pc := 152) hC dX11_spread_152 ?_
              refine ww_lload_n (pc := 153) hC dX11_spread_153 6 rfl ?_
              refine ww_iload (pc := 154) hC dX11_spread_154 0 rfl ?_
              refine ww_i2l (pc := 156) hC dX11_spread_156 ?_
              refine ww_lmul (pc := 157) hC dX11_spread_157 ?_
              obtain ⟨_, X_17, h15, h⟩ := bnw_i h
              refine ww_callVv (pc := 158) hC [.int x1, .int (X_9.1 t5 0), .int r12, .int ((1 : Int32)), .int (x2 + ((1 : Int32))), .long (x3 * r14.toInt64)] hL.1.1 hL.1.2 (by decide) (ceX11_goOn hf hk hL h15) ql_X11_338 qi_X11_goOn qs_X11_X11_goOn qn_X11 qc_X11_goOn rfl ⟨by decide, by decide, rfl⟩ rfl (x_lev (k := k + 1) (k2 := k + 2) (by omega)) (by decide) (rest := []) (Nat.le_of_ble_eq_true rfl) dX11_spread_158 ⟨Nat.le_of_ble_eq_true rfl, Nat.le_of_ble_eq_true rfl⟩ rfl ?_
              refine ww_sub [3, 4, 5, 6, 2, 1, 0] rfl ?_
              exact j161 _ _ _ _ hkt5 _ _ _ h
          · exact ww_vret (pc := 87) hC hr h dX11_spread_87
      · refine ww_sub [0, 2, 3] rfl ?_
        exact j27 _ _ _ h
noncomputable def fX11_spreadN (Z : XS) (n : Nat) : Int32 → Int32 → Int64 → XD → Option (Unit × XD) := Nat.rec (motive := fun _ => Int32 → Int32 → Int64 → XD → Option (Unit × XD)) (fun _ _ _ _ => none) (fun _ f => fX11_spread Z f) n
theorem fX11_spreadN_s (Z : XS) (n : Nat) : fX11_spreadN Z (n + 1) = fX11_spread Z (fX11_spreadN Z n) := rfl
theorem ceX11_spreadN {l : Launch} {E : XE} {w : XW} {z : Nat} {Z : XS} (hL : LayC Z) : ∀ (n : Nat) {x1 x2 : Int32} {x3 : Int64} {X X1 : XD} {r : Unit}, fX11_spreadN Z n x1 x2 x3 X = some (r, X1) → Ct l E w yX11_spread (wsM yX11_spread cX11_spread 8 none) (rmX (6 + 2 * n) 0 0) 0 0 [.ref (w.1 0), .int x1, .int x2, .long x3] z z Z Z X X1 none := by
  intro n
  induction n with
  | zero => intro x1 x2 x3 X X1 r h; cases (show none = some (r, X1) from h)
  | succ n ih => intro x1 x2 x3 X X1 r h; exact ceX11_spread (k := 6 + 2 * n) ih (Nat.le_add_right _ _) hL h
noncomputable def fX11_reckonLine_2 (Z : XS) (n : Nat) : Int32 → XD → Option (Unit × XD) := Nat.rec (motive := fun _ => Int32 → XD → Option (Unit × XD)) (fun _ _ => none) (fun _ f => fun x1 X => if ((4 : Int32)) ≤ x1 then bnw (fX11_beginReckoning Z X) (fun _ X_3 => bnw (fX11_spreadN Z 6 ((0 : Int32)) ((0 : Int32)) ((1 : Int64)) X_3) (fun _ X_6 => some ((), X_6))) else gin x1 4 (nm (wI X 155 (x1).toNatClampNeg x1) (fun X_7 => nm (x1 + (1 : Int32)) (fun y8 => f y8 X_7)))) n
theorem fX11_reckonLine_2_s (Z : XS) (n : Nat) (x1 : Int32) (X : XD) : fX11_reckonLine_2 Z (n + 1) x1 X = if ((4 : Int32)) ≤ x1 then bnw (fX11_beginReckoning Z X) (fun _ X_3 => bnw (fX11_spreadN Z 6 ((0 : Int32)) ((0 : Int32)) ((1 : Int64)) X_3) (fun _ X_6 => some ((), X_6))) else gin x1 4 (nm (wI X 155 (x1).toNatClampNeg x1) (fun X_7 => nm (x1 + (1 : Int32)) (fun y8 => (fX11_reckonLine_2 Z n) y8 X_7))) := rfl
noncomputable def fX11_reckonLine (Z : XS) (X : XD) : Option (Unit × XD) := fX11_reckonLine_2 Z FU ((0 : Int32)) X
set_option maxHeartbeats 40000000 in
set_option maxRecDepth 100000 in
theorem ceX11_reckonLine {l : Launch} {E : XE} {w : XW} {z : Nat} {Z : XS}  (hL : LayC Z) {X X1 : XD} {r : Unit} (h : fX11_reckonLine Z X = some (r, X1)) : Ct l E w yX11_reckonLine (wsM yX11_reckonLine cX11_reckonLine 2 none) (rmX 19 0 0) 0 0 [.ref (w.1 0)] z z Z Z X X1 none := by
  refine ct_of (by decide) (Nat.le_of_ble_eq_true rfl) ?_
  intro p e s m args below meth c hC hr hin hav
  have j2 : ∀ (n : Nat), ∀ (x1 : Int32) (X : XD), fX11_reckonLine_2 Z n x1 X = some (r, X1) → WW p l e (rmX 19 0 0) s m args below meth c 2 (MQ below (XQ E w z Z X1 none) args s 0 0 (A0 E)) E w 0 0 z Z 2 [(0, .ref (w.1 0)), (1, .int x1)] [] X := by
    intro n
    induction n with
    | zero =>
      intro x1 X h
      cases (show none = some (r, X1) from h)
    | succ n ih =>
      intro x1 X h
      rw [fX11_reckonLine_2_s] at h
      refine ww_iload_n (pc := 2) hC dX11_reckonLine_2 1 rfl ?_
      refine ww_aload_n (pc := 3) hC dX11_reckonLine_3 0 rfl ?_
      refine ww_getR (pc := 4) hC 11 15 155 hL.1 RX11 (by decide) (by decide) rfl (lay_11_15 hL).1 qf_X11_82 rfl dX11_reckonLine_4 ?_
      refine ww_alen (pc := 7) hC ((4 : Int32)) ((lay_11_15 hL).2) (by decide) (by decide) rfl dX11_reckonLine_7 ?_
      refine ww_icmp_ge (pc := 8) hC h 24 dX11_reckonLine_8 (by decide) (fun h => ?_) (fun h => ?_)
      · refine ww_aload_n (pc := 24) hC dX11_reckonLine_24 0 rfl ?_
        obtain ⟨_, X_3, h1, h⟩ := bnw_i h
        refine ww_callVv (pc := 25) hC [] hL.1.1 hL.1.2 (by decide) (ceX11_beginReckoning hL h1) ql_X11_331 qi_X11_beginReckoning qs_X11_X11_beginReckoning qn_X11 qc_X11_beginReckoning rfl ⟨by decide, by decide, rfl⟩ rfl ⟨Nat.le_of_ble_eq_true rfl, Nat.le_of_ble_eq_true rfl⟩ (by decide) (rest := []) (Nat.le_of_ble_eq_true rfl) dX11_reckonLine_25 ⟨Nat.le_of_ble_eq_true rfl, Nat.le_of_ble_eq_true rfl⟩ rfl ?_
        refine ww_aload_n (pc := 28) hC dX11_reckonLine_28 0 rfl ?_
        refine ww_iconst (pc := 29) hC (v := (0 : Int32)) dX11_reckonLine_29 (by decide) ?_
        refine ww_iconst (pc := 30) hC (v := (0 : Int32)) dX11_reckonLine_30 (by decide) ?_
        refine ww_lconst (pc := 31) hC (v := (1 : Int64)) dX11_reckonLine_31 (by decide) ?_
        obtain ⟨_, X_6, h4, h⟩ := bnw_i h
        refine ww_callVv (pc := 32) hC [.int ((0 : Int32)), .int ((0 : Int32)), .long ((1 : Int64))] hL.1.1 hL.1.2 (by decide) (ceX11_spreadN hL 6 h4) ql_X11_334 qi_X11_spread qs_X11_X11_spread qn_X11 qc_X11_spread rfl ⟨by decide, by decide, rfl⟩ rfl ⟨Nat.le_of_ble_eq_true rfl, Nat.le_of_ble_eq_true rfl⟩ (by decide) (rest := []) (Nat.le_of_ble_eq_true rfl) dX11_reckonLine_32 ⟨Nat.le_of_ble_eq_true rfl, Nat.le_of_ble_eq_true rfl⟩ rfl ?_
        exact ww_vret (pc := 35) hC hr h dX11_reckonLine_35
      · refine ww_aload_n (pc := 11) hC dX11_reckonLine_11 0 rfl ?_
        refine ww_getR (pc := 12) hC 11 15 155 hL.1 RX11 (by decide) (by decide) rfl (lay_11_15 hL).1 qf_X11_82 rfl dX11_reckonLine_12 ?_
        refine ww_iload_n (pc := 15) hC dX11_reckonLine_15 1 rfl ?_
        refine ww_iload_n (pc := 16) hC dX11_reckonLine_16 1 rfl ?_
        refine ww_iast (pc := 17) hC ((lay_11_15 hL).2) h dX11_reckonLine_17 (fun h => ?_)
        obtain ⟨X_7, eX_7⟩ : ∃ q, q = wI X 155 (x1).toNatClampNeg x1 := ⟨_, rfl⟩
        replace h := nm_i h eX_7
        refine ww_nmX eX_7 ?_
        obtain ⟨y8, ey8⟩ : ∃ q, q = x1 + (1 : Int32) := ⟨_, rfl⟩
        replace h := nm_i h ey8
        refine ww_iinc (pc := 18) hC y8 [(1, .int y8), (0, .ref (w.1 0))] dX11_reckonLine_18 1 rfl (by rw [ey8]; rfl) (by decide) rfl ?_
        refine ww_goto (pc := 21) hC 2 dX11_reckonLine_21 (by decide) ?_
        refine ww_sub [1, 0] rfl ?_
        exact ih _ _ h
  unfold fX11_reckonLine at h
  refine ww_lv (lv' := [(0, .ref (w.1 0))]) rfl ?_
  refine ww_iconst (pc := 0) hC (v := (0 : Int32)) dX11_reckonLine_0 (by decide) ?_
  refine ww_istore_n (pc := 1) hC [(1, .int ((0 : Int32))), (0, .ref (w.1 0))] dX11_reckonLine_1 rfl (by decide) rfl ?_
  refine ww_sub [1, 0] rfl ?_
  exact j2 _ _ _ h
noncomputable def fX11_likely (Z : XS) (x1 : Int32) (x2 : Int32) (X : XD) : Option (Int64 × XD) := if x1 < 0 then some ((-9223372036854775808 : Int64), X) else if ((4 : Int32)) < x1 then some ((-9223372036854775808 : Int64), X) else bnd (fX11_isHalf Z x2 X) (fun r2 => if r2 = 0 then some ((-9223372036854775808 : Int64), X) else bnw (fX11_reckonLine Z X) (fun _ X_5 => if ((5 : Int32)) ≤ x1 then some ((-9223372036854775808 : Int64), X_5) else gin x1 5 (bnd (fX11_hundreds Z (X_5.1 52 1) X_5) (fun r7 => bnd (fX11_lowest Z (X_5.2 153 (x1).toNatClampNeg) r7 x2 X_5) (fun r9 => some (r9, X_5))))))
set_option maxHeartbeats 40000000 in
set_option maxRecDepth 100000 in
theorem ceX11_likely {l : Launch} {E : XE} {w : XW} {z : Nat} {Z : XS}  (hL : LayC Z) {x1 : Int32} {x2 : Int32} {X X1 : XD} {r : Int64} (h : fX11_likely Z x1 x2 X = some (r, X1)) : Ct l E w yX11_likely (wsM yX11_likely cX11_likely 3 (some .long)) (rmX 20 0 0) 0 0 [.ref (w.1 0), .int x1, .int x2] z z Z Z X X1 (some (.long r)) := by
  refine ct_of (by decide) (Nat.le_of_ble_eq_true rfl) ?_
  intro p e s m args below meth c hC hr hin hav
  unfold fX11_likely at h
  refine ww_lv (lv' := [(0, .ref (w.1 0)), (1, .int x1), (2, .int x2)]) rfl ?_
  refine ww_iload_n (pc := 0) hC dX11_likely_0 1 rfl ?_
  refine ww_if_lt (pc := 1) hC h 16 dX11_likely_1 (by decide) (fun h => ?_) (fun h => ?_)
  · refine ww_ldc2 (pc := 16) hC (v := (-9223372036854775808 : Int64)) dX11_likely_16 qg_X11_197 ?_
    exact ww_lret (pc := 19) hC hr h dX11_likely_19
  · refine ww_iload_n (pc := 4) hC dX11_likely_4 1 rfl ?_
    refine ww_iconst (pc := 5) hC (v := (4 : Int32)) dX11_likely_5 (by decide) ?_
    refine ww_icmp_gt (pc := 6) hC h 16 dX11_likely_6 (by decide) (fun h => ?_) (fun h => ?_)
    · refine ww_ldc2 (pc := 16) hC (v := (-9223372036854775808 : Int64)) dX11_likely_16 qg_X11_197 ?_
      exact ww_lret (pc := 19) hC hr h dX11_likely_19
    · refine ww_iload_n (pc := 9) hC dX11_likely_9 2 rfl ?_
      obtain ⟨r2, h1, h⟩ := bnd_i h
      refine ww_callSi (pc := 10) hC [.int x2] (ceX11_isHalf hL h1) ql_X11_184 qt_X11_isHalf qn_X11 qc_X11_isHalf ⟨by decide, by decide, rfl⟩ rfl ⟨Nat.le_of_ble_eq_true rfl, Nat.le_of_ble_eq_true rfl⟩ (by decide) (rest := []) (Nat.le_of_ble_eq_true rfl) dX11_likely_10 ⟨Nat.le_of_ble_eq_true rfl, Nat.le_of_ble_eq_true rfl⟩ rfl ?_
      refine ww_if_ne (pc := 13) hC h 20 dX11_likely_13 (by decide) (fun h => ?_) (fun h => ?_)
      · refine ww_aload_n (pc := 20) hC dX11_likely_20 0 rfl ?_
        obtain ⟨_, X_5, h3, h⟩ := bnw_i h
        refine ww_callVv (pc := 21) hC [] hL.1.1 hL.1.2 (by decide) (ceX11_reckonLine hL h3) ql_X11_199 qi_X11_reckonLine qs_X11_X11_reckonLine qn_X11 qc_X11_reckonLine rfl ⟨by decide, by decide, rfl⟩ rfl ⟨Nat.le_of_ble_eq_true rfl, Nat.le_of_ble_eq_true rfl⟩ (by decide) (rest := []) (Nat.le_of_ble_eq_true rfl) dX11_likely_21 ⟨Nat.le_of_ble_eq_true rfl, Nat.le_of_ble_eq_true rfl⟩ rfl ?_
        refine ww_iload_n (pc := 24) hC dX11_likely_24 1 rfl ?_
        refine ww_aload_n (pc := 25) hC dX11_likely_25 0 rfl ?_
        refine ww_getR (pc := 26) hC 11 13 153 hL.1 RX11 (by decide) (by decide) rfl (lay_11_13 hL).1 qf_X11_75 rfl dX11_likely_26 ?_
        refine ww_alen (pc := 29) hC ((5 : Int32)) ((lay_11_13 hL).2) (by decide) (by decide) rfl dX11_likely_29 ?_
        refine ww_icmp_ge (pc := 30) hC h 59 dX11_likely_30 (by decide) (fun h => ?_) (fun h => ?_)
        · refine ww_ldc2 (pc := 59) hC (v := (-9223372036854775808 : Int64)) dX11_likely_59 qg_X11_197 ?_
          exact ww_lret (pc := 62) hC hr h dX11_likely_62
        · refine ww_aload_n (pc := 33) hC dX11_likely_33 0 rfl ?_
          refine ww_getR (pc := 34) hC 11 13 153 hL.1 RX11 (by decide) (by decide) rfl (lay_11_13 hL).1 qf_X11_75 rfl dX11_likely_34 ?_
          refine ww_iload_n (pc := 37) hC dX11_likely_37 1 rfl ?_
          refine ww_lald (pc := 38) hC ((lay_11_13 hL).2) h dX11_likely_38 (fun h => ?_)
          refine ww_aload_n (pc := 39) hC dX11_likely_39 0 rfl ?_
          refine ww_getR (pc := 40) hC 11 4 47 hL.1 RX11 (by decide) (by decide) rfl (lay_11_4 hL).1 qf_X11_36 rfl dX11_likely_40 ?_
          refine ww_getR (pc := 43) hC 6 8 52 ((lay_11_4 hL).2) RX6 (by decide) (by decide) rfl (lay_6_8 hL ((lay_11_4 hL).2)).1 qf_X11_194 rfl dX11_likely_43 ?_
          refine ww_getI (pc := 46) hC 3 1 ((lay_6_8 hL ((lay_11_4 hL).2)).2) RX3 (by decide) (by decide) rfl qf_X11_145 (Or.inl rfl) dX11_likely_46 ?_
          obtain ⟨r7, h6, h⟩ := bnd_i h
          refine ww_callSl (pc := 49) hC [.int (X_5.1 52 1)] (ceX11_hundreds hL h6) ql_X11_202 qt_X11_hundreds qn_X11 qc_X11_hundreds ⟨by decide, by decide, rfl⟩ rfl ⟨Nat.le_of_ble_eq_true rfl, Nat.le_of_ble_eq_true rfl⟩ (by decide) (rest := [.long (X_5.2 153 (x1).toNatClampNeg)]) (Nat.le_of_ble_eq_true rfl) dX11_likely_49 ⟨Nat.le_of_ble_eq_true rfl, Nat.le_of_ble_eq_true rfl⟩ rfl ?_
          refine ww_iload_n (pc := 52) hC dX11_likely_52 2 rfl ?_
          obtain ⟨r9, h8, h⟩ := bnd_i h
          refine ww_callSl (pc := 53) hC [.long (X_5.2 153 (x1).toNatClampNeg), .long r7, .int x2] (ceX11_lowest hL h8) ql_X11_206 qt_X11_lowest qn_X11 qc_X11_lowest ⟨by decide, by decide, rfl⟩ rfl ⟨Nat.le_of_ble_eq_true rfl, Nat.le_of_ble_eq_true rfl⟩ (by decide) (rest := []) (Nat.le_of_ble_eq_true rfl) dX11_likely_53 ⟨Nat.le_of_ble_eq_true rfl, Nat.le_of_ble_eq_true rfl⟩ rfl ?_
          refine ww_goto (pc := 56) hC 62 dX11_likely_56 (by decide) ?_
          exact ww_lret (pc := 62) hC hr h dX11_likely_62
      · refine ww_ldc2 (pc := 16) hC (v := (-9223372036854775808 : Int64)) dX11_likely_16 qg_X11_197 ?_
        exact ww_lret (pc := 19) hC hr h dX11_likely_19
noncomputable def fX11_chooseOrder_77 (Z : XS) (k14 : Int32 → Int64 → Int32 → Int32 → XD → Option (Unit × XD)) (x1 : Int32) (x2 : Int64) (x4 : Int32) (x5 : Int32) (X : XD) : Option (Unit × XD) := nm (x5 + (1 : Int32)) (fun y14 => k14 x1 x2 x4 y14 X)
noncomputable def fX11_chooseOrder_14 (Z : XS) (n : Nat) : Int32 → Int64 → Int32 → Int32 → XD → Option (Unit × XD) := Nat.rec (motive := fun _ => Int32 → Int64 → Int32 → Int32 → XD → Option (Unit × XD)) (fun _ _ _ _ _ => none) (fun _ f => fun x1 x2 x4 x5 X => if x4 ≤ x5 then some ((), X) else bnw (fX11_arrange Z x5 x1 X) (fun r3 X_4 => if r3 = 0 then fX11_chooseOrder_77 Z (f) x1 x2 x4 x5 X_4 else bnw (fX11_beginReckoning Z X_4) (fun _ X_7 => bnw (fX11_spreadN Z 6 ((0 : Int32)) ((0 : Int32)) ((1 : Int64)) X_7) (fun _ X_10 => bnd (fX11_moreThanHalf Z x1 X_10) (fun r12 => if (lg_cmp r12 x2) ≤ 0 then fX11_chooseOrder_77 Z (f) x1 x2 x4 x5 X_10 else gcp ((0 : Int32)) ((0 : Int32)) ((4 : Int32)) 4 4 (nm (cpI X_10 155 ((0 : Int32)) 156 ((0 : Int32)) ((4 : Int32))) (fun X_13 => fX11_chooseOrder_77 Z (f) x1 r12 x4 x5 X_13))))))) n
theorem fX11_chooseOrder_14_s (Z : XS) (n : Nat) (x1 : Int32) (x2 : Int64) (x4 : Int32) (x5 : Int32) (X : XD) : fX11_chooseOrder_14 Z (n + 1) x1 x2 x4 x5 X = if x4 ≤ x5 then some ((), X) else bnw (fX11_arrange Z x5 x1 X) (fun r3 X_4 => if r3 = 0 then fX11_chooseOrder_77 Z ((fX11_chooseOrder_14 Z n)) x1 x2 x4 x5 X_4 else bnw (fX11_beginReckoning Z X_4) (fun _ X_7 => bnw (fX11_spreadN Z 6 ((0 : Int32)) ((0 : Int32)) ((1 : Int64)) X_7) (fun _ X_10 => bnd (fX11_moreThanHalf Z x1 X_10) (fun r12 => if (lg_cmp r12 x2) ≤ 0 then fX11_chooseOrder_77 Z ((fX11_chooseOrder_14 Z n)) x1 x2 x4 x5 X_10 else gcp ((0 : Int32)) ((0 : Int32)) ((4 : Int32)) 4 4 (nm (cpI X_10 155 ((0 : Int32)) 156 ((0 : Int32)) ((4 : Int32))) (fun X_13 => fX11_chooseOrder_77 Z ((fX11_chooseOrder_14 Z n)) x1 r12 x4 x5 X_13)))))) := rfl
noncomputable def fX11_chooseOrder (Z : XS) (x1 : Int32) (X : XD) : Option (Unit × XD) := nm (((1 : Int32)) <<< ((((2 : Int32)) * x1) &&& 31)) (fun y1 => fX11_chooseOrder_14 Z FU x1 ((-1 : Int64)) y1 ((0 : Int32)) X)
set_option maxHeartbeats 40000000 in
set_option maxRecDepth 100000 in
theorem ceX11_chooseOrder {l : Launch} {E : XE} {w : XW} {z : Nat} {Z : XS}  (hL : LayC Z) {x1 : Int32} {X X1 : XD} {r : Unit} (h : fX11_chooseOrder Z x1 X = some (r, X1)) : Ct l E w yX11_chooseOrder (wsM yX11_chooseOrder cX11_chooseOrder 8 none) (rmX 19 0 0) 0 0 [.ref (w.1 0), .int x1] z z Z Z X X1 none := by
  refine ct_of (by decide) (Nat.le_of_ble_eq_true rfl) ?_
  intro p e s m args below meth c hC hr hin hav
  have j77 : ∀ (k14 : Int32 → Int64 → Int32 → Int32 → XD → Option (Unit × XD)) (hk14 : ∀ (x1 : Int32) (x2 : Int64) (x4 : Int32) (x5 : Int32) (X : XD), k14 x1 x2 x4 x5 X = some (r, X1) → WW p l e (rmX 19 0 0) s m args below meth c 8 (MQ below (XQ E w z Z X1 none) args s 0 0 (A0 E)) E w 0 0 z Z 14 [(0, .ref (w.1 0)), (1, .int x1), (2, .long x2), (4, .int x4), (5, .int x5)] [] X), ∀ (x1 : Int32) (x2 : Int64) (x4 : Int32) (x5 : Int32) (X : XD), fX11_chooseOrder_77 Z k14 x1 x2 x4 x5 X = some (r, X1) → WW p l e (rmX 19 0 0) s m args below meth c 8 (MQ below (XQ E w z Z X1 none) args s 0 0 (A0 E)) E w 0 0 z Z 77 [(0, .ref (w.1 0)), (1, .int x1), (2, .long x2), (4, .int x4), (5, .int x5)] [] X := by
    intro k14 hk14 x1 x2 x4 x5 X h
    unfold fX11_chooseOrder_77 at h
    obtain ⟨y14, ey14⟩ : ∃ q, q = x5 + (1 : Int32) := ⟨_, rfl⟩
    replace h := nm_i h ey14
    refine ww_iinc (pc := 77) hC y14 [(5, .int y14), (0, .ref (w.1 0)), (1, .int x1), (2, .long x2), (4, .int x4)] dX11_chooseOrder_77 4 rfl (by rw [ey14]; rfl) (by decide) rfl ?_
    refine ww_goto (pc := 80) hC 14 dX11_chooseOrder_80 (by decide) ?_
    refine ww_sub [1, 2, 3, 4, 0] rfl ?_
    exact hk14 _ _ _ _ _ h
  have j14 : ∀ (n : Nat), ∀ (x1 : Int32) (x2 : Int64) (x4 : Int32) (x5 : Int32) (X : XD), fX11_chooseOrder_14 Z n x1 x2 x4 x5 X = some (r, X1) → WW p l e (rmX 19 0 0) s m args below meth c 8 (MQ below (XQ E w z Z X1 none) args s 0 0 (A0 E)) E w 0 0 z Z 14 [(0, .ref (w.1 0)), (1, .int x1), (2, .long x2), (4, .int x4), (5, .int x5)] [] X := by
    intro n
    induction n with
    | zero =>
      intro x1 x2 x4 x5 X h
      cases (show none = some (r, X1) from h)
    | succ n ih =>
      intro x1 x2 x4 x5 X h
      rw [fX11_chooseOrder_14_s] at h
      refine ww_iload (pc := 14) hC dX11_chooseOrder_14 4 rfl ?_
      refine ww_iload (pc := 16) hC dX11_chooseOrder_16 3 rfl ?_
      refine ww_icmp_ge (pc := 18) hC h 83 dX11_chooseOrder_18 (by decide) (fun h => ?_) (fun h => ?_)
      · exact ww_vret (pc := 83) hC hr h dX11_chooseOrder_83
      · refine ww_aload_n (pc := 21) hC dX11_chooseOrder_21 0 rfl ?_
        refine ww_iload (pc := 22) hC dX11_chooseOrder_22 4 rfl ?_
        refine ww_iload_n (pc := 24) hC dX11_chooseOrder_24 1 rfl ?_
        obtain ⟨r3, X_4, h2, h⟩ := bnw_i h
        refine ww_callVi (pc := 25) hC [.int x5, .int x1] hL.1.1 hL.1.2 (by decide) (ceX11_arrange hL h2) ql_X11_344 qi_X11_arrange qs_X11_X11_arrange qn_X11 qc_X11_arrange rfl ⟨by decide, by decide, rfl⟩ rfl ⟨Nat.le_of_ble_eq_true rfl, Nat.le_of_ble_eq_true rfl⟩ (by decide) (rest := []) (Nat.le_of_ble_eq_true rfl) dX11_chooseOrder_25 ⟨Nat.le_of_ble_eq_true rfl, Nat.le_of_ble_eq_true rfl⟩ rfl ?_
        refine ww_if_eq (pc := 28) hC h 77 dX11_chooseOrder_28 (by decide) (fun h => ?_) (fun h => ?_)
        · refine ww_sub [0, 1, 2, 3, 4] rfl ?_
          exact j77 _ ih _ _ _ _ _ h
        · refine ww_aload_n (pc := 31) hC dX11_chooseOrder_31 0 rfl ?_
          obtain ⟨_, X_7, h5, h⟩ := bnw_i h
          refine ww_callVv (pc := 32) hC [] hL.1.1 hL.1.2 (by decide) (ceX11_beginReckoning hL h5) ql_X11_331 qi_X11_beginReckoning qs_X11_X11_beginReckoning qn_X11 qc_X11_beginReckoning rfl ⟨by decide, by decide, rfl⟩ rfl ⟨Nat.le_of_ble_eq_true rfl, Nat.le_of_ble_eq_true rfl⟩ (by decide) (rest := []) (Nat.le_of_ble_eq_true rfl) dX11_chooseOrder_32 ⟨Nat.le_of_ble_eq_true rfl, Nat.le_of_ble_eq_true rfl⟩ rfl ?_
          refine ww_aload_n (pc := 35) hC dX11_chooseOrder_35 0 rfl ?_
          refine ww_iconst (pc := 36) hC (v := (0 : Int32)) dX11_chooseOrder_36 (by decide) ?_
          refine ww_iconst (pc := 37) hC (v := (0 : Int32)) dX11_chooseOrder_37 (by decide) ?_
          refine ww_lconst (pc := 38) hC (v := (1 : Int64)) dX11_chooseOrder_38 (by decide) ?_
          obtain ⟨_, X_10, h8, h⟩ := bnw_i h
          refine ww_callVv (pc := 39) hC [.int ((0 : Int32)), .int ((0 : Int32)), .long ((1 : Int64))] hL.1.1 hL.1.2 (by decide) (ceX11_spreadN hL 6 h8) ql_X11_334 qi_X11_spread qs_X11_X11_spread qn_X11 qc_X11_spread rfl ⟨by decide, by decide, rfl⟩ rfl ⟨Nat.le_of_ble_eq_true rfl, Nat.le_of_ble_eq_true rfl⟩ (by decide) (rest := []) (Nat.le_of_ble_eq_true rfl) dX11_chooseOrder_39 ⟨Nat.le_of_ble_eq_true rfl, Nat.le_of_ble_eq_true rfl⟩ rfl ?_
          refine ww_aload_n (pc := 42) hC dX11_chooseOrder_42 0 rfl ?_
          refine ww_iload_n (pc := 43) hC dX11_chooseOrder_43 1 rfl ?_
          obtain ⟨r12, h11, h⟩ := bnd_i h
          refine ww_callVl (pc := 44) hC [.int x1] hL.1.1 hL.1.2 (by decide) (ceX11_moreThanHalf hL h11) ql_X11_347 qi_X11_moreThanHalf qs_X11_X11_moreThanHalf qn_X11 qc_X11_moreThanHalf rfl ⟨by decide, by decide, rfl⟩ rfl ⟨Nat.le_of_ble_eq_true rfl, Nat.le_of_ble_eq_true rfl⟩ (by decide) (rest := []) (Nat.le_of_ble_eq_true rfl) dX11_chooseOrder_44 ⟨Nat.le_of_ble_eq_true rfl, Nat.le_of_ble_eq_true rfl⟩ rfl ?_
          refine ww_lstore (pc := 47) hC [(6, .long r12), (0, .ref (w.1 0)), (1, .int x1), (2, .long x2), (4, .int x4), (5, .int x5)] dX11_chooseOrder_47  (by decide) rfl ?_
          refine ww_lload (pc := 49) hC dX11_chooseOrder_49 0 rfl ?_
          refine ww_lload_n (pc := 51) hC dX11_chooseOrder_51 3 rfl ?_
          refine ww_lcmp (pc := 52) hC dX11_chooseOrder_52 ?_
          refine ww_if_le (pc := 53) hC h 77 dX11_chooseOrder_53 (by decide) (fun h => ?_) (fun h => ?_)
          · refine ww_sub [1, 2, 3, 4, 5] rfl ?_
            exact j77 _ ih _ _ _ _ _ h
          · refine ww_lload (pc := 56) hC dX11_chooseOrder_56 0 rfl ?_
            refine ww_lstore_n (pc := 58) hC [(2, .long r12), (6, .long r12), (0, .ref (w.1 0)), (1, .int x1), (4, .int x4), (5, .int x5)] dX11_chooseOrder_58 rfl (by decide) rfl ?_
            refine ww_aload_n (pc := 59) hC dX11_chooseOrder_59 2 rfl ?_
            refine ww_getR (pc := 60) hC 11 15 155 hL.1 RX11 (by decide) (by decide) rfl (lay_11_15 hL).1 qf_X11_82 rfl dX11_chooseOrder_60 ?_
            refine ww_iconst (pc := 63) hC (v := (0 : Int32)) dX11_chooseOrder_63 (by decide) ?_
            refine ww_aload_n (pc := 64) hC dX11_chooseOrder_64 2 rfl ?_
            refine ww_getR (pc := 65) hC 11 16 156 hL.1 RX11 (by decide) (by decide) rfl (lay_11_16 hL).1 qf_X11_85 rfl dX11_chooseOrder_65 ?_
            refine ww_iconst (pc := 68) hC (v := (0 : Int32)) dX11_chooseOrder_68 (by decide) ?_
            refine ww_aload_n (pc := 69) hC dX11_chooseOrder_69 2 rfl ?_
            refine ww_getR (pc := 70) hC 11 15 155 hL.1 RX11 (by decide) (by decide) rfl (lay_11_15 hL).1 qf_X11_82 rfl dX11_chooseOrder_70 ?_
            refine ww_alen (pc := 73) hC ((4 : Int32)) ((lay_11_15 hL).2) (by decide) (by decide) rfl dX11_chooseOrder_73 ?_
            refine ww_copyI (pc := 74) hC ((lay_11_15 hL).2) ((lay_11_16 hL).2) h ql_X11_287 qv_java_lang_System_arraycopy qt_java_lang_System_arraycopy qn_J10 ⟨Nat.le_of_ble_eq_true rfl, Nat.le_of_ble_eq_true rfl⟩ (Nat.le_of_ble_eq_true rfl) dX11_chooseOrder_74 (fun h => ?_)
            obtain ⟨X_13, eX_13⟩ : ∃ q, q = cpI X_10 155 ((0 : Int32)) 156 ((0 : Int32)) ((4 : Int32)) := ⟨_, rfl⟩
            replace h := nm_i h eX_13
            refine ww_nmX eX_13 ?_
            refine ww_sub [2, 3, 0, 4, 5] rfl ?_
            exact j77 _ ih _ _ _ _ _ h
  unfold fX11_chooseOrder at h
  refine ww_lv (lv' := [(0, .ref (w.1 0)), (1, .int x1)]) rfl ?_
  refine ww_ldc2 (pc := 0) hC (v := (-1 : Int64)) dX11_chooseOrder_0 qg_X11_342 ?_
  refine ww_lstore_n (pc := 3) hC [(2, .long ((-1 : Int64))), (0, .ref (w.1 0)), (1, .int x1)] dX11_chooseOrder_3 rfl (by decide) rfl ?_
  refine ww_iconst (pc := 4) hC (v := (1 : Int32)) dX11_chooseOrder_4 (by decide) ?_
  refine ww_iconst (pc := 5) hC (v := (2 : Int32)) dX11_chooseOrder_5 (by decide) ?_
  refine ww_iload_n (pc := 6) hC dX11_chooseOrder_6 2 rfl ?_
  refine ww_imul (pc := 7) hC dX11_chooseOrder_7 ?_
  refine ww_ishl (pc := 8) hC dX11_chooseOrder_8 ?_
  obtain ⟨y1, ey1⟩ : ∃ q, q = ((1 : Int32)) <<< ((((2 : Int32)) * x1) &&& 31) := ⟨_, rfl⟩
  replace h := nm_i h ey1
  refine ww_nmi ey1 ?_
  refine ww_istore (pc := 9) hC [(4, .int y1), (2, .long ((-1 : Int64))), (0, .ref (w.1 0)), (1, .int x1)] dX11_chooseOrder_9  (by decide) rfl ?_
  refine ww_iconst (pc := 11) hC (v := (0 : Int32)) dX11_chooseOrder_11 (by decide) ?_
  refine ww_istore (pc := 12) hC [(5, .int ((0 : Int32))), (4, .int y1), (2, .long ((-1 : Int64))), (0, .ref (w.1 0)), (1, .int x1)] dX11_chooseOrder_12  (by decide) rfl ?_
  refine ww_sub [3, 4, 2, 1, 0] rfl ?_
  exact j14 _ _ _ _ _ _ h
noncomputable def fX11_order (Z : XS) (x1 : Int32) (X : XD) : Option (Int32 × XD) := if x1 < 0 then some ((-1 : Int32), X) else if x1 < ((4 : Int32)) then if x1 < (X.1 52 1) then bnw (fX11_chooseOrder Z (X.1 52 1) X) (fun _ X_3 => if ((4 : Int32)) ≤ x1 then some ((-1 : Int32), X_3) else gin x1 4 (some (X_3.1 156 (x1).toNatClampNeg, X_3))) else some ((-5 : Int32), X) else some ((-1 : Int32), X)
set_option maxHeartbeats 40000000 in
set_option maxRecDepth 100000 in
theorem ceX11_order {l : Launch} {E : XE} {w : XW} {z : Nat} {Z : XS}  (hL : LayC Z) {x1 : Int32} {X X1 : XD} {r : Int32} (h : fX11_order Z x1 X = some (r, X1)) : Ct l E w yX11_order (wsM yX11_order cX11_order 2 (some .int)) (rmX 20 0 0) 0 0 [.ref (w.1 0), .int x1] z z Z Z X X1 (some (.int r)) := by
  refine ct_of (by decide) (Nat.le_of_ble_eq_true rfl) ?_
  intro p e s m args below meth c hC hr hin hav
  unfold fX11_order at h
  refine ww_lv (lv' := [(0, .ref (w.1 0)), (1, .int x1)]) rfl ?_
  refine ww_iload_n (pc := 0) hC dX11_order_0 1 rfl ?_
  refine ww_if_lt (pc := 1) hC h 9 dX11_order_1 (by decide) (fun h => ?_) (fun h => ?_)
  · refine ww_iconst (pc := 9) hC (v := (-1 : Int32)) dX11_order_9 (by decide) ?_
    exact ww_iret (pc := 10) hC hr h dX11_order_10
  · refine ww_iload_n (pc := 4) hC dX11_order_4 1 rfl ?_
    refine ww_iconst (pc := 5) hC (v := (4 : Int32)) dX11_order_5 (by decide) ?_
    refine ww_icmp_lt (pc := 6) hC h 11 dX11_order_6 (by decide) (fun h => ?_) (fun h => ?_)
    · refine ww_iload_n (pc := 11) hC dX11_order_11 1 rfl ?_
      refine ww_aload_n (pc := 12) hC dX11_order_12 0 rfl ?_
      refine ww_getR (pc := 13) hC 11 4 47 hL.1 RX11 (by decide) (by decide) rfl (lay_11_4 hL).1 qf_X11_36 rfl dX11_order_13 ?_
      refine ww_getR (pc := 16) hC 6 8 52 ((lay_11_4 hL).2) RX6 (by decide) (by decide) rfl (lay_6_8 hL ((lay_11_4 hL).2)).1 qf_X11_194 rfl dX11_order_16 ?_
      refine ww_getI (pc := 19) hC 3 1 ((lay_6_8 hL ((lay_11_4 hL).2)).2) RX3 (by decide) (by decide) rfl qf_X11_145 (Or.inl rfl) dX11_order_19 ?_
      refine ww_icmp_lt (pc := 22) hC h 28 dX11_order_22 (by decide) (fun h => ?_) (fun h => ?_)
      · refine ww_aload_n (pc := 28) hC dX11_order_28 0 rfl ?_
        refine ww_aload_n (pc := 29) hC dX11_order_29 0 rfl ?_
        refine ww_getR (pc := 30) hC 11 4 47 hL.1 RX11 (by decide) (by decide) rfl (lay_11_4 hL).1 qf_X11_36 rfl dX11_order_30 ?_
        refine ww_getR (pc := 33) hC 6 8 52 ((lay_11_4 hL).2) RX6 (by decide) (by decide) rfl (lay_6_8 hL ((lay_11_4 hL).2)).1 qf_X11_194 rfl dX11_order_33 ?_
        refine ww_getI (pc := 36) hC 3 1 ((lay_6_8 hL ((lay_11_4 hL).2)).2) RX3 (by decide) (by decide) rfl qf_X11_145 (Or.inl rfl) dX11_order_36 ?_
        obtain ⟨_, X_3, h1, h⟩ := bnw_i h
        refine ww_callVv (pc := 39) hC [.int (X.1 52 1)] hL.1.1 hL.1.2 (by decide) (ceX11_chooseOrder hL h1) ql_X11_210 qi_X11_chooseOrder qs_X11_X11_chooseOrder qn_X11 qc_X11_chooseOrder rfl ⟨by decide, by decide, rfl⟩ rfl ⟨Nat.le_of_ble_eq_true rfl, Nat.le_of_ble_eq_true rfl⟩ (by decide) (rest := []) (Nat.le_of_ble_eq_true rfl) dX11_order_39 ⟨Nat.le_of_ble_eq_true rfl, Nat.le_of_ble_eq_true rfl⟩ rfl ?_
        refine ww_iload_n (pc := 42) hC dX11_order_42 1 rfl ?_
        refine ww_aload_n (pc := 43) hC dX11_order_43 0 rfl ?_
        refine ww_getR (pc := 44) hC 11 16 156 hL.1 RX11 (by decide) (by decide) rfl (lay_11_16 hL).1 qf_X11_85 rfl dX11_order_44 ?_
        refine ww_alen (pc := 47) hC ((4 : Int32)) ((lay_11_16 hL).2) (by decide) (by decide) rfl dX11_order_47 ?_
        refine ww_icmp_ge (pc := 48) hC h 60 dX11_order_48 (by decide) (fun h => ?_) (fun h => ?_)
        · refine ww_iconst (pc := 60) hC (v := (-1 : Int32)) dX11_order_60 (by decide) ?_
          exact ww_iret (pc := 61) hC hr h dX11_order_61
        · refine ww_aload_n (pc := 51) hC dX11_order_51 0 rfl ?_
          refine ww_getR (pc := 52) hC 11 16 156 hL.1 RX11 (by decide) (by decide) rfl (lay_11_16 hL).1 qf_X11_85 rfl dX11_order_52 ?_
          refine ww_iload_n (pc := 55) hC dX11_order_55 1 rfl ?_
          refine ww_iald (pc := 56) hC ((lay_11_16 hL).2) h dX11_order_56 (fun h => ?_)
          refine ww_goto (pc := 57) hC 61 dX11_order_57 (by decide) ?_
          exact ww_iret (pc := 61) hC hr h dX11_order_61
      · refine ww_bipush (pc := 25) hC (v := (-5 : Int32)) dX11_order_25 (by decide) ?_
        exact ww_iret (pc := 27) hC hr h dX11_order_27
    · refine ww_iconst (pc := 9) hC (v := (-1 : Int32)) dX11_order_9 (by decide) ?_
      exact ww_iret (pc := 10) hC hr h dX11_order_10
noncomputable def fX11_win_143 (Z : XS) (x3 : Int32) (s0 : Int64) (X : XD) : Option (Int64 × XD) := bnd (fX11_hundreds Z (((2 : Int32)) * (X.1 52 1)) X) (fun r16 => bnd (fX11_lowest Z s0 r16 x3 X) (fun r18 => some (r18, X)))
noncomputable def fX11_win_132 (Z : XS) (x2 : Int32) (x3 : Int32) (x4 : Int64) (x6 : Int64) (X : XD) : Option (Int64 × XD) := if x2 = 0 then fX11_win_143 Z x3 x4 X else fX11_win_143 Z x3 x6 X
noncomputable def fX11_win_59 (Z : XS) (n : Nat) : Int32 → Int32 → Int64 → Int64 → Int64 → Int32 → XD → Option (Int64 × XD) := Nat.rec (motive := fun _ => Int32 → Int32 → Int64 → Int64 → Int64 → Int32 → XD → Option (Int64 × XD)) (fun _ _ _ _ _ _ _ => none) (fun _ f => fun x2 x3 x4 x6 x8 x10 X => if ((5 : Int32)) ≤ x10 then fX11_win_132 Z x2 x3 x4 x6 X else if ((5 : Int32)) ≤ x10 then fX11_win_132 Z x2 x3 x4 x6 X else gin x10 5 (nm (x4 + ((X.2 153 (x10).toNatClampNeg) * x8)) (fun y11 => gin x10 5 (gin x10 5 (nm (x6 + ((X.2 153 (x10).toNatClampNeg) * (X.2 154 (x10).toNatClampNeg))) (fun y12 => gin x10 5 (nm (x8 + (X.2 154 (x10).toNatClampNeg)) (fun y13 => nm (x10 + (1 : Int32)) (fun y14 => f x2 x3 y11 y12 y13 y14 X))))))))) n
theorem fX11_win_59_s (Z : XS) (n : Nat) (x2 : Int32) (x3 : Int32) (x4 : Int64) (x6 : Int64) (x8 : Int64) (x10 : Int32) (X : XD) : fX11_win_59 Z (n + 1) x2 x3 x4 x6 x8 x10 X = if ((5 : Int32)) ≤ x10 then fX11_win_132 Z x2 x3 x4 x6 X else if ((5 : Int32)) ≤ x10 then fX11_win_132 Z x2 x3 x4 x6 X else gin x10 5 (nm (x4 + ((X.2 153 (x10).toNatClampNeg) * x8)) (fun y11 => gin x10 5 (gin x10 5 (nm (x6 + ((X.2 153 (x10).toNatClampNeg) * (X.2 154 (x10).toNatClampNeg))) (fun y12 => gin x10 5 (nm (x8 + (X.2 154 (x10).toNatClampNeg)) (fun y13 => nm (x10 + (1 : Int32)) (fun y14 => (fX11_win_59 Z n) x2 x3 y11 y12 y13 y14 X)))))))) := rfl
noncomputable def fX11_win (Z : XS) (x1 : Int32) (x2 : Int32) (x3 : Int32) (X : XD) : Option (Int64 × XD) := if x1 < 0 then some ((-9223372036854775808 : Int64), X) else if ((100 : Int32)) < x1 then some ((-9223372036854775808 : Int64), X) else bnd (fX11_isHalf Z x2 X) (fun r2 => if r2 = 0 then some ((-9223372036854775808 : Int64), X) else bnd (fX11_isHalf Z x3 X) (fun r4 => if r4 = 0 then some ((-9223372036854775808 : Int64), X) else bnw (fX11_reckonLine Z X) (fun _ X_7 => bnw (fX11_reckonOthers Z x1 (X_7.1 52 1) X_7) (fun _ X_10 => fX11_win_59 Z FU x2 x3 ((0 : Int64)) ((0 : Int64)) ((0 : Int64)) ((0 : Int32)) X_10))))
set_option maxHeartbeats 40000000 in
set_option maxRecDepth 100000 in
theorem ceX11_win {l : Launch} {E : XE} {w : XW} {z : Nat} {Z : XS}  (hL : LayC Z) {x1 : Int32} {x2 : Int32} {x3 : Int32} {X X1 : XD} {r : Int64} (h : fX11_win Z x1 x2 x3 X = some (r, X1)) : Ct l E w yX11_win (wsM yX11_win cX11_win 11 (some .long)) (rmX 20 0 0) 0 0 [.ref (w.1 0), .int x1, .int x2, .int x3] z z Z Z X X1 (some (.long r)) := by
  refine ct_of (by decide) (Nat.le_of_ble_eq_true rfl) ?_
  intro p e s m args below meth c hC hr hin hav
  have j143 : ∀ (x3 : Int32) (s0 : Int64) (X : XD), fX11_win_143 Z x3 s0 X = some (r, X1) → WW p l e (rmX 20 0 0) s m args below meth c 11 (MQ below (XQ E w z Z X1 (some (.long r))) args s 0 0 (A0 E)) E w 0 0 z Z 143 [(0, .ref (w.1 0)), (3, .int x3)] [.long s0] X := by
    intro x3 s0 X h
    unfold fX11_win_143 at h
    refine ww_iconst (pc := 143) hC (v := (2 : Int32)) dX11_win_143 (by decide) ?_
    refine ww_aload_n (pc := 144) hC dX11_win_144 0 rfl ?_
    refine ww_getR (pc := 145) hC 11 4 47 hL.1 RX11 (by decide) (by decide) rfl (lay_11_4 hL).1 qf_X11_36 rfl dX11_win_145 ?_
    refine ww_getR (pc := 148) hC 6 8 52 ((lay_11_4 hL).2) RX6 (by decide) (by decide) rfl (lay_6_8 hL ((lay_11_4 hL).2)).1 qf_X11_194 rfl dX11_win_148 ?_
    refine ww_getI (pc := 151) hC 3 1 ((lay_6_8 hL ((lay_11_4 hL).2)).2) RX3 (by decide) (by decide) rfl qf_X11_145 (Or.inl rfl) dX11_win_151 ?_
    refine ww_imul (pc := 154) hC dX11_win_154 ?_
    obtain ⟨r16, h15, h⟩ := bnd_i h
    refine ww_callSl (pc := 155) hC [.int (((2 : Int32)) * (X.1 52 1))] (ceX11_hundreds hL h15) ql_X11_202 qt_X11_hundreds qn_X11 qc_X11_hundreds ⟨by decide, by decide, rfl⟩ rfl ⟨Nat.le_of_ble_eq_true rfl, Nat.le_of_ble_eq_true rfl⟩ (by decide) (rest := [.long s0]) (Nat.le_of_ble_eq_true rfl) dX11_win_155 ⟨Nat.le_of_ble_eq_true rfl, Nat.le_of_ble_eq_true rfl⟩ rfl ?_
    refine ww_iload_n (pc := 158) hC dX11_win_158 1 rfl ?_
    obtain ⟨r18, h17, h⟩ := bnd_i h
    refine ww_callSl (pc := 159) hC [.long s0, .long r16, .int x3] (ceX11_lowest hL h17) ql_X11_206 qt_X11_lowest qn_X11 qc_X11_lowest ⟨by decide, by decide, rfl⟩ rfl ⟨Nat.le_of_ble_eq_true rfl, Nat.le_of_ble_eq_true rfl⟩ (by decide) (rest := []) (Nat.le_of_ble_eq_true rfl) dX11_win_159 ⟨Nat.le_of_ble_eq_true rfl, Nat.le_of_ble_eq_true rfl⟩ rfl ?_
    exact ww_lret (pc := 162) hC hr h dX11_win_162
  have j132 : ∀ (x2 : Int32) (x3 : Int32) (x4 : Int64) (x6 : Int64) (X : XD), fX11_win_132 Z x2 x3 x4 x6 X = some (r, X1) → WW p l e (rmX 20 0 0) s m args below meth c 11 (MQ below (XQ E w z Z X1 (some (.long r))) args s 0 0 (A0 E)) E w 0 0 z Z 132 [(0, .ref (w.1 0)), (2, .int x2), (3, .int x3), (4, .long x4), (6, .long x6)] [] X := by
    intro x2 x3 x4 x6 X h
    unfold fX11_win_132 at h
    refine ww_iload_n (pc := 132) hC dX11_win_132 1 rfl ?_
    refine ww_if_ne (pc := 133) hC h 141 dX11_win_133 (by decide) (fun h => ?_) (fun h => ?_)
    · refine ww_lload (pc := 141) hC dX11_win_141 4 rfl ?_
      refine ww_sub [0, 2] rfl ?_
      exact j143 _ _ _ h
    · refine ww_lload (pc := 136) hC dX11_win_136 3 rfl ?_
      refine ww_goto (pc := 138) hC 143 dX11_win_138 (by decide) ?_
      refine ww_sub [0, 2] rfl ?_
      exact j143 _ _ _ h
  have j59 : ∀ (n : Nat), ∀ (x2 : Int32) (x3 : Int32) (x4 : Int64) (x6 : Int64) (x8 : Int64) (x10 : Int32) (X : XD), fX11_win_59 Z n x2 x3 x4 x6 x8 x10 X = some (r, X1) → WW p l e (rmX 20 0 0) s m args below meth c 11 (MQ below (XQ E w z Z X1 (some (.long r))) args s 0 0 (A0 E)) E w 0 0 z Z 59 [(0, .ref (w.1 0)), (2, .int x2), (3, .int x3), (4, .long x4), (6, .long x6), (8, .long x8), (10, .int x10)] [] X := by
    intro n
    induction n with
    | zero =>
      intro x2 x3 x4 x6 x8 x10 X h
      cases (show none = some (r, X1) from h)
    | succ n ih =>
      intro x2 x3 x4 x6 x8 x10 X h
      rw [fX11_win_59_s] at h
      refine ww_iload (pc := 59) hC dX11_win_59 6 rfl ?_
      refine ww_aload_n (pc := 61) hC dX11_win_61 0 rfl ?_
      refine ww_getR (pc := 62) hC 11 13 153 hL.1 RX11 (by decide) (by decide) rfl (lay_11_13 hL).1 qf_X11_75 rfl dX11_win_62 ?_
      refine ww_alen (pc := 65) hC ((5 : Int32)) ((lay_11_13 hL).2) (by decide) (by decide) rfl dX11_win_65 ?_
      refine ww_icmp_ge (pc := 66) hC h 132 dX11_win_66 (by decide) (fun h => ?_) (fun h => ?_)
      · refine ww_sub [0, 1, 2, 3, 4] rfl ?_
        exact j132 _ _ _ _ _ h
      · refine ww_iload (pc := 69) hC dX11_win_69 6 rfl ?_
        refine ww_aload_n (pc := 71) hC dX11_win_71 0 rfl ?_
        refine ww_getR (pc := 72) hC 11 14 154 hL.1 RX11 (by decide) (by decide) rfl (lay_11_14 hL).1 qf_X11_79 rfl dX11_win_72 ?_
        refine ww_alen (pc := 75) hC ((5 : Int32)) ((lay_11_14 hL).2) (by decide) (by decide) rfl dX11_win_75 ?_
        refine ww_icmp_ge (pc := 76) hC h 132 dX11_win_76 (by decide) (fun h => ?_) (fun h => ?_)
        · refine ww_sub [0, 1, 2, 3, 4] rfl ?_
          exact j132 _ _ _ _ _ h
        · refine ww_lload (pc := 79) hC dX11_win_79 3 rfl ?_
          refine ww_aload_n (pc := 81) hC dX11_win_81 0 rfl ?_
          refine ww_getR (pc := 82) hC 11 13 153 hL.1 RX11 (by decide) (by decide) rfl (lay_11_13 hL).1 qf_X11_75 rfl dX11_win_82 ?_
          refine ww_iload (pc := 85) hC dX11_win_85 6 rfl ?_
          refine ww_lald (pc := 87) hC ((lay_11_13 hL).2) h dX11_win_87 (fun h => ?_)
          refine ww_lload (pc := 88) hC dX11_win_88 5 rfl ?_
          refine ww_lmul (pc := 90) hC dX11_win_90 ?_
          refine ww_ladd (pc := 91) hC dX11_win_91 ?_
          obtain ⟨y11, ey11⟩ : ∃ q, q = x4 + ((X.2 153 (x10).toNatClampNeg) * x8) := ⟨_, rfl⟩
          replace h := nm_i h ey11
          refine ww_nml ey11 ?_
          refine ww_lstore (pc := 92) hC [(4, .long y11), (0, .ref (w.1 0)), (2, .int x2), (3, .int x3), (6, .long x6), (8, .long x8), (10, .int x10)] dX11_win_92  (by decide) rfl ?_
          refine ww_lload (pc := 94) hC dX11_win_94 4 rfl ?_
          refine ww_aload_n (pc := 96) hC dX11_win_96 1 rfl ?_
          refine ww_getR (pc := 97) hC 11 13 153 hL.1 RX11 (by decide) (by decide) rfl (lay_11_13 hL).1 qf_X11_75 rfl dX11_win_97 ?_
          refine ww_iload (pc := 100) hC dX11_win_100 6 rfl ?_
          refine ww_lald (pc := 102) hC ((lay_11_13 hL).2) h dX11_win_102 (fun h => ?_)
          refine ww_aload_n (pc := 103) hC dX11_win_103 1 rfl ?_
          refine ww_getR (pc := 104) hC 11 14 154 hL.1 RX11 (by decide) (by decide) rfl (lay_11_14 hL).1 qf_X11_79 rfl dX11_win_104 ?_
          refine ww_iload (pc := 107) hC dX11_win_107 6 rfl ?_
          refine ww_lald (pc := 109) hC ((lay_11_14 hL).2) h dX11_win_109 (fun h => ?_)
          refine ww_lmul (pc := 110) hC dX11_win_110 ?_
          refine ww_ladd (pc := 111) hC dX11_win_111 ?_
          obtain ⟨y12, ey12⟩ : ∃ q, q = x6 + ((X.2 153 (x10).toNatClampNeg) * (X.2 154 (x10).toNatClampNeg)) := ⟨_, rfl⟩
          replace h := nm_i h ey12
          refine ww_nml ey12 ?_
          refine ww_lstore (pc := 112) hC [(6, .long y12), (4, .long y11), (0, .ref (w.1 0)), (2, .int x2), (3, .int x3), (8, .long x8), (10, .int x10)] dX11_win_112  (by decide) rfl ?_
          refine ww_lload (pc := 114) hC dX11_win_114 5 rfl ?_
          refine ww_aload_n (pc := 116) hC dX11_win_116 2 rfl ?_
          refine ww_getR (pc := 117) hC 11 14 154 hL.1 RX11 (by decide) (by decide) rfl (lay_11_14 hL).1 qf_X11_79 rfl dX11_win_117 ?_
          refine ww_iload (pc := 120) hC dX11_win_120 6 rfl ?_
          refine ww_lald (pc := 122) hC ((lay_11_14 hL).2) h dX11_win_122 (fun h => ?_)
          refine ww_ladd (pc := 123) hC dX11_win_123 ?_
          obtain ⟨y13, ey13⟩ : ∃ q, q = x8 + (X.2 154 (x10).toNatClampNeg) := ⟨_, rfl⟩
          replace h := nm_i h ey13
          refine ww_nml ey13 ?_
          refine ww_lstore (pc := 124) hC [(8, .long y13), (6, .long y12), (4, .long y11), (0, .ref (w.1 0)), (2, .int x2), (3, .int x3), (10, .int x10)] dX11_win_124  (by decide) rfl ?_
          obtain ⟨y14, ey14⟩ : ∃ q, q = x10 + (1 : Int32) := ⟨_, rfl⟩
          replace h := nm_i h ey14
          refine ww_iinc (pc := 126) hC y14 [(10, .int y14), (8, .long y13), (6, .long y12), (4, .long y11), (0, .ref (w.1 0)), (2, .int x2), (3, .int x3)] dX11_win_126 6 rfl (by rw [ey14]; rfl) (by decide) rfl ?_
          refine ww_goto (pc := 129) hC 59 dX11_win_129 (by decide) ?_
          refine ww_sub [4, 5, 6, 3, 2, 1, 0] rfl ?_
          exact ih _ _ _ _ _ _ _ h
  unfold fX11_win at h
  refine ww_lv (lv' := [(0, .ref (w.1 0)), (1, .int x1), (2, .int x2), (3, .int x3)]) rfl ?_
  refine ww_iload_n (pc := 0) hC dX11_win_0 1 rfl ?_
  refine ww_if_lt (pc := 1) hC h 24 dX11_win_1 (by decide) (fun h => ?_) (fun h => ?_)
  · refine ww_ldc2 (pc := 24) hC (v := (-9223372036854775808 : Int64)) dX11_win_24 qg_X11_197 ?_
    exact ww_lret (pc := 27) hC hr h dX11_win_27
  · refine ww_iload_n (pc := 4) hC dX11_win_4 1 rfl ?_
    refine ww_bipush (pc := 5) hC (v := (100 : Int32)) dX11_win_5 (by decide) ?_
    refine ww_icmp_gt (pc := 7) hC h 24 dX11_win_7 (by decide) (fun h => ?_) (fun h => ?_)
    · refine ww_ldc2 (pc := 24) hC (v := (-9223372036854775808 : Int64)) dX11_win_24 qg_X11_197 ?_
      exact ww_lret (pc := 27) hC hr h dX11_win_27
    · refine ww_iload_n (pc := 10) hC dX11_win_10 2 rfl ?_
      obtain ⟨r2, h1, h⟩ := bnd_i h
      refine ww_callSi (pc := 11) hC [.int x2] (ceX11_isHalf hL h1) ql_X11_184 qt_X11_isHalf qn_X11 qc_X11_isHalf ⟨by decide, by decide, rfl⟩ rfl ⟨Nat.le_of_ble_eq_true rfl, Nat.le_of_ble_eq_true rfl⟩ (by decide) (rest := []) (Nat.le_of_ble_eq_true rfl) dX11_win_11 ⟨Nat.le_of_ble_eq_true rfl, Nat.le_of_ble_eq_true rfl⟩ rfl ?_
      refine ww_if_eq (pc := 14) hC h 24 dX11_win_14 (by decide) (fun h => ?_) (fun h => ?_)
      · refine ww_ldc2 (pc := 24) hC (v := (-9223372036854775808 : Int64)) dX11_win_24 qg_X11_197 ?_
        exact ww_lret (pc := 27) hC hr h dX11_win_27
      · refine ww_iload_n (pc := 17) hC dX11_win_17 3 rfl ?_
        obtain ⟨r4, h3, h⟩ := bnd_i h
        refine ww_callSi (pc := 18) hC [.int x3] (ceX11_isHalf hL h3) ql_X11_184 qt_X11_isHalf qn_X11 qc_X11_isHalf ⟨by decide, by decide, rfl⟩ rfl ⟨Nat.le_of_ble_eq_true rfl, Nat.le_of_ble_eq_true rfl⟩ (by decide) (rest := []) (Nat.le_of_ble_eq_true rfl) dX11_win_18 ⟨Nat.le_of_ble_eq_true rfl, Nat.le_of_ble_eq_true rfl⟩ rfl ?_
        refine ww_if_ne (pc := 21) hC h 28 dX11_win_21 (by decide) (fun h => ?_) (fun h => ?_)
        · refine ww_aload_n (pc := 28) hC dX11_win_28 0 rfl ?_
          obtain ⟨_, X_7, h5, h⟩ := bnw_i h
          refine ww_callVv (pc := 29) hC [] hL.1.1 hL.1.2 (by decide) (ceX11_reckonLine hL h5) ql_X11_199 qi_X11_reckonLine qs_X11_X11_reckonLine qn_X11 qc_X11_reckonLine rfl ⟨by decide, by decide, rfl⟩ rfl ⟨Nat.le_of_ble_eq_true rfl, Nat.le_of_ble_eq_true rfl⟩ (by decide) (rest := []) (Nat.le_of_ble_eq_true rfl) dX11_win_29 ⟨Nat.le_of_ble_eq_true rfl, Nat.le_of_ble_eq_true rfl⟩ rfl ?_
          refine ww_aload_n (pc := 32) hC dX11_win_32 0 rfl ?_
          refine ww_iload_n (pc := 33) hC dX11_win_33 1 rfl ?_
          refine ww_aload_n (pc := 34) hC dX11_win_34 0 rfl ?_
          refine ww_getR (pc := 35) hC 11 4 47 hL.1 RX11 (by decide) (by decide) rfl (lay_11_4 hL).1 qf_X11_36 rfl dX11_win_35 ?_
          refine ww_getR (pc := 38) hC 6 8 52 ((lay_11_4 hL).2) RX6 (by decide) (by decide) rfl (lay_6_8 hL ((lay_11_4 hL).2)).1 qf_X11_194 rfl dX11_win_38 ?_
          refine ww_getI (pc := 41) hC 3 1 ((lay_6_8 hL ((lay_11_4 hL).2)).2) RX3 (by decide) (by decide) rfl qf_X11_145 (Or.inl rfl) dX11_win_41 ?_
          obtain ⟨_, X_10, h8, h⟩ := bnw_i h
          refine ww_callVv (pc := 44) hC [.int x1, .int (X_7.1 52 1)] hL.1.1 hL.1.2 (by decide) (ceX11_reckonOthers hL h8) ql_X11_213 qi_X11_reckonOthers qs_X11_X11_reckonOthers qn_X11 qc_X11_reckonOthers rfl ⟨by decide, by decide, rfl⟩ rfl ⟨Nat.le_of_ble_eq_true rfl, Nat.le_of_ble_eq_true rfl⟩ (by decide) (rest := []) (Nat.le_of_ble_eq_true rfl) dX11_win_44 ⟨Nat.le_of_ble_eq_true rfl, Nat.le_of_ble_eq_true rfl⟩ rfl ?_
          refine ww_lconst (pc := 47) hC (v := (0 : Int64)) dX11_win_47 (by decide) ?_
          refine ww_lstore (pc := 48) hC [(4, .long ((0 : Int64))), (0, .ref (w.1 0)), (1, .int x1), (2, .int x2), (3, .int x3)] dX11_win_48  (by decide) rfl ?_
          refine ww_lconst (pc := 50) hC (v := (0 : Int64)) dX11_win_50 (by decide) ?_
          refine ww_lstore (pc := 51) hC [(6, .long ((0 : Int64))), (4, .long ((0 : Int64))), (0, .ref (w.1 0)), (1, .int x1), (2, .int x2), (3, .int x3)] dX11_win_51  (by decide) rfl ?_
          refine ww_lconst (pc := 53) hC (v := (0 : Int64)) dX11_win_53 (by decide) ?_
          refine ww_lstore (pc := 54) hC [(8, .long ((0 : Int64))), (6, .long ((0 : Int64))), (4, .long ((0 : Int64))), (0, .ref (w.1 0)), (1, .int x1), (2, .int x2), (3, .int x3)] dX11_win_54  (by decide) rfl ?_
          refine ww_iconst (pc := 56) hC (v := (0 : Int32)) dX11_win_56 (by decide) ?_
          refine ww_istore (pc := 57) hC [(10, .int ((0 : Int32))), (8, .long ((0 : Int64))), (6, .long ((0 : Int64))), (4, .long ((0 : Int64))), (0, .ref (w.1 0)), (1, .int x1), (2, .int x2), (3, .int x3)] dX11_win_57  (by decide) rfl ?_
          refine ww_sub [4, 6, 7, 3, 2, 1, 0] rfl ?_
          exact j59 _ _ _ _ _ _ _ _ h
        · refine ww_ldc2 (pc := 24) hC (v := (-9223372036854775808 : Int64)) dX11_win_24 qg_X11_197 ?_
          exact ww_lret (pc := 27) hC hr h dX11_win_27
