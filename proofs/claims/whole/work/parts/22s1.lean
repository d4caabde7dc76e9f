noncomputable def fX1_spelling (Z : XS) (x0 : Int32) (X : XD) : Option Nat := if x0 = (0 : Int32) then some 0 else (if x0 = (1 : Int32) then some 1 else (if x0 = (2 : Int32) then some 2 else (if x0 = (3 : Int32) then some 3 else (some 4))))
set_option maxHeartbeats 40000000 in
set_option maxRecDepth 100000 in
theorem ceX1_spelling {l : Launch} {E : XE} {w : XW} {z : Nat} {Z : XS}  (hL : LayC Z) {x0 : Int32} {X : XD} {r : Nat} (h : fX1_spelling Z x0 X = some r) : Ct l E w yX1_spelling (wsM yX1_spelling cX1_spelling 1 (some (.object "java/lang/String"))) (rmX 1 0 0) 0 0 [.int x0] z z Z Z X X (some (.ref (E.2.2.2.1 r))) := by
  refine ct_of (by decide) (Nat.le_of_ble_eq_true rfl) ?_
  intro p e s m args below meth c hC hr hin hav
  unfold fX1_spelling at h
  refine ww_lv (lv' := [(0, .int x0)]) rfl ?_
  refine ww_iload_n (pc := 0) hC dX1_spelling_0 0 rfl ?_
  rcases Classical.em (x0 = (0 : Int32)) with q1 | q1
  · replace h := ite_t h q1
    refine ww_tableIn (pc := 1) hC 32 dX1_spelling_1 (0 : Int32) q1 (by decide) (by decide) rfl (by decide) ?_
    refine ww_ldcS (pc := 32) hC 0 (by decide) rfl rfl dX1_spelling_32 ?_
    exact ww_aret (pc := 34) hC hr (Or.inl ⟨_, rfl⟩) (Or.inr ⟨_, rfl⟩) (by rw [← Option.some.inj h]) rfl dX1_spelling_34
  replace h := ite_f h q1
  rcases Classical.em (x0 = (1 : Int32)) with q2 | q2
  · replace h := ite_t h q2
    refine ww_tableIn (pc := 1) hC 35 dX1_spelling_1 (1 : Int32) q2 (by decide) (by decide) rfl (by decide) ?_
    refine ww_ldcS (pc := 35) hC 1 (by decide) rfl rfl dX1_spelling_35 ?_
    exact ww_aret (pc := 37) hC hr (Or.inl ⟨_, rfl⟩) (Or.inr ⟨_, rfl⟩) (by rw [← Option.some.inj h]) rfl dX1_spelling_37
  replace h := ite_f h q2
  rcases Classical.em (x0 = (2 : Int32)) with q3 | q3
  · replace h := ite_t h q3
    refine ww_tableIn (pc := 1) hC 38 dX1_spelling_1 (2 : Int32) q3 (by decide) (by decide) rfl (by decide) ?_
    refine ww_ldcS (pc := 38) hC 2 (by decide) rfl rfl dX1_spelling_38 ?_
    exact ww_aret (pc := 40) hC hr (Or.inl ⟨_, rfl⟩) (Or.inr ⟨_, rfl⟩) (by rw [← Option.some.inj h]) rfl dX1_spelling_40
  replace h := ite_f h q3
  rcases Classical.em (x0 = (3 : Int32)) with q4 | q4
  · replace h := ite_t h q4
    refine ww_tableIn (pc := 1) hC 41 dX1_spelling_1 (3 : Int32) q4 (by decide) (by decide) rfl (by decide) ?_
    refine ww_ldcS (pc := 41) hC 3 (by decide) rfl rfl dX1_spelling_41 ?_
    exact ww_aret (pc := 43) hC hr (Or.inl ⟨_, rfl⟩) (Or.inr ⟨_, rfl⟩) (by rw [← Option.some.inj h]) rfl dX1_spelling_43
  replace h := ite_f h q4
  refine ww_tableOut (pc := 1) hC 44 dX1_spelling_1 (sw_out (fun k h1 h2 => by rcases (show k = 0 ∨ k = 1 ∨ k = 2 ∨ k = 3 by omega) with rfl | rfl | rfl | rfl; exact q1; exact q2; exact q3; exact q4)) (by decide) ?_
  refine ww_ldcS (pc := 44) hC 4 (by decide) rfl rfl dX1_spelling_44 ?_
  exact ww_aret (pc := 46) hC hr (Or.inl ⟨_, rfl⟩) (Or.inr ⟨_, rfl⟩) (by rw [← Option.some.inj h]) rfl dX1_spelling_46
theorem lt_X1_spelling {Z : XS} {x0 : Int32} {X : XD} {r : Nat} (h : fX1_spelling Z x0 X = some r) : r < 7 := by
  unfold fX1_spelling at h
  repeat' split at h
  all_goals (cases h; decide)
noncomputable def fX1_alike_2 (Z : XS) (a0 : Nat) (a1 : Nat) (a2 : Nat) (n : Nat) : Int32 → XD → Option Int32 := Nat.rec (motive := fun _ => Int32 → XD → Option Int32) (fun _ _ => none) (fun _ f => fun x3 X => bnd (fJ0_length_8abf5 a2 X) (fun r2 => if r2 ≤ x3 then some x3 else bnd (fX3_at Z a1 ((X.1 a0 7) + x3) X) (fun r4 => bnd (fJ0_charAt_5068e a2 x3 X) (fun r6 => if r4 = r6 then nm (x3 + (1 : Int32)) (fun y7 => f y7 X) else some x3)))) n
theorem fX1_alike_2_s (Z : XS) (a0 : Nat) (a1 : Nat) (a2 : Nat) (n : Nat) (x3 : Int32) (X : XD) : fX1_alike_2 Z a0 a1 a2 (n + 1) x3 X = bnd (fJ0_length_8abf5 a2 X) (fun r2 => if r2 ≤ x3 then some x3 else bnd (fX3_at Z a1 ((X.1 a0 7) + x3) X) (fun r4 => bnd (fJ0_charAt_5068e a2 x3 X) (fun r6 => if r4 = r6 then nm (x3 + (1 : Int32)) (fun y7 => (fX1_alike_2 Z a0 a1 a2 n) y7 X) else some x3))) := rfl
noncomputable def fX1_alike (Z : XS) (a0 : Nat) (a1 : Nat) (a2 : Nat) (X : XD) : Option Int32 := fX1_alike_2 Z a0 a1 a2 FU ((0 : Int32)) X
set_option maxHeartbeats 40000000 in
set_option maxRecDepth 100000 in
theorem ceX1_alike {l : Launch} {E : XE} {w : XW} {z : Nat} {Z : XS}  (hL : LayC Z) {a0 : Nat} (h_a0 : KK Z a0 1) {a1 : Nat} (h_a1 : KK Z a1 3) {a2 : Nat} (h_a2 : a2 < 7) {X : XD} {r : Int32} (h : fX1_alike Z a0 a1 a2 X = some r) : Ct l E w yX1_alike (wsM yX1_alike cX1_alike 4 (some .int)) (rmX 5 0 0) 0 0 [.ref (w.1 a0), .ref (w.1 a1), .ref (E.2.2.2.1 a2)] z z Z Z X X (some (.int r)) := by
  refine ct_of (by decide) (Nat.le_of_ble_eq_true rfl) ?_
  intro p e s m args below meth c hC hr hin hav
  have j2 : ∀ (n : Nat), ∀ (x3 : Int32), fX1_alike_2 Z a0 a1 a2 n x3 X = some r → WW p l e (rmX 5 0 0) s m args below meth c 4 (MQ below (XQ E w z Z X (some (.int r))) args s 0 0 (A0 E)) E w 0 0 z Z 2 [(0, .ref (w.1 a0)), (1, .ref (w.1 a1)), (2, .ref (E.2.2.2.1 a2)), (3, .int x3)] [] X := by
    intro n
    induction n with
    | zero =>
      intro x3 h
      cases (show none = some r from h)
    | succ n ih =>
      intro x3 h
      rw [fX1_alike_2_s] at h
      refine ww_iload_n (pc := 2) hC dX1_alike_2 3 rfl ?_
      refine ww_aload_n (pc := 3) hC dX1_alike_3 2 rfl ?_
      obtain ⟨r2, h1, h⟩ := bnd_i h
      refine ww_callVsi (pc := 4) hC [] h_a2 (ceJ0_length_8abf5 h_a2 h1) ql_X1_75 qi_J0_length_8abf5 qs_J0_J0_length_8abf5 qn_J0 qc_J0_length_8abf5 rfl ⟨by decide, by decide, rfl⟩ rfl ⟨Nat.le_of_ble_eq_true rfl, Nat.le_of_ble_eq_true rfl⟩ (by decide) (rest := [.int x3]) (Nat.le_of_ble_eq_true rfl) dX1_alike_4 ⟨Nat.le_of_ble_eq_true rfl, Nat.le_of_ble_eq_true rfl⟩ rfl ?_
      refine ww_icmp_ge (pc := 7) hC h 34 dX1_alike_7 (by decide) (fun h => ?_) (fun h => ?_)
      · refine ww_iload_n (pc := 34) hC dX1_alike_34 3 rfl ?_
        exact ww_iret (pc := 35) hC hr (ret_r h) dX1_alike_35
      · refine ww_aload_n (pc := 10) hC dX1_alike_10 1 rfl ?_
        refine ww_aload_n (pc := 11) hC dX1_alike_11 0 rfl ?_
        refine ww_getI (pc := 12) hC 1 7 h_a0 RX1 (by decide) (by decide) rfl qf_X1_37 (Or.inl rfl) dX1_alike_12 ?_
        refine ww_iload_n (pc := 15) hC dX1_alike_15 3 rfl ?_
        refine ww_iadd (pc := 16) hC dX1_alike_16 ?_
        obtain ⟨r4, h3, h⟩ := bnd_i h
        refine ww_callVi (pc := 17) hC [.int ((X.1 a0 7) + x3)] h_a1.1 h_a1.2 (by decide) (ceX3_at hL h_a1 h3) ql_X1_49 qi_X3_at qs_X3_X3_at qn_X3 qc_X3_at rfl ⟨by decide, by decide, rfl⟩ rfl ⟨Nat.le_of_ble_eq_true rfl, Nat.le_of_ble_eq_true rfl⟩ (by decide) (rest := []) (Nat.le_of_ble_eq_true rfl) dX1_alike_17 ⟨Nat.le_of_ble_eq_true rfl, Nat.le_of_ble_eq_true rfl⟩ rfl ?_
        refine ww_aload_n (pc := 20) hC dX1_alike_20 2 rfl ?_
        refine ww_iload_n (pc := 21) hC dX1_alike_21 3 rfl ?_
        obtain ⟨r6, h5, h⟩ := bnd_i h
        refine ww_callVsi (pc := 22) hC [.int x3] h_a2 (ceJ0_charAt_5068e h_a2 h5) ql_X1_97 qi_J0_charAt_5068e qs_J0_J0_charAt_5068e qn_J0 qc_J0_charAt_5068e rfl ⟨by decide, by decide, rfl⟩ rfl ⟨Nat.le_of_ble_eq_true rfl, Nat.le_of_ble_eq_true rfl⟩ (by decide) (rest := [.int r4]) (Nat.le_of_ble_eq_true rfl) dX1_alike_22 ⟨Nat.le_of_ble_eq_true rfl, Nat.le_of_ble_eq_true rfl⟩ rfl ?_
        refine ww_icmp_ne (pc := 25) hC h 34 dX1_alike_25 (by decide) (fun h => ?_) (fun h => ?_)
        · refine ww_iload_n (pc := 34) hC dX1_alike_34 3 rfl ?_
          exact ww_iret (pc := 35) hC hr (ret_r h) dX1_alike_35
        · obtain ⟨y7, ey7⟩ : ∃ q, q = x3 + (1 : Int32) := ⟨_, rfl⟩
          replace h := nm_i h ey7
          refine ww_iinc (pc := 28) hC y7 [(3, .int y7), (0, .ref (w.1 a0)), (1, .ref (w.1 a1)), (2, .ref (E.2.2.2.1 a2))] dX1_alike_28 3 rfl (by rw [ey7]; rfl) (by decide) rfl ?_
          refine ww_goto (pc := 31) hC 2 dX1_alike_31 (by decide) ?_
          refine ww_sub [1, 2, 3, 0] rfl ?_
          exact ih _ h
  unfold fX1_alike at h
  refine ww_lv (lv' := [(0, .ref (w.1 a0)), (1, .ref (w.1 a1)), (2, .ref (E.2.2.2.1 a2))]) rfl ?_
  refine ww_iconst (pc := 0) hC (v := (0 : Int32)) dX1_alike_0 (by decide) ?_
  refine ww_istore_n (pc := 1) hC [(3, .int ((0 : Int32))), (0, .ref (w.1 a0)), (1, .ref (w.1 a1)), (2, .ref (E.2.2.2.1 a2))] dX1_alike_1 rfl (by decide) rfl ?_
  refine ww_sub [1, 2, 3, 0] rfl ?_
  exact j2 _ _ h
noncomputable def fX1_word_4 (Z : XS) (a0 : Nat) (a1 : Nat) (n : Nat) : Int32 → Int32 → XD → Option (Int32 × XD) := Nat.rec (motive := fun _ => Int32 → Int32 → XD → Option (Int32 × XD)) (fun _ _ _ => none) (fun _ f => fun x2 x3 X => if ((5 : Int32)) ≤ x3 then nm (wI X a0 7 ((X.1 a0 7) + x2)) (fun X_1 => some ((-1 : Int32), X_1)) else bnd (fX1_spelling Z x3 X) (fun r3 => bnd (fX1_alike Z a0 a1 r3 X) (fun r5 => bnd (fJ0_length_8abf5 r3 X) (fun r7 => if r5 = r7 then nm (wI X a0 7 ((X.1 a0 7) + r5)) (fun X_10 => some (x3, X_10)) else nm (if x2 < r5 then r5 else x2) (fun y8 => nm (x3 + (1 : Int32)) (fun y9 => f y8 y9 X)))))) n
theorem fX1_word_4_s (Z : XS) (a0 : Nat) (a1 : Nat) (n : Nat) (x2 : Int32) (x3 : Int32) (X : XD) : fX1_word_4 Z a0 a1 (n + 1) x2 x3 X = if ((5 : Int32)) ≤ x3 then nm (wI X a0 7 ((X.1 a0 7) + x2)) (fun X_1 => some ((-1 : Int32), X_1)) else bnd (fX1_spelling Z x3 X) (fun r3 => bnd (fX1_alike Z a0 a1 r3 X) (fun r5 => bnd (fJ0_length_8abf5 r3 X) (fun r7 => if r5 = r7 then nm (wI X a0 7 ((X.1 a0 7) + r5)) (fun X_10 => some (x3, X_10)) else nm (if x2 < r5 then r5 else x2) (fun y8 => nm (x3 + (1 : Int32)) (fun y9 => (fX1_word_4 Z a0 a1 n) y8 y9 X))))) := rfl
noncomputable def fX1_word (Z : XS) (a0 : Nat) (a1 : Nat) (X : XD) : Option (Int32 × XD) := fX1_word_4 Z a0 a1 FU ((0 : Int32)) ((0 : Int32)) X
set_option maxHeartbeats 40000000 in
set_option maxRecDepth 100000 in
theorem ceX1_word {l : Launch} {E : XE} {w : XW} {z : Nat} {Z : XS}  (hL : LayC Z) {a0 : Nat} (h_a0 : KK Z a0 1) {a1 : Nat} (h_a1 : KK Z a1 3) {X X1 : XD} {r : Int32} (h : fX1_word Z a0 a1 X = some (r, X1)) : Ct l E w yX1_word (wsM yX1_word cX1_word 6 (some .int)) (rmX 6 0 0) 0 0 [.ref (w.1 a0), .ref (w.1 a1)] z z Z Z X X1 (some (.int r)) := by
  refine ct_of (by decide) (Nat.le_of_ble_eq_true rfl) ?_
  intro p e s m args below meth c hC hr hin hav
  have j4 : ∀ (n : Nat), ∀ (x2 : Int32) (x3 : Int32) (X : XD), fX1_word_4 Z a0 a1 n x2 x3 X = some (r, X1) → WW p l e (rmX 6 0 0) s m args below meth c 6 (MQ below (XQ E w z Z X1 (some (.int r))) args s 0 0 (A0 E)) E w 0 0 z Z 4 [(0, .ref (w.1 a0)), (1, .ref (w.1 a1)), (2, .int x2), (3, .int x3)] [] X := by
    intro n
    induction n with
    | zero =>
      intro x2 x3 X h
      cases (show none = some (r, X1) from h)
    | succ n ih =>
      intro x2 x3 X h
      rw [fX1_word_4_s] at h
      refine ww_iload_n (pc := 4) hC dX1_word_4 3 rfl ?_
      refine ww_iconst (pc := 5) hC (v := (5 : Int32)) dX1_word_5 (by decide) ?_
      refine ww_icmp_ge (pc := 6) hC h 60 dX1_word_6 (by decide) (fun h => ?_) (fun h => ?_)
      · refine ww_aload_n (pc := 60) hC dX1_word_60 0 rfl ?_
        refine ww_dup (pc := 61) hC dX1_word_61 rfl ?_
        refine ww_getI (pc := 62) hC 1 7 h_a0 RX1 (by decide) (by decide) rfl qf_X1_37 (Or.inl rfl) dX1_word_62 ?_
        refine ww_iload_n (pc := 65) hC dX1_word_65 2 rfl ?_
        refine ww_iadd (pc := 66) hC dX1_word_66 ?_
        refine ww_putI (pc := 67) hC 1 7 h_a0 RX1 (by decide) (by decide) rfl qf_X1_37 rfl rfl rfl rfl dX1_word_67 ?_
        obtain ⟨X_1, eX_1⟩ : ∃ q, q = wI X a0 7 ((X.1 a0 7) + x2) := ⟨_, rfl⟩
        replace h := nm_i h eX_1
        refine ww_nmX eX_1 ?_
        refine ww_iconst (pc := 70) hC (v := (-1 : Int32)) dX1_word_70 (by decide) ?_
        exact ww_iret (pc := 71) hC hr h dX1_word_71
      · refine ww_iload_n (pc := 9) hC dX1_word_9 3 rfl ?_
        obtain ⟨r3, h2, h⟩ := bnd_i h
        refine ww_callSr (pc := 10) hC [.int x3] (ceX1_spelling hL h2) ql_X1_67 qt_X1_spelling qn_X1 qc_X1_spelling ⟨by decide, by decide, rfl⟩ rfl ⟨Nat.le_of_ble_eq_true rfl, Nat.le_of_ble_eq_true rfl⟩ (by decide) (rest := []) (Nat.le_of_ble_eq_true rfl) dX1_word_10 ⟨Nat.le_of_ble_eq_true rfl, Nat.le_of_ble_eq_true rfl⟩ rfl ?_
        refine ww_astore (pc := 13) hC [(4, .ref (E.2.2.2.1 r3)), (0, .ref (w.1 a0)), (1, .ref (w.1 a1)), (2, .int x2), (3, .int x3)] dX1_word_13  (by decide) rfl ?_
        refine ww_aload_n (pc := 15) hC dX1_word_15 1 rfl ?_
        refine ww_aload_n (pc := 16) hC dX1_word_16 2 rfl ?_
        refine ww_aload (pc := 17) hC dX1_word_17 0 rfl ?_
        obtain ⟨r5, h4, h⟩ := bnd_i h
        refine ww_callVi (pc := 19) hC [.ref (w.1 a1), .ref (E.2.2.2.1 r3)] h_a0.1 h_a0.2 (by decide) (ceX1_alike hL h_a0 h_a1 ((lt_X1_spelling h2)) h4) ql_X1_71 qi_X1_alike qs_X1_X1_alike qn_X1 qc_X1_alike rfl ⟨by decide, by decide, rfl⟩ rfl ⟨Nat.le_of_ble_eq_true rfl, Nat.le_of_ble_eq_true rfl⟩ (by decide) (rest := []) (Nat.le_of_ble_eq_true rfl) dX1_word_19 ⟨Nat.le_of_ble_eq_true rfl, Nat.le_of_ble_eq_true rfl⟩ rfl ?_
        refine ww_istore (pc := 22) hC [(5, .int r5), (4, .ref (E.2.2.2.1 r3)), (0, .ref (w.1 a0)), (1, .ref (w.1 a1)), (2, .int x2), (3, .int x3)] dX1_word_22  (by decide) rfl ?_
        refine ww_iload (pc := 24) hC dX1_word_24 0 rfl ?_
        refine ww_aload (pc := 26) hC dX1_word_26 1 rfl ?_
        obtain ⟨r7, h6, h⟩ := bnd_i h
        refine ww_callVsi (pc := 28) hC [] ((lt_X1_spelling h2)) (ceJ0_length_8abf5 ((lt_X1_spelling h2)) h6) ql_X1_75 qi_J0_length_8abf5 qs_J0_J0_length_8abf5 qn_J0 qc_J0_length_8abf5 rfl ⟨by decide, by decide, rfl⟩ rfl ⟨Nat.le_of_ble_eq_true rfl, Nat.le_of_ble_eq_true rfl⟩ (by decide) (rest := [.int r5]) (Nat.le_of_ble_eq_true rfl) dX1_word_28 ⟨Nat.le_of_ble_eq_true rfl, Nat.le_of_ble_eq_true rfl⟩ rfl ?_
        refine ww_icmp_ne (pc := 31) hC h 47 dX1_word_31 (by decide) (fun h => ?_) (fun h => ?_)
        · refine ww_iload_n (pc := 47) hC dX1_word_47 4 rfl ?_
          refine ww_iload (pc := 48) hC dX1_word_48 0 rfl ?_
          refine ww_max (pc := 50) hC ql_X1_81 qt_J9_max_7cf53 qn_J9 qc_J9_max_7cf53 dX1_word_50 ⟨Nat.le_of_ble_eq_true rfl, Nat.le_of_ble_eq_true rfl⟩ (Nat.le_of_ble_eq_true rfl) ⟨Nat.le_of_ble_eq_true rfl, Nat.le_of_ble_eq_true rfl⟩ ?_
          obtain ⟨y8, ey8⟩ : ∃ q, q = if x2 < r5 then r5 else x2 := ⟨_, rfl⟩
          replace h := nm_i h ey8
          refine ww_nmi ey8 ?_
          refine ww_istore_n (pc := 53) hC [(2, .int y8), (5, .int r5), (4, .ref (E.2.2.2.1 r3)), (0, .ref (w.1 a0)), (1, .ref (w.1 a1)), (3, .int x3)] dX1_word_53 rfl (by decide) rfl ?_
          obtain ⟨y9, ey9⟩ : ∃ q, q = x3 + (1 : Int32) := ⟨_, rfl⟩
          replace h := nm_i h ey9
          refine ww_iinc (pc := 54) hC y9 [(3, .int y9), (2, .int y8), (5, .int r5), (4, .ref (E.2.2.2.1 r3)), (0, .ref (w.1 a0)), (1, .ref (w.1 a1))] dX1_word_54 5 rfl (by rw [ey9]; rfl) (by decide) rfl ?_
          refine ww_goto (pc := 57) hC 4 dX1_word_57 (by decide) ?_
          refine ww_sub [4, 5, 1, 0] rfl ?_
          exact ih _ _ _ h
        · refine ww_aload_n (pc := 34) hC dX1_word_34 2 rfl ?_
          refine ww_dup (pc := 35) hC dX1_word_35 rfl ?_
          refine ww_getI (pc := 36) hC 1 7 h_a0 RX1 (by decide) (by decide) rfl qf_X1_37 (Or.inl rfl) dX1_word_36 ?_
          refine ww_iload (pc := 39) hC dX1_word_39 0 rfl ?_
          refine ww_iadd (pc := 41) hC dX1_word_41 ?_
          refine ww_putI (pc := 42) hC 1 7 h_a0 RX1 (by decide) (by decide) rfl qf_X1_37 rfl rfl rfl rfl dX1_word_42 ?_
          obtain ⟨X_10, eX_10⟩ : ∃ q, q = wI X a0 7 ((X.1 a0 7) + r5) := ⟨_, rfl⟩
          replace h := nm_i h eX_10
          refine ww_nmX eX_10 ?_
          refine ww_iload_n (pc := 45) hC dX1_word_45 5 rfl ?_
          exact ww_iret (pc := 46) hC hr h dX1_word_46
  unfold fX1_word at h
  refine ww_lv (lv' := [(0, .ref (w.1 a0)), (1, .ref (w.1 a1))]) rfl ?_
  refine ww_iconst (pc := 0) hC (v := (0 : Int32)) dX1_word_0 (by decide) ?_
  refine ww_istore_n (pc := 1) hC [(2, .int ((0 : Int32))), (0, .ref (w.1 a0)), (1, .ref (w.1 a1))] dX1_word_1 rfl (by decide) rfl ?_
  refine ww_iconst (pc := 2) hC (v := (0 : Int32)) dX1_word_2 (by decide) ?_
  refine ww_istore_n (pc := 3) hC [(3, .int ((0 : Int32))), (2, .int ((0 : Int32))), (0, .ref (w.1 a0)), (1, .ref (w.1 a1))] dX1_word_3 rfl (by decide) rfl ?_
  refine ww_sub [2, 3, 1, 0] rfl ?_
  exact j4 _ _ _ _ h
noncomputable def fX1_oneOf (Z : XS) (a0 : Nat) (a1 : Nat) (a2 : Nat) (X : XD) : Option (Int32 × XD) := bnd (fX3_at Z a1 (X.1 a0 7) X) (fun r2 => if 0 ≤ r2 then bnd (fJ0_indexOf_0f7a4 a2 ((r2.toUInt32 % 65536).toInt32) X) (fun r4 => if r4 < 0 then some (r4, X) else nm (wI X a0 7 ((X.1 a0 7) + ((1 : Int32)))) (fun X_5 => some (r4, X_5))) else some ((-1 : Int32), X))
set_option maxHeartbeats 40000000 in
set_option maxRecDepth 100000 in
theorem ceX1_oneOf {l : Launch} {E : XE} {w : XW} {z : Nat} {Z : XS}  (hL : LayC Z) {a0 : Nat} (h_a0 : KK Z a0 1) {a1 : Nat} (h_a1 : KK Z a1 3) {a2 : Nat} (h_a2 : a2 < 7) {X X1 : XD} {r : Int32} (h : fX1_oneOf Z a0 a1 a2 X = some (r, X1)) : Ct l E w yX1_oneOf (wsM yX1_oneOf cX1_oneOf 5 (some .int)) (rmX 5 0 0) 0 0 [.ref (w.1 a0), .ref (w.1 a1), .ref (E.2.2.2.1 a2)] z z Z Z X X1 (some (.int r)) := by
  refine ct_of (by decide) (Nat.le_of_ble_eq_true rfl) ?_
  intro p e s m args below meth c hC hr hin hav
  unfold fX1_oneOf at h
  refine ww_lv (lv' := [(0, .ref (w.1 a0)), (1, .ref (w.1 a1)), (2, .ref (E.2.2.2.1 a2))]) rfl ?_
  refine ww_aload_n (pc := 0) hC dX1_oneOf_0 1 rfl ?_
  refine ww_aload_n (pc := 1) hC dX1_oneOf_1 0 rfl ?_
  refine ww_getI (pc := 2) hC 1 7 h_a0 RX1 (by decide) (by decide) rfl qf_X1_37 (Or.inl rfl) dX1_oneOf_2 ?_
  obtain ⟨r2, h1, h⟩ := bnd_i h
  refine ww_callVi (pc := 5) hC [.int (X.1 a0 7)] h_a1.1 h_a1.2 (by decide) (ceX3_at hL h_a1 h1) ql_X1_49 qi_X3_at qs_X3_X3_at qn_X3 qc_X3_at rfl ⟨by decide, by decide, rfl⟩ rfl ⟨Nat.le_of_ble_eq_true rfl, Nat.le_of_ble_eq_true rfl⟩ (by decide) (rest := []) (Nat.le_of_ble_eq_true rfl) dX1_oneOf_5 ⟨Nat.le_of_ble_eq_true rfl, Nat.le_of_ble_eq_true rfl⟩ rfl ?_
  refine ww_istore_n (pc := 8) hC [(3, .int r2), (0, .ref (w.1 a0)), (1, .ref (w.1 a1)), (2, .ref (E.2.2.2.1 a2))] dX1_oneOf_8 rfl (by decide) rfl ?_
  refine ww_iload_n (pc := 9) hC dX1_oneOf_9 0 rfl ?_
  refine ww_if_ge (pc := 10) hC h 15 dX1_oneOf_10 (by decide) (fun h => ?_) (fun h => ?_)
  · refine ww_aload_n (pc := 15) hC dX1_oneOf_15 3 rfl ?_
    refine ww_iload_n (pc := 16) hC dX1_oneOf_16 0 rfl ?_
    refine ww_i2c (pc := 17) hC dX1_oneOf_17 ?_
    obtain ⟨r4, h3, h⟩ := bnd_i h
    refine ww_callVsi (pc := 18) hC [.int ((r2.toUInt32 % 65536).toInt32)] h_a2 (ceJ0_indexOf_0f7a4 h_a2 h3) ql_X1_124 qi_J0_indexOf_0f7a4 qs_J0_J0_indexOf_0f7a4 qn_J0 qc_J0_indexOf_0f7a4 rfl ⟨by decide, by decide, rfl⟩ rfl ⟨Nat.le_of_ble_eq_true rfl, Nat.le_of_ble_eq_true rfl⟩ (by decide) (rest := []) (Nat.le_of_ble_eq_true rfl) dX1_oneOf_18 ⟨Nat.le_of_ble_eq_true rfl, Nat.le_of_ble_eq_true rfl⟩ rfl ?_
    refine ww_istore (pc := 21) hC [(4, .int r4), (3, .int r2), (0, .ref (w.1 a0)), (1, .ref (w.1 a1)), (2, .ref (E.2.2.2.1 a2))] dX1_oneOf_21  (by decide) rfl ?_
    refine ww_iload (pc := 23) hC dX1_oneOf_23 0 rfl ?_
    refine ww_if_lt (pc := 25) hC h 38 dX1_oneOf_25 (by decide) (fun h => ?_) (fun h => ?_)
    · refine ww_iload (pc := 38) hC dX1_oneOf_38 0 rfl ?_
      exact ww_iret (pc := 40) hC hr h dX1_oneOf_40
    · refine ww_aload_n (pc := 28) hC dX1_oneOf_28 2 rfl ?_
      refine ww_dup (pc := 29) hC dX1_oneOf_29 rfl ?_
      refine ww_getI (pc := 30) hC 1 7 h_a0 RX1 (by decide) (by decide) rfl qf_X1_37 (Or.inl rfl) dX1_oneOf_30 ?_
      refine ww_iconst (pc := 33) hC (v := (1 : Int32)) dX1_oneOf_33 (by decide) ?_
      refine ww_iadd (pc := 34) hC dX1_oneOf_34 ?_
      refine ww_putI (pc := 35) hC 1 7 h_a0 RX1 (by decide) (by decide) rfl qf_X1_37 rfl rfl rfl rfl dX1_oneOf_35 ?_
      obtain ⟨X_5, eX_5⟩ : ∃ q, q = wI X a0 7 ((X.1 a0 7) + ((1 : Int32))) := ⟨_, rfl⟩
      replace h := nm_i h eX_5
      refine ww_nmX eX_5 ?_
      refine ww_iload (pc := 38) hC dX1_oneOf_38 0 rfl ?_
      exact ww_iret (pc := 40) hC hr h dX1_oneOf_40
  · refine ww_iconst (pc := 13) hC (v := (-1 : Int32)) dX1_oneOf_13 (by decide) ?_
    exact ww_iret (pc := 14) hC hr h dX1_oneOf_14
noncomputable def fX1_both_53 (Z : XS) (u : Nat → Nat → Int32 → XD → Option (Int32 × XD)) (a0 : Nat) (a1 : Nat) (k10 : Int32 → Int32 → Int32 → XD → Option (Int32 × XD)) (x2 : Int32) (x4 : Int32) (s0 : Int32) (X : XD) : Option (Int32 × XD) := nm (x4 + (1 : Int32)) (fun y16 => k10 x2 s0 y16 X)
noncomputable def fX1_both_52 (Z : XS) (u : Nat → Nat → Int32 → XD → Option (Int32 × XD)) (a0 : Nat) (a1 : Nat) (k10 : Int32 → Int32 → Int32 → XD → Option (Int32 × XD)) (x2 : Int32) (x4 : Int32) (X : XD) : Option (Int32 × XD) := fX1_both_53 Z u a0 a1 k10 x2 x4 ((0 : Int32)) X
noncomputable def fX1_both_10 (Z : XS) (u : Nat → Nat → Int32 → XD → Option (Int32 × XD)) (a0 : Nat) (a1 : Nat) (n : Nat) : Int32 → Int32 → Int32 → XD → Option (Int32 × XD) := Nat.rec (motive := fun _ => Int32 → Int32 → Int32 → XD → Option (Int32 × XD)) (fun _ _ _ _ => none) (fun _ f => fun x2 x3 x4 X => if ((100 : Int32)) ≤ x4 then gb x3 (some (x3, X)) else if x3 = 0 then gb x3 (some (x3, X)) else bnw (fX1_skip Z a0 a1 ((38 : Int32)) X) (fun r7 X_8 => if r7 = 0 then gb x3 (some (x3, X_8)) else bnw (u a0 a1 x2 X_8) (fun r11 X_12 => if r11 = 0 then fX1_both_52 Z u a0 a1 (f) x2 x4 X_12 else bnw (fX1_addStep Z a0 ((-1 : Int32)) X_12) (fun r14 X_15 => if r14 = 0 then fX1_both_52 Z u a0 a1 (f) x2 x4 X_15 else fX1_both_53 Z u a0 a1 (f) x2 x4 ((1 : Int32)) X_15)))) n
theorem fX1_both_10_s (Z : XS) (u : Nat → Nat → Int32 → XD → Option (Int32 × XD)) (a0 : Nat) (a1 : Nat) (n : Nat) (x2 : Int32) (x3 : Int32) (x4 : Int32) (X : XD) : fX1_both_10 Z u a0 a1 (n + 1) x2 x3 x4 X = if ((100 : Int32)) ≤ x4 then gb x3 (some (x3, X)) else if x3 = 0 then gb x3 (some (x3, X)) else bnw (fX1_skip Z a0 a1 ((38 : Int32)) X) (fun r7 X_8 => if r7 = 0 then gb x3 (some (x3, X_8)) else bnw (u a0 a1 x2 X_8) (fun r11 X_12 => if r11 = 0 then fX1_both_52 Z u a0 a1 ((fX1_both_10 Z u a0 a1 n)) x2 x4 X_12 else bnw (fX1_addStep Z a0 ((-1 : Int32)) X_12) (fun r14 X_15 => if r14 = 0 then fX1_both_52 Z u a0 a1 ((fX1_both_10 Z u a0 a1 n)) x2 x4 X_15 else fX1_both_53 Z u a0 a1 ((fX1_both_10 Z u a0 a1 n)) x2 x4 ((1 : Int32)) X_15))) := rfl
noncomputable def fX1_both (Z : XS) (u : Nat → Nat → Int32 → XD → Option (Int32 × XD)) (a0 : Nat) (a1 : Nat) (x2 : Int32) (X : XD) : Option (Int32 × XD) := bnw (u a0 a1 x2 X) (fun r2 X_3 => fX1_both_10 Z u a0 a1 FU x2 r2 ((0 : Int32)) X_3)
set_option maxHeartbeats 40000000 in
set_option maxRecDepth 100000 in
theorem ceX1_both {l : Launch} {E : XE} {w : XW} {z : Nat} {Z : XS} {k : Nat} {u : Nat → Nat → Int32 → XD → Option (Int32 × XD)} (hu : ∀ {a0 a1 : Nat} (_ : KK Z a0 1) (_ : KK Z a1 3) {x2 : Int32} {X X1 : XD} {r : Int32}, u a0 a1 x2 X = some (r, X1) → Ct l E w yX1_unit (wsM yX1_unit cX1_unit 6 (some .boolean)) (rmX k 0 0) 0 0 [.ref (w.1 a0), .ref (w.1 a1), .int x2] z z Z Z X X1 (some (.int r))) (hk : 6 ≤ k)  (hL : LayC Z) {a0 : Nat} (h_a0 : KK Z a0 1) {a1 : Nat} (h_a1 : KK Z a1 3) {x2 : Int32} {X X1 : XD} {r : Int32} (h : fX1_both Z u a0 a1 x2 X = some (r, X1)) : Ct l E w yX1_both (wsM yX1_both cX1_both 5 (some .boolean)) (rmX (k + 1) 0 0) 0 0 [.ref (w.1 a0), .ref (w.1 a1), .int x2] z z Z Z X X1 (some (.int r)) := by
  refine ct_of (by decide) (Nat.le_of_ble_eq_true rfl) ?_
  intro p e s m args below meth c hC hr hin hav
  have j53 : ∀ (k10 : Int32 → Int32 → Int32 → XD → Option (Int32 × XD)) (hk10 : ∀ (x2 : Int32) (x3 : Int32) (x4 : Int32) (X : XD), k10 x2 x3 x4 X = some (r, X1) → WW p l e (rmX (k + 1) 0 0) s m args below meth c 5 (MQ below (XQ E w z Z X1 (some (.int r))) args s 0 0 (A0 E)) E w 0 0 z Z 10 [(0, .ref (w.1 a0)), (1, .ref (w.1 a1)), (2, .int x2), (3, .int x3), (4, .int x4)] [] X), ∀ (x2 : Int32) (x4 : Int32) (s0 : Int32) (X : XD), fX1_both_53 Z u a0 a1 k10 x2 x4 s0 X = some (r, X1) → WW p l e (rmX (k + 1) 0 0) s m args below meth c 5 (MQ below (XQ E w z Z X1 (some (.int r))) args s 0 0 (A0 E)) E w 0 0 z Z 53 [(0, .ref (w.1 a0)), (1, .ref (w.1 a1)), (2, .int x2), (4, .int x4)] [.int s0] X := by
    intro k10 hk10 x2 x4 s0 X h
    unfold fX1_both_53 at h
    refine ww_istore_n (pc := 53) hC [(3, .int s0), (0, .ref (w.1 a0)), (1, .ref (w.1 a1)), (2, .int x2), (4, .int x4)] dX1_both_53 rfl (by decide) rfl ?_
    obtain ⟨y16, ey16⟩ : ∃ q, q = x4 + (1 : Int32) := ⟨_, rfl⟩
    replace h := nm_i h ey16
    refine ww_iinc (pc := 54) hC y16 [(4, .int y16), (3, .int s0), (0, .ref (w.1 a0)), (1, .ref (w.1 a1)), (2, .int x2)] dX1_both_54 4 rfl (by rw [ey16]; rfl) (by decide) rfl ?_
    refine ww_goto (pc := 57) hC 10 dX1_both_57 (by decide) ?_
    refine ww_sub [2, 3, 4, 1, 0] rfl ?_
    exact hk10 _ _ _ _ h
  have j52 : ∀ (k10 : Int32 → Int32 → Int32 → XD → Option (Int32 × XD)) (hk10 : ∀ (x2 : Int32) (x3 : Int32) (x4 : Int32) (X : XD), k10 x2 x3 x4 X = some (r, X1) → WW p l e (rmX (k + 1) 0 0) s m args below meth c 5 (MQ below (XQ E w z Z X1 (some (.int r))) args s 0 0 (A0 E)) E w 0 0 z Z 10 [(0, .ref (w.1 a0)), (1, .ref (w.1 a1)), (2, .int x2), (3, .int x3), (4, .int x4)] [] X), ∀ (x2 : Int32) (x4 : Int32) (X : XD), fX1_both_52 Z u a0 a1 k10 x2 x4 X = some (r, X1) → WW p l e (rmX (k + 1) 0 0) s m args below meth c 5 (MQ below (XQ E w z Z X1 (some (.int r))) args s 0 0 (A0 E)) E w 0 0 z Z 52 [(0, .ref (w.1 a0)), (1, .ref (w.1 a1)), (2, .int x2), (4, .int x4)] [] X := by
    intro k10 hk10 x2 x4 X h
    unfold fX1_both_52 at h
    refine ww_iconst (pc := 52) hC (v := (0 : Int32)) dX1_both_52 (by decide) ?_
    refine ww_sub [0, 1, 2, 3] rfl ?_
    exact j53 _ hk10 _ _ _ _ h
  have j10 : ∀ (n : Nat), ∀ (x2 : Int32) (x3 : Int32) (x4 : Int32) (X : XD), fX1_both_10 Z u a0 a1 n x2 x3 x4 X = some (r, X1) → WW p l e (rmX (k + 1) 0 0) s m args below meth c 5 (MQ below (XQ E w z Z X1 (some (.int r))) args s 0 0 (A0 E)) E w 0 0 z Z 10 [(0, .ref (w.1 a0)), (1, .ref (w.1 a1)), (2, .int x2), (3, .int x3), (4, .int x4)] [] X := by
    intro n
    induction n with
    | zero =>
      intro x2 x3 x4 X h
      cases (show none = some (r, X1) from h)
    | succ n ih =>
      intro x2 x3 x4 X h
      rw [fX1_both_10_s] at h
      refine ww_iload (pc := 10) hC dX1_both_10 4 rfl ?_
      refine ww_bipush (pc := 12) hC (v := (100 : Int32)) dX1_both_12 (by decide) ?_
      refine ww_icmp_ge (pc := 14) hC h 60 dX1_both_14 (by decide) (fun h => ?_) (fun h => ?_)
      · refine ww_iload_n (pc := 60) hC dX1_both_60 3 rfl ?_
        obtain ⟨hb4, h⟩ := gb_i h
        exact ww_zret (pc := 61) hC hr (gb_n hb4) h dX1_both_61
      · refine ww_iload_n (pc := 17) hC dX1_both_17 3 rfl ?_
        refine ww_if_eq (pc := 18) hC h 60 dX1_both_18 (by decide) (fun h => ?_) (fun h => ?_)
        · refine ww_iload_n (pc := 60) hC dX1_both_60 3 rfl ?_
          obtain ⟨hb5, h⟩ := gb_i h
          exact ww_zret (pc := 61) hC hr (gb_n hb5) h dX1_both_61
        · refine ww_aload_n (pc := 21) hC dX1_both_21 0 rfl ?_
          refine ww_aload_n (pc := 22) hC dX1_both_22 1 rfl ?_
          refine ww_bipush (pc := 23) hC (v := (38 : Int32)) dX1_both_23 (by decide) ?_
          obtain ⟨r7, X_8, h6, h⟩ := bnw_i h
          refine ww_callVi (pc := 25) hC [.ref (w.1 a1), .int ((38 : Int32))] h_a0.1 h_a0.2 (by decide) (ceX1_skip hL h_a0 h_a1 h6) ql_X1_57 qi_X1_skip qs_X1_X1_skip qn_X1 qc_X1_skip rfl ⟨by decide, by decide, rfl⟩ rfl (x_lev (k := 2) (k2 := k + 1) (by omega)) (by decide) (rest := []) (Nat.le_of_ble_eq_true rfl) dX1_both_25 ⟨Nat.le_of_ble_eq_true rfl, Nat.le_of_ble_eq_true rfl⟩ rfl ?_
          refine ww_if_eq (pc := 28) hC h 60 dX1_both_28 (by decide) (fun h => ?_) (fun h => ?_)
          · refine ww_iload_n (pc := 60) hC dX1_both_60 3 rfl ?_
            obtain ⟨hb9, h⟩ := gb_i h
            exact ww_zret (pc := 61) hC hr (gb_n hb9) h dX1_both_61
          · refine ww_aload_n (pc := 31) hC dX1_both_31 0 rfl ?_
            refine ww_aload_n (pc := 32) hC dX1_both_32 1 rfl ?_
            refine ww_iload_n (pc := 33) hC dX1_both_33 2 rfl ?_
            obtain ⟨r11, X_12, h10, h⟩ := bnw_i h
            refine ww_callVi (pc := 34) hC [.ref (w.1 a1), .int x2] h_a0.1 h_a0.2 (by decide) (hu h_a0 h_a1 h10) ql_X1_111 qi_X1_unit qs_X1_X1_unit qn_X1 qc_X1_unit rfl ⟨by decide, by decide, rfl⟩ rfl (x_lev (k := k) (k2 := k + 1) (by omega)) (by decide) (rest := []) (Nat.le_of_ble_eq_true rfl) dX1_both_34 ⟨Nat.le_of_ble_eq_true rfl, Nat.le_of_ble_eq_true rfl⟩ rfl ?_
            refine ww_if_eq (pc := 37) hC h 52 dX1_both_37 (by decide) (fun h => ?_) (fun h => ?_)
            · refine ww_sub [0, 1, 2, 4] rfl ?_
              exact j52 _ ih _ _ _ h
            · refine ww_aload_n (pc := 40) hC dX1_both_40 0 rfl ?_
              refine ww_iconst (pc := 41) hC (v := (-1 : Int32)) dX1_both_41 (by decide) ?_
              obtain ⟨r14, X_15, h13, h⟩ := bnw_i h
              refine ww_callVi (pc := 42) hC [.int ((-1 : Int32))] h_a0.1 h_a0.2 (by decide) (ceX1_addStep hL h_a0 h13) ql_X1_108 qi_X1_addStep qs_X1_X1_addStep qn_X1 qc_X1_addStep rfl ⟨by decide, by decide, rfl⟩ rfl (x_lev (k := 1) (k2 := k + 1) (by omega)) (by decide) (rest := []) (Nat.le_of_ble_eq_true rfl) dX1_both_42 ⟨Nat.le_of_ble_eq_true rfl, Nat.le_of_ble_eq_true rfl⟩ rfl ?_
              refine ww_if_eq (pc := 45) hC h 52 dX1_both_45 (by decide) (fun h => ?_) (fun h => ?_)
              · refine ww_sub [0, 1, 2, 4] rfl ?_
                exact j52 _ ih _ _ _ h
              · refine ww_iconst (pc := 48) hC (v := (1 : Int32)) dX1_both_48 (by decide) ?_
                refine ww_goto (pc := 49) hC 53 dX1_both_49 (by decide) ?_
                refine ww_sub [0, 1, 2, 4] rfl ?_
                exact j53 _ ih _ _ _ _ h
  unfold fX1_both at h
  refine ww_lv (lv' := [(0, .ref (w.1 a0)), (1, .ref (w.1 a1)), (2, .int x2)]) rfl ?_
  refine ww_aload_n (pc := 0) hC dX1_both_0 0 rfl ?_
  refine ww_aload_n (pc := 1) hC dX1_both_1 1 rfl ?_
  refine ww_iload_n (pc := 2) hC dX1_both_2 2 rfl ?_
  obtain ⟨r2, X_3, h1, h⟩ := bnw_i h
  refine ww_callVi (pc := 3) hC [.ref (w.1 a1), .int x2] h_a0.1 h_a0.2 (by decide) (hu h_a0 h_a1 h1) ql_X1_111 qi_X1_unit qs_X1_X1_unit qn_X1 qc_X1_unit rfl ⟨by decide, by decide, rfl⟩ rfl (x_lev (k := k) (k2 := k + 1) (by omega)) (by decide) (rest := []) (Nat.le_of_ble_eq_true rfl) dX1_both_3 ⟨Nat.le_of_ble_eq_true rfl, Nat.le_of_ble_eq_true rfl⟩ rfl ?_
  refine ww_istore_n (pc := 6) hC [(3, .int r2), (0, .ref (w.1 a0)), (1, .ref (w.1 a1)), (2, .int x2)] dX1_both_6 rfl (by decide) rfl ?_
  refine ww_iconst (pc := 7) hC (v := (0 : Int32)) dX1_both_7 (by decide) ?_
  refine ww_istore (pc := 8) hC [(4, .int ((0 : Int32))), (3, .int r2), (0, .ref (w.1 a0)), (1, .ref (w.1 a1)), (2, .int x2)] dX1_both_8  (by decide) rfl ?_
  refine ww_sub [2, 3, 4, 1, 0] rfl ?_
  exact j10 _ _ _ _ _ h
noncomputable def fX1_either_54 (Z : XS) (u : Nat → Nat → Int32 → XD → Option (Int32 × XD)) (a0 : Nat) (a1 : Nat) (k10 : Int32 → Int32 → Int32 → XD → Option (Int32 × XD)) (x2 : Int32) (x4 : Int32) (s0 : Int32) (X : XD) : Option (Int32 × XD) := nm (x4 + (1 : Int32)) (fun y16 => k10 x2 s0 y16 X)
noncomputable def fX1_either_53 (Z : XS) (u : Nat → Nat → Int32 → XD → Option (Int32 × XD)) (a0 : Nat) (a1 : Nat) (k10 : Int32 → Int32 → Int32 → XD → Option (Int32 × XD)) (x2 : Int32) (x4 : Int32) (X : XD) : Option (Int32 × XD) := fX1_either_54 Z u a0 a1 k10 x2 x4 ((0 : Int32)) X
noncomputable def fX1_either_10 (Z : XS) (u : Nat → Nat → Int32 → XD → Option (Int32 × XD)) (a0 : Nat) (a1 : Nat) (n : Nat) : Int32 → Int32 → Int32 → XD → Option (Int32 × XD) := Nat.rec (motive := fun _ => Int32 → Int32 → Int32 → XD → Option (Int32 × XD)) (fun _ _ _ _ => none) (fun _ f => fun x2 x3 x4 X => if ((100 : Int32)) ≤ x4 then gb x3 (some (x3, X)) else if x3 = 0 then gb x3 (some (x3, X)) else bnw (fX1_skip Z a0 a1 ((124 : Int32)) X) (fun r7 X_8 => if r7 = 0 then gb x3 (some (x3, X_8)) else bnw (fX1_both Z u a0 a1 x2 X_8) (fun r11 X_12 => if r11 = 0 then fX1_either_53 Z u a0 a1 (f) x2 x4 X_12 else bnw (fX1_addStep Z a0 ((-2 : Int32)) X_12) (fun r14 X_15 => if r14 = 0 then fX1_either_53 Z u a0 a1 (f) x2 x4 X_15 else fX1_either_54 Z u a0 a1 (f) x2 x4 ((1 : Int32)) X_15)))) n
theorem fX1_either_10_s (Z : XS) (u : Nat → Nat → Int32 → XD → Option (Int32 × XD)) (a0 : Nat) (a1 : Nat) (n : Nat) (x2 : Int32) (x3 : Int32) (x4 : Int32) (X : XD) : fX1_either_10 Z u a0 a1 (n + 1) x2 x3 x4 X = if ((100 : Int32)) ≤ x4 then gb x3 (some (x3, X)) else if x3 = 0 then gb x3 (some (x3, X)) else bnw (fX1_skip Z a0 a1 ((124 : Int32)) X) (fun r7 X_8 => if r7 = 0 then gb x3 (some (x3, X_8)) else bnw (fX1_both Z u a0 a1 x2 X_8) (fun r11 X_12 => if r11 = 0 then fX1_either_53 Z u a0 a1 ((fX1_either_10 Z u a0 a1 n)) x2 x4 X_12 else bnw (fX1_addStep Z a0 ((-2 : Int32)) X_12) (fun r14 X_15 => if r14 = 0 then fX1_either_53 Z u a0 a1 ((fX1_either_10 Z u a0 a1 n)) x2 x4 X_15 else fX1_either_54 Z u a0 a1 ((fX1_either_10 Z u a0 a1 n)) x2 x4 ((1 : Int32)) X_15))) := rfl
noncomputable def fX1_either (Z : XS) (u : Nat → Nat → Int32 → XD → Option (Int32 × XD)) (a0 : Nat) (a1 : Nat) (x2 : Int32) (X : XD) : Option (Int32 × XD) := bnw (fX1_both Z u a0 a1 x2 X) (fun r2 X_3 => fX1_either_10 Z u a0 a1 FU x2 r2 ((0 : Int32)) X_3)
set_option maxHeartbeats 40000000 in
set_option maxRecDepth 100000 in
theorem ceX1_either {l : Launch} {E : XE} {w : XW} {z : Nat} {Z : XS} {k : Nat} {u : Nat → Nat → Int32 → XD → Option (Int32 × XD)} (hu : ∀ {a0 a1 : Nat} (_ : KK Z a0 1) (_ : KK Z a1 3) {x2 : Int32} {X X1 : XD} {r : Int32}, u a0 a1 x2 X = some (r, X1) → Ct l E w yX1_unit (wsM yX1_unit cX1_unit 6 (some .boolean)) (rmX k 0 0) 0 0 [.ref (w.1 a0), .ref (w.1 a1), .int x2] z z Z Z X X1 (some (.int r))) (hk : 6 ≤ k)  (hL : LayC Z) {a0 : Nat} (h_a0 : KK Z a0 1) {a1 : Nat} (h_a1 : KK Z a1 3) {x2 : Int32} {X X1 : XD} {r : Int32} (h : fX1_either Z u a0 a1 x2 X = some (r, X1)) : Ct l E w yX1_either (wsM yX1_either cX1_either 5 (some .boolean)) (rmX (k + 2) 0 0) 0 0 [.ref (w.1 a0), .ref (w.1 a1), .int x2] z z Z Z X X1 (some (.int r)) := by
  refine ct_of (by decide) (Nat.le_of_ble_eq_true rfl) ?_
  intro p e s m args below meth c hC hr hin hav
  have j54 : ∀ (k10 : Int32 → Int32 → Int32 → XD → Option (Int32 × XD)) (hk10 : ∀ (x2 : Int32) (x3 : Int32) (x4 : Int32) (X : XD), k10 x2 x3 x4 X = some (r, X1) → WW p l e (rmX (k + 2) 0 0) s m args below meth c 5 (MQ below (XQ E w z Z X1 (some (.int r))) args s 0 0 (A0 E)) E w 0 0 z Z 10 [(0, .ref (w.1 a0)), (1, .ref (w.1 a1)), (2, .int x2), (3, .int x3), (4, .int x4)] [] X), ∀ (x2 : Int32) (x4 : Int32) (s0 : Int32) (X : XD), fX1_either_54 Z u a0 a1 k10 x2 x4 s0 X = some (r, X1) → WW p l e (rmX (k + 2) 0 0) s m args below meth c 5 (MQ below (XQ E w z Z X1 (some (.int r))) args s 0 0 (A0 E)) E w 0 0 z Z 54 [(0, .ref (w.1 a0)), (1, .ref (w.1 a1)), (2, .int x2), (4, .int x4)] [.int s0] X := by
    intro k10 hk10 x2 x4 s0 X h
    unfold fX1_either_54 at h
    refine ww_istore_n (pc := 54) hC [(3, .int s0), (0, .ref (w.1 a0)), (1, .ref (w.1 a1)), (2, .int x2), (4, .int x4)] dX1_either_54 rfl (by decide) rfl ?_
    obtain ⟨y16, ey16⟩ : ∃ q, q = x4 + (1 : Int32) := ⟨_, rfl⟩
    replace h := nm_i h ey16
    refine ww_iinc (pc := 55) hC y16 [(4, .int y16), (3, .int s0), (0, .ref (w.1 a0)), (1, .ref (w.1 a1)), (2, .int x2)] dX1_either_55 4 rfl (by rw [ey16]; rfl) (by decide) rfl ?_
    refine ww_goto (pc := 58) hC 10 dX1_either_58 (by decide) ?_
    refine ww_sub [2, 3, 4, 1, 0] rfl ?_
    exact hk10 _ _ _ _ h
  have j53 : ∀ (k10 : Int32 → Int32 → Int32 → XD → Option (Int32 × XD)) (hk10 : ∀ (x2 : Int32) (x3 : Int32) (x4 : Int32) (X : XD), k10 x2 x3 x4 X = some (r, X1) → WW p l e (rmX (k + 2) 0 0) s m args below meth c 5 (MQ below (XQ E w z Z X1 (some (.int r))) args s 0 0 (A0 E)) E w 0 0 z Z 10 [(0, .ref (w.1 a0)), (1, .ref (w.1 a1)), (2, .int x2), (3, .int x3), (4, .int x4)] [] X), ∀ (x2 : Int32) (x4 : Int32) (X : XD), fX1_either_53 Z u a0 a1 k10 x2 x4 X = some (r, X1) → WW p l e (rmX (k + 2) 0 0) s m args below meth c 5 (MQ below (XQ E w z Z X1 (some (.int r))) args s 0 0 (A0 E)) E w 0 0 z Z 53 [(0, .ref (w.1 a0)), (1, .ref (w.1 a1)), (2, .int x2), (4, .int x4)] [] X := by
    intro k10 hk10 x2 x4 X h
    unfold fX1_either_53 at h
    refine ww_iconst (pc := 53) hC (v := (0 : Int32)) dX1_either_53 (by decide) ?_
    refine ww_sub [0, 1, 2, 3] rfl ?_
    exact j54 _ hk10 _ _ _ _ h
  have j10 : ∀ (n : Nat), ∀ (x2 : Int32) (x3 : Int32) (x4 : Int32) (X : XD), fX1_either_10 Z u a0 a1 n x2 x3 x4 X = some (r, X1) → WW p l e (rmX (k + 2) 0 0) s m args below meth c 5 (MQ below (XQ E w z Z X1 (some (.int r))) args s 0 0 (A0 E)) E w 0 0 z Z 10 [(0, .ref (w.1 a0)), (1, .ref (w.1 a1)), (2, .int x2), (3, .int x3), (4, .int x4)] [] X := by
    intro n
    induction n with
    | zero =>
      intro x2 x3 x4 X h
      cases (show none = some (r, X1) from h)
    | succ n ih =>
      intro x2 x3 x4 X h
      rw [fX1_either_10_s] at h
      refine ww_iload (pc := 10) hC dX1_either_10 4 rfl ?_
      refine ww_bipush (pc := 12) hC (v := (100 : Int32)) dX1_either_12 (by decide) ?_
      refine ww_icmp_ge (pc := 14) hC h 61 dX1_either_14 (by decide) (fun h => ?_) (fun h => ?_)
      · refine ww_iload_n (pc := 61) hC dX1_either_61 3 rfl ?_
        obtain ⟨hb4, h⟩ := gb_i h
        exact ww_zret (pc := 62) hC hr (gb_n hb4) h dX1_either_62
      · refine ww_iload_n (pc := 17) hC dX1_either_17 3 rfl ?_
        refine ww_if_eq (pc := 18) hC h 61 dX1_either_18 (by decide) (fun h => ?_) (fun h => ?_)
        · refine ww_iload_n (pc := 61) hC dX1_either_61 3 rfl ?_
          obtain ⟨hb5, h⟩ := gb_i h
          exact ww_zret (pc := 62) hC hr (gb_n hb5) h dX1_either_62
        · refine ww_aload_n (pc := 21) hC dX1_either_21 0 rfl ?_
          refine ww_aload_n (pc := 22) hC dX1_either_22 1 rfl ?_
          refine ww_bipush (pc := 23) hC (v := (124 : Int32)) dX1_either_23 (by decide) ?_
          obtain ⟨r7, X_8, h6, h⟩ := bnw_i h
          refine ww_callVi (pc := 25) hC [.ref (w.1 a1), .int ((124 : Int32))] h_a0.1 h_a0.2 (by decide) (ceX1_skip hL h_a0 h_a1 h6) ql_X1_57 qi_X1_skip qs_X1_X1_skip qn_X1 qc_X1_skip rfl ⟨by decide, by decide, rfl⟩ rfl (x_lev (k := 2) (k2 := k + 2) (by omega)) (by decide) (rest := []) (Nat.le_of_ble_eq_true rfl) dX1_either_25 ⟨Nat.le_of_ble_eq_true rfl, Nat.le_of_ble_eq_true rfl⟩ rfl ?_
          refine ww_if_eq (pc := 28) hC h 61 dX1_either_28 (by decide) (fun h => ?_) (fun h => ?_)
          · refine ww_iload_n (pc := 61) hC dX1_either_61 3 rfl ?_
            obtain ⟨hb9, h⟩ := gb_i h
            exact ww_zret (pc := 62) hC hr (gb_n hb9) h dX1_either_62
          · refine ww_aload_n (pc := 31) hC dX1_either_31 0 rfl ?_
            refine ww_aload_n (pc := 32) hC dX1_either_32 1 rfl ?_
            refine ww_iload_n (pc := 33) hC dX1_either_33 2 rfl ?_
            obtain ⟨r11, X_12, h10, h⟩ := bnw_i h
            refine ww_callVi (pc := 34) hC [.ref (w.1 a1), .int x2] h_a0.1 h_a0.2 (by decide) (ceX1_both hu hk hL h_a0 h_a1 h10) ql_X1_105 qi_X1_both qs_X1_X1_both qn_X1 qc_X1_both rfl ⟨by decide, by decide, rfl⟩ rfl (x_lev (k := k + 1) (k2 := k + 2) (by omega)) (by decide) (rest := []) (Nat.le_of_ble_eq_true rfl) dX1_either_34 ⟨Nat.le_of_ble_eq_true rfl, Nat.le_of_ble_eq_true rfl⟩ rfl ?_
            refine ww_if_eq (pc := 37) hC h 53 dX1_either_37 (by decide) (fun h => ?_) (fun h => ?_)
            · refine ww_sub [0, 1, 2, 4] rfl ?_
              exact j53 _ ih _ _ _ h
            · refine ww_aload_n (pc := 40) hC dX1_either_40 0 rfl ?_
              refine ww_bipush (pc := 41) hC (v := (-2 : Int32)) dX1_either_41 (by decide) ?_
              obtain ⟨r14, X_15, h13, h⟩ := bnw_i h
              refine ww_callVi (pc := 43) hC [.int ((-2 : Int32))] h_a0.1 h_a0.2 (by decide) (ceX1_addStep hL h_a0 h13) ql_X1_108 qi_X1_addStep qs_X1_X1_addStep qn_X1 qc_X1_addStep rfl ⟨by decide, by decide, rfl⟩ rfl (x_lev (k := 1) (k2 := k + 2) (by omega)) (by decide) (rest := []) (Nat.le_of_ble_eq_true rfl) dX1_either_43 ⟨Nat.le_of_ble_eq_true rfl, Nat.le_of_ble_eq_true rfl⟩ rfl ?_
              refine ww_if_eq (pc := 46) hC h 53 dX1_either_46 (by decide) (fun h => ?_) (fun h => ?_)
              · refine ww_sub [0, 1, 2, 4] rfl ?_
                exact j53 _ ih _ _ _ h
              · refine ww_iconst (pc := 49) hC (v := (1 : Int32)) dX1_either_49 (by decide) ?_
                refine ww_goto (pc := 50) hC 54 dX1_either_50 (by decide) ?_
                refine ww_sub [0, 1, 2, 4] rfl ?_
                exact j54 _ ih _ _ _ _ h
  unfold fX1_either at h
  refine ww_lv (lv' := [(0, .ref (w.1 a0)), (1, .ref (w.1 a1)), (2, .int x2)]) rfl ?_
  refine ww_aload_n (pc := 0) hC dX1_either_0 0 rfl ?_
  refine ww_aload_n (pc := 1) hC dX1_either_1 1 rfl ?_
  refine ww_iload_n (pc := 2) hC dX1_either_2 2 rfl ?_
  obtain ⟨r2, X_3, h1, h⟩ := bnw_i h
  refine ww_callVi (pc := 3) hC [.ref (w.1 a1), .int x2] h_a0.1 h_a0.2 (by decide) (ceX1_both hu hk hL h_a0 h_a1 h1) ql_X1_105 qi_X1_both qs_X1_X1_both qn_X1 qc_X1_both rfl ⟨by decide, by decide, rfl⟩ rfl (x_lev (k := k + 1) (k2 := k + 2) (by omega)) (by decide) (rest := []) (Nat.le_of_ble_eq_true rfl) dX1_either_3 ⟨Nat.le_of_ble_eq_true rfl, Nat.le_of_ble_eq_true rfl⟩ rfl ?_
  refine ww_istore_n (pc := 6) hC [(3, .int r2), (0, .ref (w.1 a0)), (1, .ref (w.1 a1)), (2, .int x2)] dX1_either_6 rfl (by decide) rfl ?_
  refine ww_iconst (pc := 7) hC (v := (0 : Int32)) dX1_either_7 (by decide) ?_
  refine ww_istore (pc := 8) hC [(4, .int ((0 : Int32))), (3, .int r2), (0, .ref (w.1 a0)), (1, .ref (w.1 a1)), (2, .int x2)] dX1_either_8  (by decide) rfl ?_
  refine ww_sub [2, 3, 4, 1, 0] rfl ?_
  exact j10 _ _ _ _ _ h
noncomputable def fX1_negated (Z : XS) (u : Nat → Nat → Int32 → XD → Option (Int32 × XD)) (a0 : Nat) (a1 : Nat) (x2 : Int32) (X : XD) : Option (Int32 × XD) := bnw (u a0 a1 x2 X) (fun r2 X_3 => if r2 = 0 then some ((0 : Int32), X_3) else bnw (fX1_addStep Z a0 ((-3 : Int32)) X_3) (fun r5 X_6 => if r5 = 0 then some ((0 : Int32), X_6) else some ((1 : Int32), X_6)))
set_option maxHeartbeats 40000000 in
set_option maxRecDepth 100000 in
theorem ceX1_negated {l : Launch} {E : XE} {w : XW} {z : Nat} {Z : XS} {k : Nat} {u : Nat → Nat → Int32 → XD → Option (Int32 × XD)} (hu : ∀ {a0 a1 : Nat} (_ : KK Z a0 1) (_ : KK Z a1 3) {x2 : Int32} {X X1 : XD} {r : Int32}, u a0 a1 x2 X = some (r, X1) → Ct l E w yX1_unit (wsM yX1_unit cX1_unit 6 (some .boolean)) (rmX k 0 0) 0 0 [.ref (w.1 a0), .ref (w.1 a1), .int x2] z z Z Z X X1 (some (.int r))) (hk : 6 ≤ k)  (hL : LayC Z) {a0 : Nat} (h_a0 : KK Z a0 1) {a1 : Nat} (h_a1 : KK Z a1 3) {x2 : Int32} {X X1 : XD} {r : Int32} (h : fX1_negated Z u a0 a1 x2 X = some (r, X1)) : Ct l E w yX1_negated (wsM yX1_negated cX1_negated 3 (some .boolean)) (rmX (k + 1) 0 0) 0 0 [.ref (w.1 a0), .ref (w.1 a1), .int x2] z z Z Z X X1 (some (.int r)) := by
  refine ct_of (by decide) (Nat.le_of_ble_eq_true rfl) ?_
  intro p e s m args below meth c hC hr hin hav
  unfold fX1_negated at h
  refine ww_lv (lv' := [(0, .ref (w.1 a0)), (1, .ref (w.1 a1)), (2, .int x2)]) rfl ?_
  refine ww_aload_n (pc := 0) hC dX1_negated_0 0 rfl ?_
  refine ww_aload_n (pc := 1) hC dX1_negated_1 1 rfl ?_
  refine ww_iload_n (pc := 2) hC dX1_negated_2 2 rfl ?_
  obtain ⟨r2, X_3, h1, h⟩ := bnw_i h
  refine ww_callVi (pc := 3) hC [.ref (w.1 a1), .int x2] h_a0.1 h_a0.2 (by decide) (hu h_a0 h_a1 h1) ql_X1_111 qi_X1_unit qs_X1_X1_unit qn_X1 qc_X1_unit rfl ⟨by decide, by decide, rfl⟩ rfl (x_lev (k := k) (k2 := k + 1) (by omega)) (by decide) (rest := []) (Nat.le_of_ble_eq_true rfl) dX1_negated_3 ⟨Nat.le_of_ble_eq_true rfl, Nat.le_of_ble_eq_true rfl⟩ rfl ?_
  refine ww_if_eq (pc := 6) hC h 22 dX1_negated_6 (by decide) (fun h => ?_) (fun h => ?_)
  · refine ww_iconst (pc := 22) hC (v := (0 : Int32)) dX1_negated_22 (by decide) ?_
    exact ww_zret (pc := 23) hC hr rfl h dX1_negated_23
  · refine ww_aload_n (pc := 9) hC dX1_negated_9 0 rfl ?_
    refine ww_bipush (pc := 10) hC (v := (-3 : Int32)) dX1_negated_10 (by decide) ?_
    obtain ⟨r5, X_6, h4, h⟩ := bnw_i h
    refine ww_callVi (pc := 12) hC [.int ((-3 : Int32))] h_a0.1 h_a0.2 (by decide) (ceX1_addStep hL h_a0 h4) ql_X1_108 qi_X1_addStep qs_X1_X1_addStep qn_X1 qc_X1_addStep rfl ⟨by decide, by decide, rfl⟩ rfl (x_lev (k := 1) (k2 := k + 1) (by omega)) (by decide) (rest := []) (Nat.le_of_ble_eq_true rfl) dX1_negated_12 ⟨Nat.le_of_ble_eq_true rfl, Nat.le_of_ble_eq_true rfl⟩ rfl ?_
    refine ww_if_eq (pc := 15) hC h 22 dX1_negated_15 (by decide) (fun h => ?_) (fun h => ?_)
    · refine ww_iconst (pc := 22) hC (v := (0 : Int32)) dX1_negated_22 (by decide) ?_
      exact ww_zret (pc := 23) hC hr rfl h dX1_negated_23
    · refine ww_iconst (pc := 18) hC (v := (1 : Int32)) dX1_negated_18 (by decide) ?_
      refine ww_goto (pc := 19) hC 23 dX1_negated_19 (by decide) ?_
      exact ww_zret (pc := 23) hC hr rfl h dX1_negated_23
noncomputable def fX1_unit_107 (Z : XS) (u : Nat → Nat → Int32 → XD → Option (Int32 × XD)) (a0 : Nat) (a1 : Nat) (x3 : Int32) (x4 : Int32) (s0 : Int32) (X : XD) : Option (Int32 × XD) := if s0 = ((-1 : Int32)) then some ((0 : Int32), X) else bnw (fX1_addStep Z a0 ((((x3 * ((3 : Int32))) + x4) * ((100 : Int32))) + s0) X) (fun r27 X_28 => if r27 = 0 then some ((0 : Int32), X_28) else some ((1 : Int32), X_28))
noncomputable def fX1_unit_90 (Z : XS) (u : Nat → Nat → Int32 → XD → Option (Int32 × XD)) (a0 : Nat) (a1 : Nat) (x3 : Int32) (s0 : Int32) (X : XD) : Option (Int32 × XD) := if s0 = ((-1 : Int32)) then fX1_unit_107 Z u a0 a1 x3 s0 ((-1 : Int32)) X else bnw (fX1_number Z a0 a1 X) (fun r24 X_25 => fX1_unit_107 Z u a0 a1 x3 s0 r24 X_25)
noncomputable def fX1_unit_66 (Z : XS) (u : Nat → Nat → Int32 → XD → Option (Int32 × XD)) (a0 : Nat) (a1 : Nat) (X : XD) : Option (Int32 × XD) := bnw (fX1_oneOf Z a0 a1 5 X) (fun r18 X_19 => if r18 = ((-1 : Int32)) then fX1_unit_90 Z u a0 a1 r18 ((-1 : Int32)) X_19 else bnw (fX1_oneOf Z a0 a1 6 X_19) (fun r21 X_22 => fX1_unit_90 Z u a0 a1 r18 r21 X_22))
noncomputable def fX1_unit_24 (Z : XS) (u : Nat → Nat → Int32 → XD → Option (Int32 × XD)) (a0 : Nat) (a1 : Nat) (x2 : Int32) (X : XD) : Option (Int32 × XD) := if ((4 : Int32)) ≤ x2 then fX1_unit_66 Z u a0 a1 X else bnw (fX1_skip Z a0 a1 ((40 : Int32)) X) (fun r9 X_10 => if r9 = 0 then fX1_unit_66 Z u a0 a1 X_10 else bnw (fX1_either Z u a0 a1 (x2 + ((1 : Int32))) X_10) (fun r12 X_13 => if r12 = 0 then some ((0 : Int32), X_13) else bnw (fX1_skip Z a0 a1 ((41 : Int32)) X_13) (fun r15 X_16 => if r15 = 0 then some ((0 : Int32), X_16) else some ((1 : Int32), X_16))))
noncomputable def fX1_unit (Z : XS) (u : Nat → Nat → Int32 → XD → Option (Int32 × XD)) (a0 : Nat) (a1 : Nat) (x2 : Int32) (X : XD) : Option (Int32 × XD) := if ((4 : Int32)) ≤ x2 then fX1_unit_24 Z u a0 a1 x2 X else bnw (fX1_skip Z a0 a1 ((33 : Int32)) X) (fun r2 X_3 => if r2 = 0 then fX1_unit_24 Z u a0 a1 x2 X_3 else bnw (fX1_negated Z u a0 a1 (x2 + ((1 : Int32))) X_3) (fun r5 X_6 => gb r5 (some (r5, X_6))))
set_option maxHeartbeats 40000000 in
set_option maxRecDepth 100000 in
theorem ceX1_unit {l : Launch} {E : XE} {w : XW} {z : Nat} {Z : XS} {k : Nat} {u : Nat → Nat → Int32 → XD → Option (Int32 × XD)} (hu : ∀ {a0 a1 : Nat} (_ : KK Z a0 1) (_ : KK Z a1 3) {x2 : Int32} {X X1 : XD} {r : Int32}, u a0 a1 x2 X = some (r, X1) → Ct l E w yX1_unit (wsM yX1_unit cX1_unit 6 (some .boolean)) (rmX k 0 0) 0 0 [.ref (w.1 a0), .ref (w.1 a1), .int x2] z z Z Z X X1 (some (.int r))) (hk : 6 ≤ k)  (hL : LayC Z) {a0 : Nat} (h_a0 : KK Z a0 1) {a1 : Nat} (h_a1 : KK Z a1 3) {x2 : Int32} {X X1 : XD} {r : Int32} (h : fX1_unit Z u a0 a1 x2 X = some (r, X1)) : Ct l E w yX1_unit (wsM yX1_unit cX1_unit 6 (some .boolean)) (rmX (k + 3) 0 0) 0 0 [.ref (w.1 a0), .ref (w.1 a1), .int x2] z z Z Z X X1 (some (.int r)) := by
  refine ct_of (by decide) (Nat.le_of_ble_eq_true rfl) ?_
  intro p e s m args below meth c hC hr hin hav
  have j107 : ∀ (x3 : Int32) (x4 : Int32) (s0 : Int32) (X : XD), fX1_unit_107 Z u a0 a1 x3 x4 s0 X = some (r, X1) → WW p l e (rmX (k + 3) 0 0) s m args below meth c 6 (MQ below (XQ E w z Z X1 (some (.int r))) args s 0 0 (A0 E)) E w 0 0 z Z 107 [(0, .ref (w.1 a0)), (3, .int x3), (4, .int x4)] [.int s0] X := by
    intro x3 x4 s0 X h
    unfold fX1_unit_107 at h
    refine ww_istore (pc := 107) hC [(5, .int s0), (0, .ref (w.1 a0)), (3, .int x3), (4, .int x4)] dX1_unit_107  (by decide) rfl ?_
    refine ww_iload (pc := 109) hC dX1_unit_109 0 rfl ?_
    refine ww_iconst (pc := 111) hC (v := (-1 : Int32)) dX1_unit_111 (by decide) ?_
    refine ww_icmp_eq (pc := 112) hC h 138 dX1_unit_112 (by decide) (fun h => ?_) (fun h => ?_)
    · refine ww_iconst (pc := 138) hC (v := (0 : Int32)) dX1_unit_138 (by decide) ?_
      exact ww_zret (pc := 139) hC hr rfl h dX1_unit_139
    · refine ww_aload_n (pc := 115) hC dX1_unit_115 1 rfl ?_
      refine ww_iload_n (pc := 116) hC dX1_unit_116 2 rfl ?_
      refine ww_iconst (pc := 117) hC (v := (3 : Int32)) dX1_unit_117 (by decide) ?_
      refine ww_imul (pc := 118) hC dX1_unit_118 ?_
      refine ww_iload (pc := 119) hC dX1_unit_119 3 rfl ?_
      refine ww_iadd (pc := 121) hC dX1_unit_121 ?_
      refine ww_bipush (pc := 122) hC (v := (100 : Int32)) dX1_unit_122 (by decide) ?_
      refine ww_imul (pc := 124) hC dX1_unit_124 ?_
      refine ww_iload (pc := 125) hC dX1_unit_125 0 rfl ?_
      refine ww_iadd (pc := 127) hC dX1_unit_127 ?_
      obtain ⟨r27, X_28, h26, h⟩ := bnw_i h
      refine ww_callVi (pc := 128) hC [.int ((((x3 * ((3 : Int32))) + x4) * ((100 : Int32))) + s0)] h_a0.1 h_a0.2 (by decide) (ceX1_addStep hL h_a0 h26) ql_X1_108 qi_X1_addStep qs_X1_X1_addStep qn_X1 qc_X1_addStep rfl ⟨by decide, by decide, rfl⟩ rfl (x_lev (k := 1) (k2 := k + 3) (by omega)) (by decide) (rest := []) (Nat.le_of_ble_eq_true rfl) dX1_unit_128 ⟨Nat.le_of_ble_eq_true rfl, Nat.le_of_ble_eq_true rfl⟩ rfl ?_
      refine ww_if_eq (pc := 131) hC h 138 dX1_unit_131 (by decide) (fun h => ?_) (fun h => ?_)
      · refine ww_iconst (pc := 138) hC (v := (0 : Int32)) dX1_unit_138 (by decide) ?_
        exact ww_zret (pc := 139) hC hr rfl h dX1_unit_139
      · refine ww_iconst (pc := 134) hC (v := (1 : Int32)) dX1_unit_134 (by decide) ?_
        refine ww_goto (pc := 135) hC 139 dX1_unit_135 (by decide) ?_
        exact ww_zret (pc := 139) hC hr rfl h dX1_unit_139
  have j90 : ∀ (x3 : Int32) (s0 : Int32) (X : XD), fX1_unit_90 Z u a0 a1 x3 s0 X = some (r, X1) → WW p l e (rmX (k + 3) 0 0) s m args below meth c 6 (MQ below (XQ E w z Z X1 (some (.int r))) args s 0 0 (A0 E)) E w 0 0 z Z 90 [(0, .ref (w.1 a0)), (1, .ref (w.1 a1)), (3, .int x3)] [.int s0] X := by
    intro x3 s0 X h
    unfold fX1_unit_90 at h
    refine ww_istore (pc := 90) hC [(4, .int s0), (0, .ref (w.1 a0)), (1, .ref (w.1 a1)), (3, .int x3)] dX1_unit_90  (by decide) rfl ?_
    refine ww_iload (pc := 92) hC dX1_unit_92 0 rfl ?_
    refine ww_iconst (pc := 94) hC (v := (-1 : Int32)) dX1_unit_94 (by decide) ?_
    refine ww_icmp_ne (pc := 95) hC h 102 dX1_unit_95 (by decide) (fun h => ?_) (fun h => ?_)
    · refine ww_aload_n (pc := 102) hC dX1_unit_102 1 rfl ?_
      refine ww_aload_n (pc := 103) hC dX1_unit_103 2 rfl ?_
      obtain ⟨r24, X_25, h23, h⟩ := bnw_i h
      refine ww_callVi (pc := 104) hC [.ref (w.1 a1)] h_a0.1 h_a0.2 (by decide) (ceX1_number hL h_a0 h_a1 h23) ql_X1_61 qi_X1_number qs_X1_X1_number qn_X1 qc_X1_number rfl ⟨by decide, by decide, rfl⟩ rfl (x_lev (k := 2) (k2 := k + 3) (by omega)) (by decide) (rest := []) (Nat.le_of_ble_eq_true rfl) dX1_unit_104 ⟨Nat.le_of_ble_eq_true rfl, Nat.le_of_ble_eq_true rfl⟩ rfl ?_
      refine ww_sub [1, 3, 0] rfl ?_
      exact j107 _ _ _ _ h
    · refine ww_iconst (pc := 98) hC (v := (-1 : Int32)) dX1_unit_98 (by decide) ?_
      refine ww_goto (pc := 99) hC 107 dX1_unit_99 (by decide) ?_
      refine ww_sub [1, 3, 0] rfl ?_
      exact j107 _ _ _ _ h
  have j66 : ∀ (X : XD), fX1_unit_66 Z u a0 a1 X = some (r, X1) → WW p l e (rmX (k + 3) 0 0) s m args below meth c 6 (MQ below (XQ E w z Z X1 (some (.int r))) args s 0 0 (A0 E)) E w 0 0 z Z 66 [(0, .ref (w.1 a0)), (1, .ref (w.1 a1))] [] X := by
    intro X h
    unfold fX1_unit_66 at h
    refine ww_aload_n (pc := 66) hC dX1_unit_66 0 rfl ?_
    refine ww_aload_n (pc := 67) hC dX1_unit_67 1 rfl ?_
    refine ww_ldcS (pc := 68) hC 5 (by decide) rfl rfl dX1_unit_68 ?_
    obtain ⟨r18, X_19, h17, h⟩ := bnw_i h
    refine ww_callVi (pc := 70) hC [.ref (w.1 a1), .ref (E.2.2.2.1 5)] h_a0.1 h_a0.2 (by decide) (ceX1_oneOf hL h_a0 h_a1 ((by decide)) h17) ql_X1_119 qi_X1_oneOf qs_X1_X1_oneOf qn_X1 qc_X1_oneOf rfl ⟨by decide, by decide, rfl⟩ rfl (x_lev (k := 5) (k2 := k + 3) (by omega)) (by decide) (rest := []) (Nat.le_of_ble_eq_true rfl) dX1_unit_70 ⟨Nat.le_of_ble_eq_true rfl, Nat.le_of_ble_eq_true rfl⟩ rfl ?_
    refine ww_istore_n (pc := 73) hC [(3, .int r18), (0, .ref (w.1 a0)), (1, .ref (w.1 a1))] dX1_unit_73 rfl (by decide) rfl ?_
    refine ww_iload_n (pc := 74) hC dX1_unit_74 0 rfl ?_
    refine ww_iconst (pc := 75) hC (v := (-1 : Int32)) dX1_unit_75 (by decide) ?_
    refine ww_icmp_ne (pc := 76) hC h 83 dX1_unit_76 (by decide) (fun h => ?_) (fun h => ?_)
    · refine ww_aload_n (pc := 83) hC dX1_unit_83 1 rfl ?_
      refine ww_aload_n (pc := 84) hC dX1_unit_84 2 rfl ?_
      refine ww_ldcS (pc := 85) hC 6 (by decide) rfl rfl dX1_unit_85 ?_
      obtain ⟨r21, X_22, h20, h⟩ := bnw_i h
      refine ww_callVi (pc := 87) hC [.ref (w.1 a1), .ref (E.2.2.2.1 6)] h_a0.1 h_a0.2 (by decide) (ceX1_oneOf hL h_a0 h_a1 ((by decide)) h20) ql_X1_119 qi_X1_oneOf qs_X1_X1_oneOf qn_X1 qc_X1_oneOf rfl ⟨by decide, by decide, rfl⟩ rfl (x_lev (k := 5) (k2 := k + 3) (by omega)) (by decide) (rest := []) (Nat.le_of_ble_eq_true rfl) dX1_unit_87 ⟨Nat.le_of_ble_eq_true rfl, Nat.le_of_ble_eq_true rfl⟩ rfl ?_
      refine ww_sub [1, 2, 0] rfl ?_
      exact j90 _ _ _ h
    · refine ww_iconst (pc := 79) hC (v := (-1 : Int32)) dX1_unit_79 (by decide) ?_
      refine ww_goto (pc := 80) hC 90 dX1_unit_80 (by decide) ?_
      refine ww_sub [1, 2, 0] rfl ?_
      exact j90 _ _ _ h
  have j24 : ∀ (x2 : Int32) (X : XD), fX1_unit_24 Z u a0 a1 x2 X = some (r, X1) → WW p l e (rmX (k + 3) 0 0) s m args below meth c 6 (MQ below (XQ E w z Z X1 (some (.int r))) args s 0 0 (A0 E)) E w 0 0 z Z 24 [(0, .ref (w.1 a0)), (1, .ref (w.1 a1)), (2, .int x2)] [] X := by
    intro x2 X h
    unfold fX1_unit_24 at h
    refine ww_iload_n (pc := 24) hC dX1_unit_24 2 rfl ?_
    refine ww_iconst (pc := 25) hC (v := (4 : Int32)) dX1_unit_25 (by decide) ?_
    refine ww_icmp_ge (pc := 26) hC h 66 dX1_unit_26 (by decide) (fun h => ?_) (fun h => ?_)
    · refine ww_sub [0, 1] rfl ?_
      exact j66 _ h
    · refine ww_aload_n (pc := 29) hC dX1_unit_29 0 rfl ?_
      refine ww_aload_n (pc := 30) hC dX1_unit_30 1 rfl ?_
      refine ww_bipush (pc := 31) hC (v := (40 : Int32)) dX1_unit_31 (by decide) ?_
      obtain ⟨r9, X_10, h8, h⟩ := bnw_i h
      refine ww_callVi (pc := 33) hC [.ref (w.1 a1), .int ((40 : Int32))] h_a0.1 h_a0.2 (by decide) (ceX1_skip hL h_a0 h_a1 h8) ql_X1_57 qi_X1_skip qs_X1_X1_skip qn_X1 qc_X1_skip rfl ⟨by decide, by decide, rfl⟩ rfl (x_lev (k := 2) (k2 := k + 3) (by omega)) (by decide) (rest := []) (Nat.le_of_ble_eq_true rfl) dX1_unit_33 ⟨Nat.le_of_ble_eq_true rfl, Nat.le_of_ble_eq_true rfl⟩ rfl ?_
      refine ww_if_eq (pc := 36) hC h 66 dX1_unit_36 (by decide) (fun h => ?_) (fun h => ?_)
      · refine ww_sub [0, 1] rfl ?_
        exact j66 _ h
      · refine ww_aload_n (pc := 39) hC dX1_unit_39 0 rfl ?_
        refine ww_aload_n (pc := 40) hC dX1_unit_40 1 rfl ?_
        refine ww_iload_n (pc := 41) hC dX1_unit_41 2 rfl ?_
        refine ww_iconst (pc := 42) hC (v := (1 : Int32)) dX1_unit_42 (by decide) ?_
        refine ww_iadd (pc := 43) hC dX1_unit_43 ?_
        obtain ⟨r12, X_13, h11, h⟩ := bnw_i h
        refine ww_callVi (pc := 44) hC [.ref (w.1 a1), .int (x2 + ((1 : Int32)))] h_a0.1 h_a0.2 (by decide) (ceX1_either hu hk hL h_a0 h_a1 h11) ql_X1_64 qi_X1_either qs_X1_X1_either qn_X1 qc_X1_either rfl ⟨by decide, by decide, rfl⟩ rfl (x_lev (k := k + 2) (k2 := k + 3) (by omega)) (by decide) (rest := []) (Nat.le_of_ble_eq_true rfl) dX1_unit_44 ⟨Nat.le_of_ble_eq_true rfl, Nat.le_of_ble_eq_true rfl⟩ rfl ?_
        refine ww_if_eq (pc := 47) hC h 64 dX1_unit_47 (by decide) (fun h => ?_) (fun h => ?_)
        · refine ww_iconst (pc := 64) hC (v := (0 : Int32)) dX1_unit_64 (by decide) ?_
          exact ww_zret (pc := 65) hC hr rfl h dX1_unit_65
        · refine ww_aload_n (pc := 50) hC dX1_unit_50 0 rfl ?_
          refine ww_aload_n (pc := 51) hC dX1_unit_51 1 rfl ?_
          refine ww_bipush (pc := 52) hC (v := (41 : Int32)) dX1_unit_52 (by decide) ?_
          obtain ⟨r15, X_16, h14, h⟩ := bnw_i h
          refine ww_callVi (pc := 54) hC [.ref (w.1 a1), .int ((41 : Int32))] h_a0.1 h_a0.2 (by decide) (ceX1_skip hL h_a0 h_a1 h14) ql_X1_57 qi_X1_skip qs_X1_X1_skip qn_X1 qc_X1_skip rfl ⟨by decide, by decide, rfl⟩ rfl (x_lev (k := 2) (k2 := k + 3) (by omega)) (by decide) (rest := []) (Nat.le_of_ble_eq_true rfl) dX1_unit_54 ⟨Nat.le_of_ble_eq_true rfl, Nat.le_of_ble_eq_true rfl⟩ rfl ?_
          refine ww_if_eq (pc := 57) hC h 64 dX1_unit_57 (by decide) (fun h => ?_) (fun h => ?_)
          · refine ww_iconst (pc := 64) hC (v := (0 : Int32)) dX1_unit_64 (by decide) ?_
            exact ww_zret (pc := 65) hC hr rfl h dX1_unit_65
          · refine ww_iconst (pc := 60) hC (v := (1 : Int32)) dX1_unit_60 (by decide) ?_
            refine ww_goto (pc := 61) hC 65 dX1_unit_61 (by decide) ?_
            exact ww_zret (pc := 65) hC hr rfl h dX1_unit_65
  unfold fX1_unit at h
  refine ww_lv (lv' := [(0, .ref (w.1 a0)), (1, .ref (w.1 a1)), (2, .int x2)]) rfl ?_
  refine ww_iload_n (pc := 0) hC dX1_unit_0 2 rfl ?_
  refine ww_iconst (pc := 1) hC (v := (4 : Int32)) dX1_unit_1 (by decide) ?_
  refine ww_icmp_ge (pc := 2) hC h 24 dX1_unit_2 (by decide) (fun h => ?_) (fun h => ?_)
  · refine ww_sub [0, 1, 2] rfl ?_
    exact j24 _ _ h
  · refine ww_aload_n (pc := 5) hC dX1_unit_5 0 rfl ?_
    refine ww_aload_n (pc := 6) hC dX1_unit_6 1 rfl ?_
    refine ww_bipush (pc := 7) hC (v := (33 : Int32)) dX1_unit_7 (by decide) ?_
    obtain ⟨r2, X_3, h1, h⟩ := bnw_i h
    refine ww_callVi (pc := 9) hC [.ref (w.1 a1), .int ((33 : Int32))] h_a0.1 h_a0.2 (by decide) (ceX1_skip hL h_a0 h_a1 h1) ql_X1_57 qi_X1_skip qs_X1_X1_skip qn_X1 qc_X1_skip rfl ⟨by decide, by decide, rfl⟩ rfl (x_lev (k := 2) (k2 := k + 3) (by omega)) (by decide) (rest := []) (Nat.le_of_ble_eq_true rfl) dX1_unit_9 ⟨Nat.le_of_ble_eq_true rfl, Nat.le_of_ble_eq_true rfl⟩ rfl ?_
    refine ww_if_eq (pc := 12) hC h 24 dX1_unit_12 (by decide) (fun h => ?_) (fun h => ?_)
    · refine ww_sub [0, 1, 2] rfl ?_
      exact j24 _ _ h
    · refine ww_aload_n (pc := 15) hC dX1_unit_15 0 rfl ?_
      refine ww_aload_n (pc := 16) hC dX1_unit_16 1 rfl ?_
      refine ww_iload_n (pc := 17) hC dX1_unit_17 2 rfl ?_
      refine ww_iconst (pc := 18) hC (v := (1 : Int32)) dX1_unit_18 (by decide) ?_
      refine ww_iadd (pc := 19) hC dX1_unit_19 ?_
      obtain ⟨r5, X_6, h4, h⟩ := bnw_i h
      refine ww_callVi (pc := 20) hC [.ref (w.1 a1), .int (x2 + ((1 : Int32)))] h_a0.1 h_a0.2 (by decide) (ceX1_negated hu hk hL h_a0 h_a1 h4) ql_X1_114 qi_X1_negated qs_X1_X1_negated qn_X1 qc_X1_negated rfl ⟨by decide, by decide, rfl⟩ rfl (x_lev (k := k + 1) (k2 := k + 3) (by omega)) (by decide) (rest := []) (Nat.le_of_ble_eq_true rfl) dX1_unit_20 ⟨Nat.le_of_ble_eq_true rfl, Nat.le_of_ble_eq_true rfl⟩ rfl ?_
      obtain ⟨hb7, h⟩ := gb_i h
      exact ww_zret (pc := 23) hC hr (gb_n hb7) h dX1_unit_23
noncomputable def fX1_unitN (Z : XS) (n : Nat) : Nat → Nat → Int32 → XD → Option (Int32 × XD) := Nat.rec (motive := fun _ => Nat → Nat → Int32 → XD → Option (Int32 × XD)) (fun _ _ _ _ => none) (fun _ u => fX1_unit Z u) n
theorem fX1_unitN_s (Z : XS) (n : Nat) : fX1_unitN Z (n + 1) = fX1_unit Z (fX1_unitN Z n) := rfl
theorem ceX1_unitN {l : Launch} {E : XE} {w : XW} {z : Nat} {Z : XS} (hL : LayC Z) : ∀ (n : Nat) {a0 a1 : Nat} (_ : KK Z a0 1) (_ : KK Z a1 3) {x2 : Int32} {X X1 : XD} {r : Int32}, fX1_unitN Z n a0 a1 x2 X = some (r, X1) → Ct l E w yX1_unit (wsM yX1_unit cX1_unit 6 (some .boolean)) (rmX (6 + 3 * n) 0 0) 0 0 [.ref (w.1 a0), .ref (w.1 a1), .int x2] z z Z Z X X1 (some (.int r)) := by
  intro n
  induction n with
  | zero => intro a0 a1 _ _ x2 X X1 r h; cases (show none = some (r, X1) from h)
  | succ n ih => intro a0 a1 h0 h1 x2 X X1 r h; exact ceX1_unit (k := 6 + 3 * n) ih (Nat.le_add_right _ _) hL h0 h1 h
noncomputable def fX1_clause_59 (Z : XS) (a0 : Nat) (a1 : Nat) (x2 : Int32) (x3 : Int32) (x4 : Int32) (X : XD) : Option (Int32 × XD) := if x4 = ((-1 : Int32)) then some ((0 : Int32), X) else bnw (fX1_skip Z a0 a1 ((32 : Int32)) X) (fun r11 X_12 => if r11 = 0 then some ((0 : Int32), X_12) else gin x2 10 (nm (wI X_12 (a0 + 1) (x2).toNatClampNeg x3) (fun X_13 => gin x2 10 (nm (wI X_13 (a0 + 2) (x2).toNatClampNeg x4) (fun X_14 => gin x2 10 (nm (wI X_14 (a0 + 3) (x2).toNatClampNeg (X_14.1 a0 6)) (fun X_15 => bnw (fX1_either Z (fX1_unitN Z 6) a0 a1 ((0 : Int32)) X_15) (fun r17 X_18 => gin x2 10 (nm (wI X_18 (a0 + 4) (x2).toNatClampNeg (X_18.1 a0 6)) (fun X_19 => gb r17 (some (r17, X_19))))))))))))
noncomputable def fX1_clause_57 (Z : XS) (a0 : Nat) (a1 : Nat) (x2 : Int32) (x3 : Int32) (s0 : Int32) (X : XD) : Option (Int32 × XD) := fX1_clause_59 Z a0 a1 x2 x3 s0 X
noncomputable def fX1_clause_38 (Z : XS) (a0 : Nat) (a1 : Nat) (x2 : Int32) (x3 : Int32) (X : XD) : Option (Int32 × XD) := bnw (fX1_skip Z a0 a1 ((32 : Int32)) X) (fun r5 X_6 => if r5 = 0 then fX1_clause_57 Z a0 a1 x2 x3 ((-1 : Int32)) X_6 else bnw (fX1_number Z a0 a1 X_6) (fun r8 X_9 => fX1_clause_57 Z a0 a1 x2 x3 r8 X_9))
noncomputable def fX1_clause (Z : XS) (a0 : Nat) (a1 : Nat) (x2 : Int32) (X : XD) : Option (Int32 × XD) := bnw (fX1_word Z a0 a1 X) (fun r2 X_3 => if r2 = ((-1 : Int32)) then some ((0 : Int32), X_3) else if x2 < 0 then some ((0 : Int32), X_3) else if x2 < ((10 : Int32)) then if r2 = 0 then fX1_clause_38 Z a0 a1 x2 r2 X_3 else if r2 = ((1 : Int32)) then fX1_clause_38 Z a0 a1 x2 r2 X_3 else fX1_clause_59 Z a0 a1 x2 r2 ((0 : Int32)) X_3 else some ((0 : Int32), X_3))
set_option maxHeartbeats 40000000 in
set_option maxRecDepth 100000 in
theorem ceX1_clause {l : Launch} {E : XE} {w : XW} {z : Nat} {Z : XS}  (hL : LayC Z) {a0 : Nat} (h_a0 : KK Z a0 1) {a1 : Nat} (h_a1 : KK Z a1 3) {x2 : Int32} {X X1 : XD} {r : Int32} (h : fX1_clause Z a0 a1 x2 X = some (r, X1)) : Ct l E w yX1_clause (wsM yX1_clause cX1_clause 6 (some .boolean)) (rmX 27 0 0) 0 0 [.ref (w.1 a0), .ref (w.1 a1), .int x2] z z Z Z X X1 (some (.int r)) := by
  refine ct_of (by decide) (Nat.le_of_ble_eq_true rfl) ?_
  intro p e s m args below meth c hC hr hin hav
  have j59 : ∀ (x2 : Int32) (x3 : Int32) (x4 : Int32) (X : XD), fX1_clause_59 Z a0 a1 x2 x3 x4 X = some (r, X1) → WW p l e (rmX 27 0 0) s m args below meth c 6 (MQ below (XQ E w z Z X1 (some (.int r))) args s 0 0 (A0 E)) E w 0 0 z Z 59 [(0, .ref (w.1 a0)), (1, .ref (w.1 a1)), (2, .int x2), (3, .int x3), (4, .int x4)] [] X := by
    intro x2 x3 x4 X h
    unfold fX1_clause_59 at h
    refine ww_iload (pc := 59) hC dX1_clause_59 4 rfl ?_
    refine ww_iconst (pc := 61) hC (v := (-1 : Int32)) dX1_clause_61 (by decide) ?_
    refine ww_icmp_eq (pc := 62) hC h 75 dX1_clause_62 (by decide) (fun h => ?_) (fun h => ?_)
    · refine ww_iconst (pc := 75) hC (v := (0 : Int32)) dX1_clause_75 (by decide) ?_
      exact ww_zret (pc := 76) hC hr rfl h dX1_clause_76
    · refine ww_aload_n (pc := 65) hC dX1_clause_65 0 rfl ?_
      refine ww_aload_n (pc := 66) hC dX1_clause_66 1 rfl ?_
      refine ww_bipush (pc := 67) hC (v := (32 : Int32)) dX1_clause_67 (by decide) ?_
      obtain ⟨r11, X_12, h10, h⟩ := bnw_i h
      refine ww_callVi (pc := 69) hC [.ref (w.1 a1), .int ((32 : Int32))] h_a0.1 h_a0.2 (by decide) (ceX1_skip hL h_a0 h_a1 h10) ql_X1_57 qi_X1_skip qs_X1_X1_skip qn_X1 qc_X1_skip rfl ⟨by decide, by decide, rfl⟩ rfl ⟨Nat.le_of_ble_eq_true rfl, Nat.le_of_ble_eq_true rfl⟩ (by decide) (rest := []) (Nat.le_of_ble_eq_true rfl) dX1_clause_69 ⟨Nat.le_of_ble_eq_true rfl, Nat.le_of_ble_eq_true rfl⟩ rfl ?_
      refine ww_if_ne (pc := 72) hC h 77 dX1_clause_72 (by decide) (fun h => ?_) (fun h => ?_)
      · refine ww_aload_n (pc := 77) hC dX1_clause_77 0 rfl ?_
        refine ww_getR (pc := 78) hC 1 0 (a0 + 1) h_a0 RX1 (by decide) (by decide) rfl (lay_1_0 hL h_a0).1 qf_X1_9 rfl dX1_clause_78 ?_
        refine ww_iload_n (pc := 81) hC dX1_clause_81 2 rfl ?_
        refine ww_iload_n (pc := 82) hC dX1_clause_82 3 rfl ?_
        refine ww_iast (pc := 83) hC ((lay_1_0 hL h_a0).2) h dX1_clause_83 (fun h => ?_)
        obtain ⟨X_13, eX_13⟩ : ∃ q, q = wI X_12 (a0 + 1) (x2).toNatClampNeg x3 := ⟨_, rfl⟩
        replace h := nm_i h eX_13
        refine ww_nmX eX_13 ?_
        refine ww_aload_n (pc := 84) hC dX1_clause_84 0 rfl ?_
        refine ww_getR (pc := 85) hC 1 1 (a0 + 2) h_a0 RX1 (by decide) (by decide) rfl (lay_1_1 hL h_a0).1 qf_X1_15 rfl dX1_clause_85 ?_
        refine ww_iload_n (pc := 88) hC dX1_clause_88 2 rfl ?_
        refine ww_iload (pc := 89) hC dX1_clause_89 4 rfl ?_
        refine ww_iast (pc := 91) hC ((lay_1_1 hL h_a0).2) h dX1_clause_91 (fun h => ?_)
        obtain ⟨X_14, eX_14⟩ : ∃ q, q = wI X_13 (a0 + 2) (x2).toNatClampNeg x4 := ⟨_, rfl⟩
        replace h := nm_i h eX_14
        refine ww_nmX eX_14 ?_
        refine ww_aload_n (pc := 92) hC dX1_clause_92 0 rfl ?_
        refine ww_getR (pc := 93) hC 1 2 (a0 + 3) h_a0 RX1 (by decide) (by decide) rfl (lay_1_2 hL h_a0).1 qf_X1_18 rfl dX1_clause_93 ?_
        refine ww_iload_n (pc := 96) hC dX1_clause_96 2 rfl ?_
        refine ww_aload_n (pc := 97) hC dX1_clause_97 0 rfl ?_
        refine ww_getI (pc := 98) hC 1 6 h_a0 RX1 (by decide) (by decide) rfl qf_X1_34 (Or.inl rfl) dX1_clause_98 ?_
        refine ww_iast (pc := 101) hC ((lay_1_2 hL h_a0).2) h dX1_clause_101 (fun h => ?_)
        obtain ⟨X_15, eX_15⟩ : ∃ q, q = wI X_14 (a0 + 3) (x2).toNatClampNeg (X_14.1 a0 6) := ⟨_, rfl⟩
        replace h := nm_i h eX_15
        refine ww_nmX eX_15 ?_
        refine ww_aload_n (pc := 102) hC dX1_clause_102 0 rfl ?_
        refine ww_aload_n (pc := 103) hC dX1_clause_103 1 rfl ?_
        refine ww_iconst (pc := 104) hC (v := (0 : Int32)) dX1_clause_104 (by decide) ?_
        obtain ⟨r17, X_18, h16, h⟩ := bnw_i h
        refine ww_callVi (pc := 105) hC [.ref (w.1 a1), .int ((0 : Int32))] h_a0.1 h_a0.2 (by decide) (ceX1_either (k := 24) (ceX1_unitN hL 6) (by decide) hL h_a0 h_a1 h16) ql_X1_64 qi_X1_either qs_X1_X1_either qn_X1 qc_X1_either rfl ⟨by decide, by decide, rfl⟩ rfl ⟨Nat.le_of_ble_eq_true rfl, Nat.le_of_ble_eq_true rfl⟩ (by decide) (rest := []) (Nat.le_of_ble_eq_true rfl) dX1_clause_105 ⟨Nat.le_of_ble_eq_true rfl, Nat.le_of_ble_eq_true rfl⟩ rfl ?_
        refine ww_istore (pc := 108) hC [(5, .int r17), (0, .ref (w.1 a0)), (1, .ref (w.1 a1)), (2, .int x2), (3, .int x3), (4, .int x4)] dX1_clause_108  (by decide) rfl ?_
        refine ww_aload_n (pc := 110) hC dX1_clause_110 1 rfl ?_
        refine ww_getR (pc := 111) hC 1 3 (a0 + 4) h_a0 RX1 (by decide) (by decide) rfl (lay_1_3 hL h_a0).1 qf_X1_21 rfl dX1_clause_111 ?_
        refine ww_iload_n (pc := 114) hC dX1_clause_114 3 rfl ?_
        refine ww_aload_n (pc := 115) hC dX1_clause_115 1 rfl ?_
        refine ww_getI (pc := 116) hC 1 6 h_a0 RX1 (by decide) (by decide) rfl qf_X1_34 (Or.inl rfl) dX1_clause_116 ?_
        refine ww_iast (pc := 119) hC ((lay_1_3 hL h_a0).2) h dX1_clause_119 (fun h => ?_)
        obtain ⟨X_19, eX_19⟩ : ∃ q, q = wI X_18 (a0 + 4) (x2).toNatClampNeg (X_18.1 a0 6) := ⟨_, rfl⟩
        replace h := nm_i h eX_19
        refine ww_nmX eX_19 ?_
        refine ww_iload (pc := 120) hC dX1_clause_120 0 rfl ?_
        obtain ⟨hb20, h⟩ := gb_i h
        exact ww_zret (pc := 122) hC hr (gb_n hb20) h dX1_clause_122
      · refine ww_iconst (pc := 75) hC (v := (0 : Int32)) dX1_clause_75 (by decide) ?_
        exact ww_zret (pc := 76) hC hr rfl h dX1_clause_76
  have j57 : ∀ (x2 : Int32) (x3 : Int32) (s0 : Int32) (X : XD), fX1_clause_57 Z a0 a1 x2 x3 s0 X = some (r, X1) → WW p l e (rmX 27 0 0) s m args below meth c 6 (MQ below (XQ E w z Z X1 (some (.int r))) args s 0 0 (A0 E)) E w 0 0 z Z 57 [(0, .ref (w.1 a0)), (1, .ref (w.1 a1)), (2, .int x2), (3, .int x3)] [.int s0] X := by
    intro x2 x3 s0 X h
    unfold fX1_clause_57 at h
    refine ww_istore (pc := 57) hC [(4, .int s0), (0, .ref (w.1 a0)), (1, .ref (w.1 a1)), (2, .int x2), (3, .int x3)] dX1_clause_57  (by decide) rfl ?_
    refine ww_sub [1, 2, 3, 4, 0] rfl ?_
    exact j59 _ _ _ _ h
  have j38 : ∀ (x2 : Int32) (x3 : Int32) (X : XD), fX1_clause_38 Z a0 a1 x2 x3 X = some (r, X1) → WW p l e (rmX 27 0 0) s m args below meth c 6 (MQ below (XQ E w z Z X1 (some (.int r))) args s 0 0 (A0 E)) E w 0 0 z Z 38 [(0, .ref (w.1 a0)), (1, .ref (w.1 a1)), (2, .int x2), (3, .int x3)] [] X := by
    intro x2 x3 X h
    unfold fX1_clause_38 at h
    refine ww_aload_n (pc := 38) hC dX1_clause_38 0 rfl ?_
    refine ww_aload_n (pc := 39) hC dX1_clause_39 1 rfl ?_
    refine ww_bipush (pc := 40) hC (v := (32 : Int32)) dX1_clause_40 (by decide) ?_
    obtain ⟨r5, X_6, h4, h⟩ := bnw_i h
    refine ww_callVi (pc := 42) hC [.ref (w.1 a1), .int ((32 : Int32))] h_a0.1 h_a0.2 (by decide) (ceX1_skip hL h_a0 h_a1 h4) ql_X1_57 qi_X1_skip qs_X1_X1_skip qn_X1 qc_X1_skip rfl ⟨by decide, by decide, rfl⟩ rfl ⟨Nat.le_of_ble_eq_true rfl, Nat.le_of_ble_eq_true rfl⟩ (by decide) (rest := []) (Nat.le_of_ble_eq_true rfl) dX1_clause_42 ⟨Nat.le_of_ble_eq_true rfl, Nat.le_of_ble_eq_true rfl⟩ rfl ?_
    refine ww_if_eq (pc := 45) hC h 56 dX1_clause_45 (by decide) (fun h => ?_) (fun h => ?_)
    · refine ww_iconst (pc := 56) hC (v := (-1 : Int32)) dX1_clause_56 (by decide) ?_
      refine ww_sub [0, 1, 2, 3] rfl ?_
      exact j57 _ _ _ _ h
    · refine ww_aload_n (pc := 48) hC dX1_clause_48 0 rfl ?_
      refine ww_aload_n (pc := 49) hC dX1_clause_49 1 rfl ?_
      obtain ⟨r8, X_9, h7, h⟩ := bnw_i h
      refine ww_callVi (pc := 50) hC [.ref (w.1 a1)] h_a0.1 h_a0.2 (by decide) (ceX1_number hL h_a0 h_a1 h7) ql_X1_61 qi_X1_number qs_X1_X1_number qn_X1 qc_X1_number rfl ⟨by decide, by decide, rfl⟩ rfl ⟨Nat.le_of_ble_eq_true rfl, Nat.le_of_ble_eq_true rfl⟩ (by decide) (rest := []) (Nat.le_of_ble_eq_true rfl) dX1_clause_50 ⟨Nat.le_of_ble_eq_true rfl, Nat.le_of_ble_eq_true rfl⟩ rfl ?_
      refine ww_goto (pc := 53) hC 57 dX1_clause_53 (by decide) ?_
      refine ww_sub [0, 1, 2, 3] rfl ?_
      exact j57 _ _ _ _ h
  unfold fX1_clause at h
  refine ww_lv (lv' := [(0, .ref (w.1 a0)), (1, .ref (w.1 a1)), (2, .int x2)]) rfl ?_
  refine ww_aload_n (pc := 0) hC dX1_clause_0 0 rfl ?_
  refine ww_aload_n (pc := 1) hC dX1_clause_1 1 rfl ?_
  obtain ⟨r2, X_3, h1, h⟩ := bnw_i h
  refine ww_callVi (pc := 2) hC [.ref (w.1 a1)] h_a0.1 h_a0.2 (by decide) (ceX1_word hL h_a0 h_a1 h1) ql_X1_53 qi_X1_word qs_X1_X1_word qn_X1 qc_X1_word rfl ⟨by decide, by decide, rfl⟩ rfl ⟨Nat.le_of_ble_eq_true rfl, Nat.le_of_ble_eq_true rfl⟩ (by decide) (rest := []) (Nat.le_of_ble_eq_true rfl) dX1_clause_2 ⟨Nat.le_of_ble_eq_true rfl, Nat.le_of_ble_eq_true rfl⟩ rfl ?_
  refine ww_istore_n (pc := 5) hC [(3, .int r2), (0, .ref (w.1 a0)), (1, .ref (w.1 a1)), (2, .int x2)] dX1_clause_5 rfl (by decide) rfl ?_
  refine ww_iload_n (pc := 6) hC dX1_clause_6 0 rfl ?_
  refine ww_iconst (pc := 7) hC (v := (-1 : Int32)) dX1_clause_7 (by decide) ?_
  refine ww_icmp_eq (pc := 8) hC h 24 dX1_clause_8 (by decide) (fun h => ?_) (fun h => ?_)
  · refine ww_iconst (pc := 24) hC (v := (0 : Int32)) dX1_clause_24 (by decide) ?_
    exact ww_zret (pc := 25) hC hr rfl h dX1_clause_25
  · refine ww_iload_n (pc := 11) hC dX1_clause_11 3 rfl ?_
    refine ww_if_lt (pc := 12) hC h 24 dX1_clause_12 (by decide) (fun h => ?_) (fun h => ?_)
    · refine ww_iconst (pc := 24) hC (v := (0 : Int32)) dX1_clause_24 (by decide) ?_
      exact ww_zret (pc := 25) hC hr rfl h dX1_clause_25
    · refine ww_iload_n (pc := 15) hC dX1_clause_15 3 rfl ?_
      refine ww_aload_n (pc := 16) hC dX1_clause_16 1 rfl ?_
      refine ww_getR (pc := 17) hC 1 0 (a0 + 1) h_a0 RX1 (by decide) (by decide) rfl (lay_1_0 hL h_a0).1 qf_X1_9 rfl dX1_clause_17 ?_
      refine ww_alen (pc := 20) hC ((10 : Int32)) ((lay_1_0 hL h_a0).2) (by decide) (by decide) rfl dX1_clause_20 ?_
      refine ww_icmp_lt (pc := 21) hC h 26 dX1_clause_21 (by decide) (fun h => ?_) (fun h => ?_)
      · refine ww_iconst (pc := 26) hC (v := (0 : Int32)) dX1_clause_26 (by decide) ?_
        refine ww_istore (pc := 27) hC [(4, .int ((0 : Int32))), (3, .int r2), (0, .ref (w.1 a0)), (1, .ref (w.1 a1)), (2, .int x2)] dX1_clause_27  (by decide) rfl ?_
        refine ww_iload_n (pc := 29) hC dX1_clause_29 1 rfl ?_
        refine ww_if_eq (pc := 30) hC h 38 dX1_clause_30 (by decide) (fun h => ?_) (fun h => ?_)
        · refine ww_sub [2, 3, 4, 1] rfl ?_
          exact j38 _ _ _ h
        · refine ww_iload_n (pc := 33) hC dX1_clause_33 1 rfl ?_
          refine ww_iconst (pc := 34) hC (v := (1 : Int32)) dX1_clause_34 (by decide) ?_
          refine ww_icmp_ne (pc := 35) hC h 59 dX1_clause_35 (by decide) (fun h => ?_) (fun h => ?_)
          · refine ww_sub [2, 3, 4, 1, 0] rfl ?_
            exact j59 _ _ _ _ h
          · refine ww_sub [2, 3, 4, 1] rfl ?_
            exact j38 _ _ _ h
      · refine ww_iconst (pc := 24) hC (v := (0 : Int32)) dX1_clause_24 (by decide) ?_
        exact ww_zret (pc := 25) hC hr rfl h dX1_clause_25
noncomputable def fX1_parse_91 (Z : XS) (a0 : Nat) (a1 : Nat) (k17 : Int32 → XD → Option (Int32 × XD)) (x2 : Int32) (X : XD) : Option (Int32 × XD) := nm (x2 + (1 : Int32)) (fun y11 => k17 y11 X)
noncomputable def fX1_parse_17 (Z : XS) (a0 : Nat) (a1 : Nat) (n : Nat) : Int32 → XD → Option (Int32 × XD) := Nat.rec (motive := fun _ => Int32 → XD → Option (Int32 × XD)) (fun _ _ => none) (fun _ f => fun x2 X => if ((10 : Int32)) ≤ x2 then some (X.1 a0 7, X) else bnw (fX1_clause Z a0 a1 x2 X) (fun r5 X_6 => if r5 = 0 then some (X_6.1 a0 7, X_6) else nm (wI X_6 a0 4 (x2 + ((1 : Int32)))) (fun X_7 => if (X_7.1 a0 7) < (X_7.1 a1 1) then bnd (fX3_at Z a1 (X_7.1 a0 7) X_7) (fun r9 => if r9 = ((59 : Int32)) then if ((9 : Int32)) ≤ x2 then fX1_parse_91 Z a0 a1 (f) x2 X_7 else nm (wI X_7 a0 7 ((X_7.1 a0 7) + ((1 : Int32)))) (fun X_10 => fX1_parse_91 Z a0 a1 (f) x2 X_10) else some (X_7.1 a0 7, X_7)) else some ((-1 : Int32), X_7)))) n
theorem fX1_parse_17_s (Z : XS) (a0 : Nat) (a1 : Nat) (n : Nat) (x2 : Int32) (X : XD) : fX1_parse_17 Z a0 a1 (n + 1) x2 X = if ((10 : Int32)) ≤ x2 then some (X.1 a0 7, X) else bnw (fX1_clause Z a0 a1 x2 X) (fun r5 X_6 => if r5 = 0 then some (X_6.1 a0 7, X_6) else nm (wI X_6 a0 4 (x2 + ((1 : Int32)))) (fun X_7 => if (X_7.1 a0 7) < (X_7.1 a1 1) then bnd (fX3_at Z a1 (X_7.1 a0 7) X_7) (fun r9 => if r9 = ((59 : Int32)) then if ((9 : Int32)) ≤ x2 then fX1_parse_91 Z a0 a1 ((fX1_parse_17 Z a0 a1 n)) x2 X_7 else nm (wI X_7 a0 7 ((X_7.1 a0 7) + ((1 : Int32)))) (fun X_10 => fX1_parse_91 Z a0 a1 ((fX1_parse_17 Z a0 a1 n)) x2 X_10) else some (X_7.1 a0 7, X_7)) else some ((-1 : Int32), X_7))) := rfl
noncomputable def fX1_parse (Z : XS) (a0 : Nat) (a1 : Nat) (X : XD) : Option (Int32 × XD) := nm (wI X a0 4 ((0 : Int32))) (fun X_1 => nm (wI X_1 a0 6 ((0 : Int32))) (fun X_2 => nm (wI X_2 a0 7 ((0 : Int32))) (fun X_3 => fX1_parse_17 Z a0 a1 FU ((0 : Int32)) X_3)))
set_option maxHeartbeats 40000000 in
set_option maxRecDepth 100000 in
theorem ceX1_parse {l : Launch} {E : XE} {w : XW} {z : Nat} {Z : XS}  (hL : LayC Z) {a0 : Nat} (h_a0 : KK Z a0 1) {a1 : Nat} (h_a1 : KK Z a1 3) {X X1 : XD} {r : Int32} (h : fX1_parse Z a0 a1 X = some (r, X1)) : Ct l E w yX1_parse (wsM yX1_parse cX1_parse 3 (some .int)) (rmX 28 0 0) 0 0 [.ref (w.1 a0), .ref (w.1 a1)] z z Z Z X X1 (some (.int r)) := by
  refine ct_of (by decide) (Nat.le_of_ble_eq_true rfl) ?_
  intro p e s m args below meth c hC hr hin hav
  have j91 : ∀ (k17 : Int32 → XD → Option (Int32 × XD)) (hk17 : ∀ (x2 : Int32) (X : XD), k17 x2 X = some (r, X1) → WW p l e (rmX 28 0 0) s m args below meth c 3 (MQ below (XQ E w z Z X1 (some (.int r))) args s 0 0 (A0 E)) E w 0 0 z Z 17 [(0, .ref (w.1 a0)), (1, .ref (w.1 a1)), (2, .int x2)] [] X), ∀ (x2 : Int32) (X : XD), fX1_parse_91 Z a0 a1 k17 x2 X = some (r, X1) → WW p l e (rmX 28 0 0) s m args below meth c 3 (MQ below (XQ E w z Z X1 (some (.int r))) args s 0 0 (A0 E)) E w 0 0 z Z 91 [(0, .ref (w.1 a0)), (1, .ref (w.1 a1)), (2, .int x2)] [] X := by
    intro k17 hk17 x2 X h
    unfold fX1_parse_91 at h
    obtain ⟨y11, ey11⟩ : ∃ q, q = x2 + (1 : Int32) := ⟨_, rfl⟩
    replace h := nm_i h ey11
    refine ww_iinc (pc := 91) hC y11 [(2, .int y11), (0, .ref (w.1 a0)), (1, .ref (w.1 a1))] dX1_parse_91 2 rfl (by rw [ey11]; rfl) (by decide) rfl ?_
    refine ww_goto (pc := 94) hC 17 dX1_parse_94 (by decide) ?_
    refine ww_sub [1, 2, 0] rfl ?_
    exact hk17 _ _ h
  have j17 : ∀ (n : Nat), ∀ (x2 : Int32) (X : XD), fX1_parse_17 Z a0 a1 n x2 X = some (r, X1) → WW p l e (rmX 28 0 0) s m args below meth c 3 (MQ below (XQ E w z Z X1 (some (.int r))) args s 0 0 (A0 E)) E w 0 0 z Z 17 [(0, .ref (w.1 a0)), (1, .ref (w.1 a1)), (2, .int x2)] [] X := by
    intro n
    induction n with
    | zero =>
      intro x2 X h
      cases (show none = some (r, X1) from h)
    | succ n ih =>
      intro x2 X h
      rw [fX1_parse_17_s] at h
      refine ww_iload_n (pc := 17) hC dX1_parse_17 2 rfl ?_
      refine ww_bipush (pc := 18) hC (v := (10 : Int32)) dX1_parse_18 (by decide) ?_
      refine ww_icmp_ge (pc := 20) hC h 97 dX1_parse_20 (by decide) (fun h => ?_) (fun h => ?_)
      · refine ww_aload_n (pc := 97) hC dX1_parse_97 0 rfl ?_
        refine ww_getI (pc := 98) hC 1 7 h_a0 RX1 (by decide) (by decide) rfl qf_X1_37 (Or.inl rfl) dX1_parse_98 ?_
        exact ww_iret (pc := 101) hC hr h dX1_parse_101
      · refine ww_aload_n (pc := 23) hC dX1_parse_23 0 rfl ?_
        refine ww_aload_n (pc := 24) hC dX1_parse_24 1 rfl ?_
        refine ww_iload_n (pc := 25) hC dX1_parse_25 2 rfl ?_
        obtain ⟨r5, X_6, h4, h⟩ := bnw_i h
        refine ww_callVi (pc := 26) hC [.ref (w.1 a1), .int x2] h_a0.1 h_a0.2 (by decide) (ceX1_clause hL h_a0 h_a1 h4) ql_X1_40 qi_X1_clause qs_X1_X1_clause qn_X1 qc_X1_clause rfl ⟨by decide, by decide, rfl⟩ rfl ⟨Nat.le_of_ble_eq_true rfl, Nat.le_of_ble_eq_true rfl⟩ (by decide) (rest := []) (Nat.le_of_ble_eq_true rfl) dX1_parse_26 ⟨Nat.le_of_ble_eq_true rfl, Nat.le_of_ble_eq_true rfl⟩ rfl ?_
        refine ww_if_ne (pc := 29) hC h 37 dX1_parse_29 (by decide) (fun h => ?_) (fun h => ?_)
        · refine ww_aload_n (pc := 37) hC dX1_parse_37 0 rfl ?_
          refine ww_iload_n (pc := 38) hC dX1_parse_38 2 rfl ?_
          refine ww_iconst (pc := 39) hC (v := (1 : Int32)) dX1_parse_39 (by decide) ?_
          refine ww_iadd (pc := 40) hC dX1_parse_40 ?_
          refine ww_putI (pc := 41) hC 1 4 h_a0 RX1 (by decide) (by decide) rfl qf_X1_30 rfl rfl rfl rfl dX1_parse_41 ?_
          obtain ⟨X_7, eX_7⟩ : ∃ q, q = wI X_6 a0 4 (x2 + ((1 : Int32))) := ⟨_, rfl⟩
          replace h := nm_i h eX_7
          refine ww_nmX eX_7 ?_
          refine ww_aload_n (pc := 44) hC dX1_parse_44 0 rfl ?_
          refine ww_getI (pc := 45) hC 1 7 h_a0 RX1 (by decide) (by decide) rfl qf_X1_37 (Or.inl rfl) dX1_parse_45 ?_
          refine ww_aload_n (pc := 48) hC dX1_parse_48 1 rfl ?_
          refine ww_getI (pc := 49) hC 3 1 h_a1 RX3 (by decide) (by decide) rfl qf_X1_44 (Or.inl rfl) dX1_parse_49 ?_
          refine ww_icmp_lt (pc := 52) hC h 57 dX1_parse_52 (by decide) (fun h => ?_) (fun h => ?_)
          · refine ww_aload_n (pc := 57) hC dX1_parse_57 1 rfl ?_
            refine ww_aload_n (pc := 58) hC dX1_parse_58 0 rfl ?_
            refine ww_getI (pc := 59) hC 1 7 h_a0 RX1 (by decide) (by decide) rfl qf_X1_37 (Or.inl rfl) dX1_parse_59 ?_
            obtain ⟨r9, h8, h⟩ := bnd_i h
            refine ww_callVi (pc := 62) hC [.int (X_7.1 a0 7)] h_a1.1 h_a1.2 (by decide) (ceX3_at hL h_a1 h8) ql_X1_49 qi_X3_at qs_X3_X3_at qn_X3 qc_X3_at rfl ⟨by decide, by decide, rfl⟩ rfl ⟨Nat.le_of_ble_eq_true rfl, Nat.le_of_ble_eq_true rfl⟩ (by decide) (rest := []) (Nat.le_of_ble_eq_true rfl) dX1_parse_62 ⟨Nat.le_of_ble_eq_true rfl, Nat.le_of_ble_eq_true rfl⟩ rfl ?_
            refine ww_bipush (pc := 65) hC (v := (59 : Int32)) dX1_parse_65 (by decide) ?_
            refine ww_icmp_eq (pc := 67) hC h 75 dX1_parse_67 (by decide) (fun h => ?_) (fun h => ?_)
            · refine ww_iload_n (pc := 75) hC dX1_parse_75 2 rfl ?_
              refine ww_bipush (pc := 76) hC (v := (9 : Int32)) dX1_parse_76 (by decide) ?_
              refine ww_icmp_ge (pc := 78) hC h 91 dX1_parse_78 (by decide) (fun h => ?_) (fun h => ?_)
              · refine ww_sub [0, 1, 2] rfl ?_
                exact j91 _ ih _ _ h
              · refine ww_aload_n (pc := 81) hC dX1_parse_81 0 rfl ?_
                refine ww_dup (pc := 82) hC dX1_parse_82 rfl ?_
                refine ww_getI (pc := 83) hC 1 7 h_a0 RX1 (by decide) (by decide) rfl qf_X1_37 (Or.inl rfl) dX1_parse_83 ?_
                refine ww_iconst (pc := 86) hC (v := (1 : Int32)) dX1_parse_86 (by decide) ?_
                refine ww_iadd (pc := 87) hC dX1_parse_87 ?_
                refine ww_putI (pc := 88) hC 1 7 h_a0 RX1 (by decide) (by decide) rfl qf_X1_37 rfl rfl rfl rfl dX1_parse_88 ?_
                obtain ⟨X_10, eX_10⟩ : ∃ q, q = wI X_7 a0 7 ((X_7.1 a0 7) + ((1 : Int32))) := ⟨_, rfl⟩
                replace h := nm_i h eX_10
                refine ww_nmX eX_10 ?_
                refine ww_sub [0, 1, 2] rfl ?_
                exact j91 _ ih _ _ h
            · refine ww_aload_n (pc := 70) hC dX1_parse_70 0 rfl ?_
              refine ww_getI (pc := 71) hC 1 7 h_a0 RX1 (by decide) (by decide) rfl qf_X1_37 (Or.inl rfl) dX1_parse_71 ?_
              exact ww_iret (pc := 74) hC hr h dX1_parse_74
          · refine ww_iconst (pc := 55) hC (v := (-1 : Int32)) dX1_parse_55 (by decide) ?_
            exact ww_iret (pc := 56) hC hr h dX1_parse_56
        · refine ww_aload_n (pc := 32) hC dX1_parse_32 0 rfl ?_
          refine ww_getI (pc := 33) hC 1 7 h_a0 RX1 (by decide) (by decide) rfl qf_X1_37 (Or.inl rfl) dX1_parse_33 ?_
          exact ww_iret (pc := 36) hC hr h dX1_parse_36
  unfold fX1_parse at h
  refine ww_lv (lv' := [(0, .ref (w.1 a0)), (1, .ref (w.1 a1))]) rfl ?_
  refine ww_aload_n (pc := 0) hC dX1_parse_0 0 rfl ?_
  refine ww_iconst (pc := 1) hC (v := (0 : Int32)) dX1_parse_1 (by decide) ?_
  refine ww_putI (pc := 2) hC 1 4 h_a0 RX1 (by decide) (by decide) rfl qf_X1_30 rfl rfl rfl rfl dX1_parse_2 ?_
  obtain ⟨X_1, eX_1⟩ : ∃ q, q = wI X a0 4 ((0 : Int32)) := ⟨_, rfl⟩
  replace h := nm_i h eX_1
  refine ww_nmX eX_1 ?_
  refine ww_aload_n (pc := 5) hC dX1_parse_5 0 rfl ?_
  refine ww_iconst (pc := 6) hC (v := (0 : Int32)) dX1_parse_6 (by decide) ?_
  refine ww_putI (pc := 7) hC 1 6 h_a0 RX1 (by decide) (by decide) rfl qf_X1_34 rfl rfl rfl rfl dX1_parse_7 ?_
  obtain ⟨X_2, eX_2⟩ : ∃ q, q = wI X_1 a0 6 ((0 : Int32)) := ⟨_, rfl⟩
  replace h := nm_i h eX_2
  refine ww_nmX eX_2 ?_
  refine ww_aload_n (pc := 10) hC dX1_parse_10 0 rfl ?_
  refine ww_iconst (pc := 11) hC (v := (0 : Int32)) dX1_parse_11 (by decide) ?_
  refine ww_putI (pc := 12) hC 1 7 h_a0 RX1 (by decide) (by decide) rfl qf_X1_37 rfl rfl rfl rfl dX1_parse_12 ?_
  obtain ⟨X_3, eX_3⟩ : ∃ q, q = wI X_2 a0 7 ((0 : Int32)) := ⟨_, rfl⟩
  replace h := nm_i h eX_3
  refine ww_nmX eX_3 ?_
  refine ww_iconst (pc := 15) hC (v := (0 : Int32)) dX1_parse_15 (by decide) ?_
  refine ww_istore_n (pc := 16) hC [(2, .int ((0 : Int32))), (0, .ref (w.1 a0)), (1, .ref (w.1 a1))] dX1_parse_16 rfl (by decide) rfl ?_
  refine ww_sub [1, 2, 0] rfl ?_
  exact j17 _ _ _ h
noncomputable def fX11_ground (Z : XS) (X : XD) : Option (Int32 × XD) := if (X.1 0 2) < 0 then some ((-4 : Int32), X) else if (X.1 0 2) < ((6 : Int32)) then gin (X.1 0 2) 6 (bnw (fX1_parse Z (3 + 7 * (X.1 0 2).toNatClampNeg) 45 X) (fun r3 X_4 => bnw (fX3_clear Z 45 X_4) (fun r6 X_7 => if r3 = ((-1 : Int32)) then nm (wI X_7 47 1 (X_7.1 0 2)) (fun X_8 => nm (wI X_8 0 2 ((X_8.1 0 2) + ((1 : Int32)))) (fun X_9 => some (X_9.1 47 1, X_9))) else some (((-10 : Int32)) - r3, X_7)))) else some ((-4 : Int32), X)
set_option maxHeartbeats 40000000 in
set_option maxRecDepth 100000 in
theorem ceX11_ground {l : Launch} {E : XE} {w : XW} {z : Nat} {Z : XS}  (hL : LayC Z) {X X1 : XD} {r : Int32} (h : fX11_ground Z X = some (r, X1)) : Ct l E w yX11_ground (wsM yX11_ground cX11_ground 3 (some .int)) (rmX 29 0 0) 0 0 [.ref (w.1 0)] z z Z Z X X1 (some (.int r)) := by
  refine ct_of (by decide) (Nat.le_of_ble_eq_true rfl) ?_
  intro p e s m args below meth c hC hr hin hav
  unfold fX11_ground at h
  refine ww_lv (lv' := [(0, .ref (w.1 0))]) rfl ?_
  refine ww_aload_n (pc := 0) hC dX11_ground_0 0 rfl ?_
  refine ww_getI (pc := 1) hC 11 2 hL.1 RX11 (by decide) (by decide) rfl qf_X11_148 (Or.inl rfl) dX11_ground_1 ?_
  refine ww_if_lt (pc := 4) hC h 19 dX11_ground_4 (by decide) (fun h => ?_) (fun h => ?_)
  · refine ww_bipush (pc := 19) hC (v := (-4 : Int32)) dX11_ground_19 (by decide) ?_
    exact ww_iret (pc := 21) hC hr h dX11_ground_21
  · refine ww_aload_n (pc := 7) hC dX11_ground_7 0 rfl ?_
    refine ww_getI (pc := 8) hC 11 2 hL.1 RX11 (by decide) (by decide) rfl qf_X11_148 (Or.inl rfl) dX11_ground_8 ?_
    refine ww_aload_n (pc := 11) hC dX11_ground_11 0 rfl ?_
    refine ww_getR (pc := 12) hC 11 1 2 hL.1 RX11 (by decide) (by decide) rfl (lay_11_1 hL).1 qf_X11_19 rfl dX11_ground_12 ?_
    refine ww_alen (pc := 15) hC ((6 : Int32)) ((lay_11_1 hL).2) (by decide) (by decide) rfl dX11_ground_15 ?_
    refine ww_icmp_lt (pc := 16) hC h 22 dX11_ground_16 (by decide) (fun h => ?_) (fun h => ?_)
    · refine ww_aload_n (pc := 22) hC dX11_ground_22 0 rfl ?_
      refine ww_getR (pc := 23) hC 11 1 2 hL.1 RX11 (by decide) (by decide) rfl (lay_11_1 hL).1 qf_X11_19 rfl dX11_ground_23 ?_
      refine ww_aload_n (pc := 26) hC dX11_ground_26 0 rfl ?_
      refine ww_getI (pc := 27) hC 11 2 hL.1 RX11 (by decide) (by decide) rfl qf_X11_148 (Or.inl rfl) dX11_ground_27 ?_
      have hin1 := (gin_i h).1
      refine ww_aald (pc := 30) hC (3 + 7 * (X.1 0 2).toNatClampNeg) ((lay_11_1 hL).2) (by decide) (by decide) h (fun q => (lay_el16 hL q).1) dX11_ground_30 (fun h => ?_)
      refine ww_astore_n (pc := 31) hC [(1, .ref (w.1 (3 + 7 * (X.1 0 2).toNatClampNeg))), (0, .ref (w.1 0))] dX11_ground_31 rfl (by decide) rfl ?_
      refine ww_aload_n (pc := 32) hC dX11_ground_32 0 rfl ?_
      refine ww_ifnonnull (pc := 33) hC 39 dX11_ground_33 (by decide) ?_
      refine ww_aload_n (pc := 39) hC dX11_ground_39 0 rfl ?_
      refine ww_aload_n (pc := 40) hC dX11_ground_40 1 rfl ?_
      refine ww_getR (pc := 41) hC 11 3 45 hL.1 RX11 (by decide) (by decide) rfl (lay_11_3 hL).1 qf_X11_29 rfl dX11_ground_41 ?_
      obtain ⟨r3, X_4, h2, h⟩ := bnw_i h
      refine ww_callVi (pc := 44) hC [.ref (w.1 45)] ((lay_el16 hL hin1).2).1 ((lay_el16 hL hin1).2).2 (by decide) (ceX1_parse hL ((lay_el16 hL hin1).2) ((lay_11_3 hL).2) h2) ql_X11_151 qi_X1_parse qs_X1_X1_parse qn_X1 qc_X1_parse rfl ⟨by decide, by decide, rfl⟩ rfl ⟨Nat.le_of_ble_eq_true rfl, Nat.le_of_ble_eq_true rfl⟩ (by decide) (rest := []) (Nat.le_of_ble_eq_true rfl) dX11_ground_44 ⟨Nat.le_of_ble_eq_true rfl, Nat.le_of_ble_eq_true rfl⟩ rfl ?_
      refine ww_istore_n (pc := 47) hC [(2, .int r3), (1, .ref (w.1 (3 + 7 * (X.1 0 2).toNatClampNeg))), (0, .ref (w.1 0))] dX11_ground_47 rfl (by decide) rfl ?_
      refine ww_aload_n (pc := 48) hC dX11_ground_48 2 rfl ?_
      refine ww_getR (pc := 49) hC 11 3 45 hL.1 RX11 (by decide) (by decide) rfl (lay_11_3 hL).1 qf_X11_29 rfl dX11_ground_49 ?_
      obtain ⟨r6, X_7, h5, h⟩ := bnw_i h
      refine ww_callVi (pc := 52) hC [] ((lay_11_3 hL).2).1 ((lay_11_3 hL).2).2 (by decide) (ceX3_clear hL ((lay_11_3 hL).2) h5) ql_X11_155 qi_X3_clear qs_X3_X3_clear qn_X3 qc_X3_clear rfl ⟨by decide, by decide, rfl⟩ rfl ⟨Nat.le_of_ble_eq_true rfl, Nat.le_of_ble_eq_true rfl⟩ (by decide) (rest := []) (Nat.le_of_ble_eq_true rfl) dX11_ground_52 ⟨Nat.le_of_ble_eq_true rfl, Nat.le_of_ble_eq_true rfl⟩ rfl ?_
      refine ww_pop (pc := 55) hC dX11_ground_55 rfl ?_
      refine ww_iload_n (pc := 56) hC dX11_ground_56 0 rfl ?_
      refine ww_iconst (pc := 57) hC (v := (-1 : Int32)) dX11_ground_57 (by decide) ?_
      refine ww_icmp_eq (pc := 58) hC h 66 dX11_ground_58 (by decide) (fun h => ?_) (fun h => ?_)
      · refine ww_aload_n (pc := 66) hC dX11_ground_66 2 rfl ?_
        refine ww_getR (pc := 67) hC 11 4 47 hL.1 RX11 (by decide) (by decide) rfl (lay_11_4 hL).1 qf_X11_36 rfl dX11_ground_67 ?_
        refine ww_aload_n (pc := 70) hC dX11_ground_70 2 rfl ?_
        refine ww_getI (pc := 71) hC 11 2 hL.1 RX11 (by decide) (by decide) rfl qf_X11_148 (Or.inl rfl) dX11_ground_71 ?_
        refine ww_putI (pc := 74) hC 6 1 ((lay_11_4 hL).2) RX6 (by decide) (by decide) rfl qf_X11_158 rfl rfl rfl rfl dX11_ground_74 ?_
        obtain ⟨X_8, eX_8⟩ : ∃ q, q = wI X_7 47 1 (X_7.1 0 2) := ⟨_, rfl⟩
        replace h := nm_i h eX_8
        refine ww_nmX eX_8 ?_
        refine ww_aload_n (pc := 77) hC dX11_ground_77 2 rfl ?_
        refine ww_dup (pc := 78) hC dX11_ground_78 rfl ?_
        refine ww_getI (pc := 79) hC 11 2 hL.1 RX11 (by decide) (by decide) rfl qf_X11_148 (Or.inl rfl) dX11_ground_79 ?_
        refine ww_iconst (pc := 82) hC (v := (1 : Int32)) dX11_ground_82 (by decide) ?_
        refine ww_iadd (pc := 83) hC dX11_ground_83 ?_
        refine ww_putI (pc := 84) hC 11 2 hL.1 RX11 (by decide) (by decide) rfl qf_X11_148 rfl rfl rfl rfl dX11_ground_84 ?_
        obtain ⟨X_9, eX_9⟩ : ∃ q, q = wI X_8 0 2 ((X_8.1 0 2) + ((1 : Int32))) := ⟨_, rfl⟩
        replace h := nm_i h eX_9
        refine ww_nmX eX_9 ?_
        refine ww_aload_n (pc := 87) hC dX11_ground_87 2 rfl ?_
        refine ww_getR (pc := 88) hC 11 4 47 hL.1 RX11 (by decide) (by decide) rfl (lay_11_4 hL).1 qf_X11_36 rfl dX11_ground_88 ?_
        refine ww_getI (pc := 91) hC 6 1 ((lay_11_4 hL).2) RX6 (by decide) (by decide) rfl qf_X11_158 (Or.inl rfl) dX11_ground_91 ?_
        exact ww_iret (pc := 94) hC hr h dX11_ground_94
      · refine ww_bipush (pc := 61) hC (v := (-10 : Int32)) dX11_ground_61 (by decide) ?_
        refine ww_iload_n (pc := 63) hC dX11_ground_63 0 rfl ?_
        refine ww_isub (pc := 64) hC dX11_ground_64 ?_
        exact ww_iret (pc := 65) hC hr h dX11_ground_65
    · refine ww_bipush (pc := 19) hC (v := (-4 : Int32)) dX11_ground_19 (by decide) ?_
      exact ww_iret (pc := 21) hC hr h dX11_ground_21
