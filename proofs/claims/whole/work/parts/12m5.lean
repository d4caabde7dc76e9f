noncomputable def fX12_undo_205 (n : Nat) : Int32 → XD → Option (Int32 × XD) := Nat.rec (motive := fun _ => Int32 → XD → Option (Int32 × XD)) (fun _ _ => none) (fun _ f => fun x1 X => if ((10 : Int32)) ≤ x1 then some (X.1 0 0, X) else gin x1 10 (gin x1 10 (nm (wI X 26 (x1).toNatClampNeg (X.1 36 (x1).toNatClampNeg)) (fun X_19 => gin x1 10 (gin x1 10 (nm (wI X_19 27 (x1).toNatClampNeg (X_19.1 37 (x1).toNatClampNeg)) (fun X_20 => nm (x1 + (1 : Int32)) (fun y21 => f y21 X_20)))))))) n
theorem fX12_undo_205_s (n : Nat) (x1 : Int32) (X : XD) : fX12_undo_205 (n + 1) x1 X = if ((10 : Int32)) ≤ x1 then some (X.1 0 0, X) else gin x1 10 (gin x1 10 (nm (wI X 26 (x1).toNatClampNeg (X.1 36 (x1).toNatClampNeg)) (fun X_19 => gin x1 10 (gin x1 10 (nm (wI X_19 27 (x1).toNatClampNeg (X_19.1 37 (x1).toNatClampNeg)) (fun X_20 => nm (x1 + (1 : Int32)) (fun y21 => (fX12_undo_205 n) y21 X_20))))))) := rfl
noncomputable def fX12_undo_180 (n : Nat) : Int32 → XD → Option (Int32 × XD) := Nat.rec (motive := fun _ => Int32 → XD → Option (Int32 × XD)) (fun _ _ => none) (fun _ f => fun x1 X => if ((4 : Int32)) ≤ x1 then fX12_undo_205 FU ((0 : Int32)) X else gin x1 4 (gin x1 4 (nm (wI X 20 (x1).toNatClampNeg (X.1 34 (x1).toNatClampNeg)) (fun X_17 => nm (x1 + (1 : Int32)) (fun y18 => f y18 X_17))))) n
theorem fX12_undo_180_s (n : Nat) (x1 : Int32) (X : XD) : fX12_undo_180 (n + 1) x1 X = if ((4 : Int32)) ≤ x1 then fX12_undo_205 FU ((0 : Int32)) X else gin x1 4 (gin x1 4 (nm (wI X 20 (x1).toNatClampNeg (X.1 34 (x1).toNatClampNeg)) (fun X_17 => nm (x1 + (1 : Int32)) (fun y18 => (fX12_undo_180 n) y18 X_17)))) := rfl
noncomputable def fX12_undo_154 (n : Nat) : Int32 → XD → Option (Int32 × XD) := Nat.rec (motive := fun _ => Int32 → XD → Option (Int32 × XD)) (fun _ _ => none) (fun _ f => fun x1 X => if ((24 : Int32)) ≤ x1 then fX12_undo_180 FU ((0 : Int32)) X else gin x1 24 (gin x1 24 (nm (wI X 6 (x1).toNatClampNeg (X.1 33 (x1).toNatClampNeg)) (fun X_15 => nm (x1 + (1 : Int32)) (fun y16 => f y16 X_15))))) n
theorem fX12_undo_154_s (n : Nat) (x1 : Int32) (X : XD) : fX12_undo_154 (n + 1) x1 X = if ((24 : Int32)) ≤ x1 then fX12_undo_180 FU ((0 : Int32)) X else gin x1 24 (gin x1 24 (nm (wI X 6 (x1).toNatClampNeg (X.1 33 (x1).toNatClampNeg)) (fun X_15 => nm (x1 + (1 : Int32)) (fun y16 => (fX12_undo_154 n) y16 X_15)))) := rfl
noncomputable def fX12_undo_68 (n : Nat) : Int32 → XD → Option (Int32 × XD) := Nat.rec (motive := fun _ => Int32 → XD → Option (Int32 × XD)) (fun _ _ => none) (fun _ f => fun x1 X => if ((6 : Int32)) ≤ x1 then fX12_undo_154 FU ((0 : Int32)) X else gin x1 6 (gin x1 6 (nm (wI X 1 (x1).toNatClampNeg (X.1 28 (x1).toNatClampNeg)) (fun X_8 => gin x1 6 (gin x1 6 (nm (wI X_8 2 (x1).toNatClampNeg (X_8.1 29 (x1).toNatClampNeg)) (fun X_9 => gin x1 6 (gin x1 6 (nm (wI X_9 3 (x1).toNatClampNeg (X_9.1 30 (x1).toNatClampNeg)) (fun X_10 => gin x1 6 (gin x1 6 (nm (wI X_10 4 (x1).toNatClampNeg (X_10.1 31 (x1).toNatClampNeg)) (fun X_11 => gin x1 6 (gin x1 6 (nm (wI X_11 5 (x1).toNatClampNeg (X_11.1 32 (x1).toNatClampNeg)) (fun X_12 => gin x1 6 (gin x1 6 (nm (wI X_12 25 (x1).toNatClampNeg (X_12.1 35 (x1).toNatClampNeg)) (fun X_13 => nm (x1 + (1 : Int32)) (fun y14 => f y14 X_13)))))))))))))))))))) n
theorem fX12_undo_68_s (n : Nat) (x1 : Int32) (X : XD) : fX12_undo_68 (n + 1) x1 X = if ((6 : Int32)) ≤ x1 then fX12_undo_154 FU ((0 : Int32)) X else gin x1 6 (gin x1 6 (nm (wI X 1 (x1).toNatClampNeg (X.1 28 (x1).toNatClampNeg)) (fun X_8 => gin x1 6 (gin x1 6 (nm (wI X_8 2 (x1).toNatClampNeg (X_8.1 29 (x1).toNatClampNeg)) (fun X_9 => gin x1 6 (gin x1 6 (nm (wI X_9 3 (x1).toNatClampNeg (X_9.1 30 (x1).toNatClampNeg)) (fun X_10 => gin x1 6 (gin x1 6 (nm (wI X_10 4 (x1).toNatClampNeg (X_10.1 31 (x1).toNatClampNeg)) (fun X_11 => gin x1 6 (gin x1 6 (nm (wI X_11 5 (x1).toNatClampNeg (X_11.1 32 (x1).toNatClampNeg)) (fun X_12 => gin x1 6 (gin x1 6 (nm (wI X_12 25 (x1).toNatClampNeg (X_12.1 35 (x1).toNatClampNeg)) (fun X_13 => nm (x1 + (1 : Int32)) (fun y14 => (fX12_undo_68 n) y14 X_13))))))))))))))))))) := rfl
noncomputable def fX12_undo (X : XD) : Option (Int32 × XD) := if (X.1 0 43) = 0 then some ((-3 : Int32), X) else nm (wI X 0 10 (X.1 0 44)) (fun X_1 => nm (wI X_1 0 0 (X_1.1 0 45)) (fun X_2 => nm (wI X_2 0 1 (X_2.1 0 46)) (fun X_3 => nm (wI X_3 0 2 (X_3.1 0 47)) (fun X_4 => nm (wI X_4 0 32 (X_4.1 0 48)) (fun X_5 => nm (wI X_5 0 38 (X_5.1 0 49)) (fun X_6 => nm (wI X_6 0 40 (X_6.1 0 50)) (fun X_7 => fX12_undo_68 FU ((0 : Int32)) X_7)))))))
set_option maxHeartbeats 40000000 in
set_option maxRecDepth 100000 in
theorem ceX12_undo {l : Launch} {E : XE} {w : XW} {z : Nat} {Z : XS} (hL : LayM Z) {X X1 : XD} {r : Int32} (h : fX12_undo X = some (r, X1)) : Ct l E w yX12_undo (wsM yX12_undo cX12_undo 2 (some .int)) (rmX 1 0 0) 0 0 [.ref (w.1 0)] z z Z Z X X1 (some (.int r)) := by
  refine ct_of (by decide) (Nat.le_of_ble_eq_true rfl) ?_
  intro p e s m args below meth c hC hr hin hav
  have j205 : ∀ (n : Nat), ∀ (x1 : Int32) (X : XD), fX12_undo_205 n x1 X = some (r, X1) → WW p l e (rmX 1 0 0) s m args below meth c 2 (MQ below (XQ E w z Z X1 (some (.int r))) args s 0 0 (A0 E)) E w 0 0 z Z 205 [(0, .ref (w.1 0)), (1, .int x1)] [] X := by
    intro n
    induction n with
    | zero =>
      intro x1 X h
      cases (show none = some (r, X1) from h)
    | succ n ih =>
      intro x1 X h
      rw [fX12_undo_205_s] at h
      refine ww_iload_n (pc := 205) hC dX12_undo_205 1 rfl ?_
      refine ww_bipush (pc := 206) hC (v := (10 : Int32)) dX12_undo_206 (by decide) ?_
      refine ww_icmp_ge (pc := 208) hC h 241 dX12_undo_208 (by decide) (fun h => ?_) (fun h => ?_)
      · refine ww_aload_n (pc := 241) hC dX12_undo_241 0 rfl ?_
        refine ww_getI (pc := 242) hC 12 0 hL.1 RX12 (by decide) (by decide) rfl qf_X12_7 (Or.inl rfl) dX12_undo_242 ?_
        exact ww_iret (pc := 245) hC hr h dX12_undo_245
      · refine ww_aload_n (pc := 211) hC dX12_undo_211 0 rfl ?_
        refine ww_getR (pc := 212) hC 12 41 26 hL.1 RX12 (by decide) (by decide) rfl (lay_12_41 hL).1 qf_X12_136 rfl dX12_undo_212 ?_
        refine ww_iload_n (pc := 215) hC dX12_undo_215 1 rfl ?_
        refine ww_aload_n (pc := 216) hC dX12_undo_216 0 rfl ?_
        refine ww_getR (pc := 217) hC 12 59 36 hL.1 RX12 (by decide) (by decide) rfl (lay_12_59 hL).1 qf_X12_191 rfl dX12_undo_217 ?_
        refine ww_iload_n (pc := 220) hC dX12_undo_220 1 rfl ?_
        refine ww_iald (pc := 221) hC ((lay_12_59 hL).2) h dX12_undo_221 (fun h => ?_)
        refine ww_iast (pc := 222) hC ((lay_12_41 hL).2) h dX12_undo_222 (fun h => ?_)
        obtain ⟨X_19, eX_19⟩ : ∃ q, q = wI X 26 (x1).toNatClampNeg (X.1 36 (x1).toNatClampNeg) := ⟨_, rfl⟩
        replace h := nm_i h eX_19
        refine ww_nmX eX_19 ?_
        refine ww_aload_n (pc := 223) hC dX12_undo_223 0 rfl ?_
        refine ww_getR (pc := 224) hC 12 42 27 hL.1 RX12 (by decide) (by decide) rfl (lay_12_42 hL).1 qf_X12_139 rfl dX12_undo_224 ?_
        refine ww_iload_n (pc := 227) hC dX12_undo_227 1 rfl ?_
        refine ww_aload_n (pc := 228) hC dX12_undo_228 0 rfl ?_
        refine ww_getR (pc := 229) hC 12 60 37 hL.1 RX12 (by decide) (by decide) rfl (lay_12_60 hL).1 qf_X12_194 rfl dX12_undo_229 ?_
        refine ww_iload_n (pc := 232) hC dX12_undo_232 1 rfl ?_
        refine ww_iald (pc := 233) hC ((lay_12_60 hL).2) h dX12_undo_233 (fun h => ?_)
        refine ww_iast (pc := 234) hC ((lay_12_42 hL).2) h dX12_undo_234 (fun h => ?_)
        obtain ⟨X_20, eX_20⟩ : ∃ q, q = wI X_19 27 (x1).toNatClampNeg (X_19.1 37 (x1).toNatClampNeg) := ⟨_, rfl⟩
        replace h := nm_i h eX_20
        refine ww_nmX eX_20 ?_
        obtain ⟨y21, ey21⟩ : ∃ q, q = x1 + (1 : Int32) := ⟨_, rfl⟩
        replace h := nm_i h ey21
        refine ww_iinc (pc := 235) hC y21 [(1, .int y21), (0, .ref (w.1 0))] dX12_undo_235 1 rfl (by rw [ey21]; rfl) (by decide) rfl ?_
        refine ww_goto (pc := 238) hC 205 dX12_undo_238 (by decide) ?_
        refine ww_sub [1, 0] rfl ?_
        exact ih _ _ h
  have j180 : ∀ (n : Nat), ∀ (x1 : Int32) (X : XD), fX12_undo_180 n x1 X = some (r, X1) → WW p l e (rmX 1 0 0) s m args below meth c 2 (MQ below (XQ E w z Z X1 (some (.int r))) args s 0 0 (A0 E)) E w 0 0 z Z 180 [(0, .ref (w.1 0)), (1, .int x1)] [] X := by
    intro n
    induction n with
    | zero =>
      intro x1 X h
      cases (show none = some (r, X1) from h)
    | succ n ih =>
      intro x1 X h
      rw [fX12_undo_180_s] at h
      refine ww_iload_n (pc := 180) hC dX12_undo_180 1 rfl ?_
      refine ww_iconst (pc := 181) hC (v := (4 : Int32)) dX12_undo_181 (by decide) ?_
      refine ww_icmp_ge (pc := 182) hC h 203 dX12_undo_182 (by decide) (fun h => ?_) (fun h => ?_)
      · refine ww_iconst (pc := 203) hC (v := (0 : Int32)) dX12_undo_203 (by decide) ?_
        refine ww_istore_n (pc := 204) hC [(1, .int ((0 : Int32))), (0, .ref (w.1 0))] dX12_undo_204 rfl (by decide) rfl ?_
        refine ww_sub [1, 0] rfl ?_
        exact j205 _ _ _ h
      · refine ww_aload_n (pc := 185) hC dX12_undo_185 0 rfl ?_
        refine ww_getR (pc := 186) hC 12 33 20 hL.1 RX12 (by decide) (by decide) rfl (lay_12_33 hL).1 qf_X12_111 rfl dX12_undo_186 ?_
        refine ww_iload_n (pc := 189) hC dX12_undo_189 1 rfl ?_
        refine ww_aload_n (pc := 190) hC dX12_undo_190 0 rfl ?_
        refine ww_getR (pc := 191) hC 12 57 34 hL.1 RX12 (by decide) (by decide) rfl (lay_12_57 hL).1 qf_X12_185 rfl dX12_undo_191 ?_
        refine ww_iload_n (pc := 194) hC dX12_undo_194 1 rfl ?_
        refine ww_iald (pc := 195) hC ((lay_12_57 hL).2) h dX12_undo_195 (fun h => ?_)
        refine ww_iast (pc := 196) hC ((lay_12_33 hL).2) h dX12_undo_196 (fun h => ?_)
        obtain ⟨X_17, eX_17⟩ : ∃ q, q = wI X 20 (x1).toNatClampNeg (X.1 34 (x1).toNatClampNeg) := ⟨_, rfl⟩
        replace h := nm_i h eX_17
        refine ww_nmX eX_17 ?_
        obtain ⟨y18, ey18⟩ : ∃ q, q = x1 + (1 : Int32) := ⟨_, rfl⟩
        replace h := nm_i h ey18
        refine ww_iinc (pc := 197) hC y18 [(1, .int y18), (0, .ref (w.1 0))] dX12_undo_197 1 rfl (by rw [ey18]; rfl) (by decide) rfl ?_
        refine ww_goto (pc := 200) hC 180 dX12_undo_200 (by decide) ?_
        refine ww_sub [1, 0] rfl ?_
        exact ih _ _ h
  have j154 : ∀ (n : Nat), ∀ (x1 : Int32) (X : XD), fX12_undo_154 n x1 X = some (r, X1) → WW p l e (rmX 1 0 0) s m args below meth c 2 (MQ below (XQ E w z Z X1 (some (.int r))) args s 0 0 (A0 E)) E w 0 0 z Z 154 [(0, .ref (w.1 0)), (1, .int x1)] [] X := by
    intro n
    induction n with
    | zero =>
      intro x1 X h
      cases (show none = some (r, X1) from h)
    | succ n ih =>
      intro x1 X h
      rw [fX12_undo_154_s] at h
      refine ww_iload_n (pc := 154) hC dX12_undo_154 1 rfl ?_
      refine ww_bipush (pc := 155) hC (v := (24 : Int32)) dX12_undo_155 (by decide) ?_
      refine ww_icmp_ge (pc := 157) hC h 178 dX12_undo_157 (by decide) (fun h => ?_) (fun h => ?_)
      · refine ww_iconst (pc := 178) hC (v := (0 : Int32)) dX12_undo_178 (by decide) ?_
        refine ww_istore_n (pc := 179) hC [(1, .int ((0 : Int32))), (0, .ref (w.1 0))] dX12_undo_179 rfl (by decide) rfl ?_
        refine ww_sub [1, 0] rfl ?_
        exact j180 _ _ _ h
      · refine ww_aload_n (pc := 160) hC dX12_undo_160 0 rfl ?_
        refine ww_getR (pc := 161) hC 12 8 6 hL.1 RX12 (by decide) (by decide) rfl (lay_12_8 hL).1 qf_X12_35 rfl dX12_undo_161 ?_
        refine ww_iload_n (pc := 164) hC dX12_undo_164 1 rfl ?_
        refine ww_aload_n (pc := 165) hC dX12_undo_165 0 rfl ?_
        refine ww_getR (pc := 166) hC 12 56 33 hL.1 RX12 (by decide) (by decide) rfl (lay_12_56 hL).1 qf_X12_182 rfl dX12_undo_166 ?_
        refine ww_iload_n (pc := 169) hC dX12_undo_169 1 rfl ?_
        refine ww_iald (pc := 170) hC ((lay_12_56 hL).2) h dX12_undo_170 (fun h => ?_)
        refine ww_iast (pc := 171) hC ((lay_12_8 hL).2) h dX12_undo_171 (fun h => ?_)
        obtain ⟨X_15, eX_15⟩ : ∃ q, q = wI X 6 (x1).toNatClampNeg (X.1 33 (x1).toNatClampNeg) := ⟨_, rfl⟩
        replace h := nm_i h eX_15
        refine ww_nmX eX_15 ?_
        obtain ⟨y16, ey16⟩ : ∃ q, q = x1 + (1 : Int32) := ⟨_, rfl⟩
        replace h := nm_i h ey16
        refine ww_iinc (pc := 172) hC y16 [(1, .int y16), (0, .ref (w.1 0))] dX12_undo_172 1 rfl (by rw [ey16]; rfl) (by decide) rfl ?_
        refine ww_goto (pc := 175) hC 154 dX12_undo_175 (by decide) ?_
        refine ww_sub [1, 0] rfl ?_
        exact ih _ _ h
  have j68 : ∀ (n : Nat), ∀ (x1 : Int32) (X : XD), fX12_undo_68 n x1 X = some (r, X1) → WW p l e (rmX 1 0 0) s m args below meth c 2 (MQ below (XQ E w z Z X1 (some (.int r))) args s 0 0 (A0 E)) E w 0 0 z Z 68 [(0, .ref (w.1 0)), (1, .int x1)] [] X := by
    intro n
    induction n with
    | zero =>
      intro x1 X h
      cases (show none = some (r, X1) from h)
    | succ n ih =>
      intro x1 X h
      rw [fX12_undo_68_s] at h
      refine ww_iload_n (pc := 68) hC dX12_undo_68 1 rfl ?_
      refine ww_bipush (pc := 69) hC (v := (6 : Int32)) dX12_undo_69 (by decide) ?_
      refine ww_icmp_ge (pc := 71) hC h 152 dX12_undo_71 (by decide) (fun h => ?_) (fun h => ?_)
      · refine ww_iconst (pc := 152) hC (v := (0 : Int32)) dX12_undo_152 (by decide) ?_
        refine ww_istore_n (pc := 153) hC [(1, .int ((0 : Int32))), (0, .ref (w.1 0))] dX12_undo_153 rfl (by decide) rfl ?_
        refine ww_sub [1, 0] rfl ?_
        exact j154 _ _ _ h
      · refine ww_aload_n (pc := 74) hC dX12_undo_74 0 rfl ?_
        refine ww_getR (pc := 75) hC 12 3 1 hL.1 RX12 (by decide) (by decide) rfl (lay_12_3 hL).1 qf_X12_19 rfl dX12_undo_75 ?_
        refine ww_iload_n (pc := 78) hC dX12_undo_78 1 rfl ?_
        refine ww_aload_n (pc := 79) hC dX12_undo_79 0 rfl ?_
        refine ww_getR (pc := 80) hC 12 51 28 hL.1 RX12 (by decide) (by decide) rfl (lay_12_51 hL).1 qf_X12_167 rfl dX12_undo_80 ?_
        refine ww_iload_n (pc := 83) hC dX12_undo_83 1 rfl ?_
        refine ww_iald (pc := 84) hC ((lay_12_51 hL).2) h dX12_undo_84 (fun h => ?_)
        refine ww_iast (pc := 85) hC ((lay_12_3 hL).2) h dX12_undo_85 (fun h => ?_)
        obtain ⟨X_8, eX_8⟩ : ∃ q, q = wI X 1 (x1).toNatClampNeg (X.1 28 (x1).toNatClampNeg) := ⟨_, rfl⟩
        replace h := nm_i h eX_8
        refine ww_nmX eX_8 ?_
        refine ww_aload_n (pc := 86) hC dX12_undo_86 0 rfl ?_
        refine ww_getR (pc := 87) hC 12 4 2 hL.1 RX12 (by decide) (by decide) rfl (lay_12_4 hL).1 qf_X12_23 rfl dX12_undo_87 ?_
        refine ww_iload_n (pc := 90) hC dX12_undo_90 1 rfl ?_
        refine ww_aload_n (pc := 91) hC dX12_undo_91 0 rfl ?_
        refine ww_getR (pc := 92) hC 12 52 29 hL.1 RX12 (by decide) (by decide) rfl (lay_12_52 hL).1 qf_X12_170 rfl dX12_undo_92 ?_
        refine ww_iload_n (pc := 95) hC dX12_undo_95 1 rfl ?_
        refine ww_iald (pc := 96) hC ((lay_12_52 hL).2) h dX12_undo_96 (fun h => ?_)
        refine ww_iast (pc := 97) hC ((lay_12_4 hL).2) h dX12_undo_97 (fun h => ?_)
        obtain ⟨X_9, eX_9⟩ : ∃ q, q = wI X_8 2 (x1).toNatClampNeg (X_8.1 29 (x1).toNatClampNeg) := ⟨_, rfl⟩
        replace h := nm_i h eX_9
        refine ww_nmX eX_9 ?_
        refine ww_aload_n (pc := 98) hC dX12_undo_98 0 rfl ?_
        refine ww_getR (pc := 99) hC 12 5 3 hL.1 RX12 (by decide) (by decide) rfl (lay_12_5 hL).1 qf_X12_26 rfl dX12_undo_99 ?_
        refine ww_iload_n (pc := 102) hC dX12_undo_102 1 rfl ?_
        refine ww_aload_n (pc := 103) hC dX12_undo_103 0 rfl ?_
        refine ww_getR (pc := 104) hC 12 53 30 hL.1 RX12 (by decide) (by decide) rfl (lay_12_53 hL).1 qf_X12_173 rfl dX12_undo_104 ?_
        refine ww_iload_n (pc := 107) hC dX12_undo_107 1 rfl ?_
        refine ww_iald (pc := 108) hC ((lay_12_53 hL).2) h dX12_undo_108 (fun h => ?_)
        refine ww_iast (pc := 109) hC ((lay_12_5 hL).2) h dX12_undo_109 (fun h => ?_)
        obtain ⟨X_10, eX_10⟩ : ∃ q, q = wI X_9 3 (x1).toNatClampNeg (X_9.1 30 (x1).toNatClampNeg) := ⟨_, rfl⟩
        replace h := nm_i h eX_10
        refine ww_nmX eX_10 ?_
        refine ww_aload_n (pc := 110) hC dX12_undo_110 0 rfl ?_
        refine ww_getR (pc := 111) hC 12 6 4 hL.1 RX12 (by decide) (by decide) rfl (lay_12_6 hL).1 qf_X12_29 rfl dX12_undo_111 ?_
        refine ww_iload_n (pc := 114) hC dX12_undo_114 1 rfl ?_
        refine ww_aload_n (pc := 115) hC dX12_undo_115 0 rfl ?_
        refine ww_getR (pc := 116) hC 12 54 31 hL.1 RX12 (by decide) (by decide) rfl (lay_12_54 hL).1 qf_X12_176 rfl dX12_undo_116 ?_
        refine ww_iload_n (pc := 119) hC dX12_undo_119 1 rfl ?_
        refine ww_iald (pc := 120) hC ((lay_12_54 hL).2) h dX12_undo_120 (fun h => ?_)
        refine ww_iast (pc := 121) hC ((lay_12_6 hL).2) h dX12_undo_121 (fun h => ?_)
        obtain ⟨X_11, eX_11⟩ : ∃ q, q = wI X_10 4 (x1).toNatClampNeg (X_10.1 31 (x1).toNatClampNeg) := ⟨_, rfl⟩
        replace h := nm_i h eX_11
        refine ww_nmX eX_11 ?_
        refine ww_aload_n (pc := 122) hC dX12_undo_122 0 rfl ?_
        refine ww_getR (pc := 123) hC 12 7 5 hL.1 RX12 (by decide) (by decide) rfl (lay_12_7 hL).1 qf_X12_32 rfl dX12_undo_123 ?_
        refine ww_iload_n (pc := 126) hC dX12_undo_126 1 rfl ?_
        refine ww_aload_n (pc := 127) hC dX12_undo_127 0 rfl ?_
        refine ww_getR (pc := 128) hC 12 55 32 hL.1 RX12 (by decide) (by decide) rfl (lay_12_55 hL).1 qf_X12_179 rfl dX12_undo_128 ?_
        refine ww_iload_n (pc := 131) hC dX12_undo_131 1 rfl ?_
        refine ww_iald (pc := 132) hC ((lay_12_55 hL).2) h dX12_undo_132 (fun h => ?_)
        refine ww_iast (pc := 133) hC ((lay_12_7 hL).2) h dX12_undo_133 (fun h => ?_)
        obtain ⟨X_12, eX_12⟩ : ∃ q, q = wI X_11 5 (x1).toNatClampNeg (X_11.1 32 (x1).toNatClampNeg) := ⟨_, rfl⟩
        replace h := nm_i h eX_12
        refine ww_nmX eX_12 ?_
        refine ww_aload_n (pc := 134) hC dX12_undo_134 0 rfl ?_
        refine ww_getR (pc := 135) hC 12 39 25 hL.1 RX12 (by decide) (by decide) rfl (lay_12_39 hL).1 qf_X12_130 rfl dX12_undo_135 ?_
        refine ww_iload_n (pc := 138) hC dX12_undo_138 1 rfl ?_
        refine ww_aload_n (pc := 139) hC dX12_undo_139 0 rfl ?_
        refine ww_getR (pc := 140) hC 12 58 35 hL.1 RX12 (by decide) (by decide) rfl (lay_12_58 hL).1 qf_X12_188 rfl dX12_undo_140 ?_
        refine ww_iload_n (pc := 143) hC dX12_undo_143 1 rfl ?_
        refine ww_iald (pc := 144) hC ((lay_12_58 hL).2) h dX12_undo_144 (fun h => ?_)
        refine ww_iast (pc := 145) hC ((lay_12_39 hL).2) h dX12_undo_145 (fun h => ?_)
        obtain ⟨X_13, eX_13⟩ : ∃ q, q = wI X_12 25 (x1).toNatClampNeg (X_12.1 35 (x1).toNatClampNeg) := ⟨_, rfl⟩
        replace h := nm_i h eX_13
        refine ww_nmX eX_13 ?_
        obtain ⟨y14, ey14⟩ : ∃ q, q = x1 + (1 : Int32) := ⟨_, rfl⟩
        replace h := nm_i h ey14
        refine ww_iinc (pc := 146) hC y14 [(1, .int y14), (0, .ref (w.1 0))] dX12_undo_146 1 rfl (by rw [ey14]; rfl) (by decide) rfl ?_
        refine ww_goto (pc := 149) hC 68 dX12_undo_149 (by decide) ?_
        refine ww_sub [1, 0] rfl ?_
        exact ih _ _ h
  unfold fX12_undo at h
  refine ww_lv (lv' := [(0, .ref (w.1 0))]) rfl ?_
  refine ww_aload_n (pc := 0) hC dX12_undo_0 0 rfl ?_
  refine ww_getI (pc := 1) hC 12 43 hL.1 RX12 (by decide) (by decide) rfl qf_X12_142 (Or.inl rfl) dX12_undo_1 ?_
  refine ww_if_ne (pc := 4) hC h 10 dX12_undo_4 (by decide) (fun h => ?_) (fun h => ?_)
  · refine ww_aload_n (pc := 10) hC dX12_undo_10 0 rfl ?_
    refine ww_aload_n (pc := 11) hC dX12_undo_11 0 rfl ?_
    refine ww_getI (pc := 12) hC 12 44 hL.1 RX12 (by decide) (by decide) rfl qf_X12_146 (Or.inl rfl) dX12_undo_12 ?_
    refine ww_putI (pc := 15) hC 12 10 hL.1 RX12 (by decide) (by decide) rfl qf_X12_41 rfl rfl rfl rfl dX12_undo_15 ?_
    obtain ⟨X_1, eX_1⟩ : ∃ q, q = wI X 0 10 (X.1 0 44) := ⟨_, rfl⟩
    replace h := nm_i h eX_1
    refine ww_nmX eX_1 ?_
    refine ww_aload_n (pc := 18) hC dX12_undo_18 0 rfl ?_
    refine ww_aload_n (pc := 19) hC dX12_undo_19 0 rfl ?_
    refine ww_getI (pc := 20) hC 12 45 hL.1 RX12 (by decide) (by decide) rfl qf_X12_149 (Or.inl rfl) dX12_undo_20 ?_
    refine ww_putI (pc := 23) hC 12 0 hL.1 RX12 (by decide) (by decide) rfl qf_X12_7 rfl rfl rfl rfl dX12_undo_23 ?_
    obtain ⟨X_2, eX_2⟩ : ∃ q, q = wI X_1 0 0 (X_1.1 0 45) := ⟨_, rfl⟩
    replace h := nm_i h eX_2
    refine ww_nmX eX_2 ?_
    refine ww_aload_n (pc := 26) hC dX12_undo_26 0 rfl ?_
    refine ww_aload_n (pc := 27) hC dX12_undo_27 0 rfl ?_
    refine ww_getI (pc := 28) hC 12 46 hL.1 RX12 (by decide) (by decide) rfl qf_X12_152 (Or.inl rfl) dX12_undo_28 ?_
    refine ww_putI (pc := 31) hC 12 1 hL.1 RX12 (by decide) (by decide) rfl qf_X12_13 rfl rfl rfl rfl dX12_undo_31 ?_
    obtain ⟨X_3, eX_3⟩ : ∃ q, q = wI X_2 0 1 (X_2.1 0 46) := ⟨_, rfl⟩
    replace h := nm_i h eX_3
    refine ww_nmX eX_3 ?_
    refine ww_aload_n (pc := 34) hC dX12_undo_34 0 rfl ?_
    refine ww_aload_n (pc := 35) hC dX12_undo_35 0 rfl ?_
    refine ww_getI (pc := 36) hC 12 47 hL.1 RX12 (by decide) (by decide) rfl qf_X12_155 (Or.inl rfl) dX12_undo_36 ?_
    refine ww_putI (pc := 39) hC 12 2 hL.1 RX12 (by decide) (by decide) rfl qf_X12_16 rfl rfl rfl rfl dX12_undo_39 ?_
    obtain ⟨X_4, eX_4⟩ : ∃ q, q = wI X_3 0 2 (X_3.1 0 47) := ⟨_, rfl⟩
    replace h := nm_i h eX_4
    refine ww_nmX eX_4 ?_
    refine ww_aload_n (pc := 42) hC dX12_undo_42 0 rfl ?_
    refine ww_aload_n (pc := 43) hC dX12_undo_43 0 rfl ?_
    refine ww_getI (pc := 44) hC 12 48 hL.1 RX12 (by decide) (by decide) rfl qf_X12_158 (Or.inl rfl) dX12_undo_44 ?_
    refine ww_putI (pc := 47) hC 12 32 hL.1 RX12 (by decide) (by decide) rfl qf_X12_108 rfl rfl rfl rfl dX12_undo_47 ?_
    obtain ⟨X_5, eX_5⟩ : ∃ q, q = wI X_4 0 32 (X_4.1 0 48) := ⟨_, rfl⟩
    replace h := nm_i h eX_5
    refine ww_nmX eX_5 ?_
    refine ww_aload_n (pc := 50) hC dX12_undo_50 0 rfl ?_
    refine ww_aload_n (pc := 51) hC dX12_undo_51 0 rfl ?_
    refine ww_getI (pc := 52) hC 12 49 hL.1 RX12 (by decide) (by decide) rfl qf_X12_161 (Or.inl rfl) dX12_undo_52 ?_
    refine ww_putI (pc := 55) hC 12 38 hL.1 RX12 (by decide) (by decide) rfl qf_X12_127 rfl rfl rfl rfl dX12_undo_55 ?_
    obtain ⟨X_6, eX_6⟩ : ∃ q, q = wI X_5 0 38 (X_5.1 0 49) := ⟨_, rfl⟩
    replace h := nm_i h eX_6
    refine ww_nmX eX_6 ?_
    refine ww_aload_n (pc := 58) hC dX12_undo_58 0 rfl ?_
    refine ww_aload_n (pc := 59) hC dX12_undo_59 0 rfl ?_
    refine ww_getI (pc := 60) hC 12 50 hL.1 RX12 (by decide) (by decide) rfl qf_X12_164 (Or.inl rfl) dX12_undo_60 ?_
    refine ww_putI (pc := 63) hC 12 40 hL.1 RX12 (by decide) (by decide) rfl qf_X12_133 rfl rfl rfl rfl dX12_undo_63 ?_
    obtain ⟨X_7, eX_7⟩ : ∃ q, q = wI X_6 0 40 (X_6.1 0 50) := ⟨_, rfl⟩
    replace h := nm_i h eX_7
    refine ww_nmX eX_7 ?_
    refine ww_iconst (pc := 66) hC (v := (0 : Int32)) dX12_undo_66 (by decide) ?_
    refine ww_istore_n (pc := 67) hC [(1, .int ((0 : Int32))), (0, .ref (w.1 0))] dX12_undo_67 rfl (by decide) rfl ?_
    refine ww_sub [1, 0] rfl ?_
    exact j68 _ _ _ h
  · refine ww_bipush (pc := 7) hC (v := (-3 : Int32)) dX12_undo_7 (by decide) ?_
    exact ww_iret (pc := 9) hC hr h dX12_undo_9
noncomputable def fX12_body_19 (X : XD) : Option (Unit × XD) := nm (wI X 0 61 ((X.1 0 61) + ((1 : Int32)))) (fun X_2 => some ((), X_2))
noncomputable def fX12_body (x1 : Int32) (X : XD) : Option (Unit × XD) := if ((20 : Int32)) ≤ (X.1 0 61) then fX12_body_19 X else gin (X.1 0 61) 20 (nm (wI X 38 (X.1 0 61).toNatClampNeg x1) (fun X_1 => fX12_body_19 X_1))
set_option maxHeartbeats 40000000 in
set_option maxRecDepth 100000 in
theorem ceX12_body {l : Launch} {E : XE} {w : XW} {z : Nat} {Z : XS} (hL : LayM Z) {x1 : Int32} {X X1 : XD} {r : Unit} (h : fX12_body x1 X = some (r, X1)) : Ct l E w yX12_body (wsM yX12_body cX12_body 2 none) (rmX 1 0 0) 0 0 [.ref (w.1 0), .int x1] z z Z Z X X1 none := by
  refine ct_of (by decide) (Nat.le_of_ble_eq_true rfl) ?_
  intro p e s m args below meth c hC hr hin hav
  have j19 : ∀ (X : XD), fX12_body_19 X = some (r, X1) → WW p l e (rmX 1 0 0) s m args below meth c 2 (MQ below (XQ E w z Z X1 none) args s 0 0 (A0 E)) E w 0 0 z Z 19 [(0, .ref (w.1 0))] [] X := by
    intro X h
    unfold fX12_body_19 at h
    refine ww_aload_n (pc := 19) hC dX12_body_19 0 rfl ?_
    refine ww_dup (pc := 20) hC dX12_body_20 rfl ?_
    refine ww_getI (pc := 21) hC 12 61 hL.1 RX12 (by decide) (by decide) rfl qf_X12_197 (Or.inl rfl) dX12_body_21 ?_
    refine ww_iconst (pc := 24) hC (v := (1 : Int32)) dX12_body_24 (by decide) ?_
    refine ww_iadd (pc := 25) hC dX12_body_25 ?_
    refine ww_putI (pc := 26) hC 12 61 hL.1 RX12 (by decide) (by decide) rfl qf_X12_197 rfl rfl rfl rfl dX12_body_26 ?_
    obtain ⟨X_2, eX_2⟩ : ∃ q, q = wI X 0 61 ((X.1 0 61) + ((1 : Int32))) := ⟨_, rfl⟩
    replace h := nm_i h eX_2
    refine ww_nmX eX_2 ?_
    exact ww_vret (pc := 29) hC hr h dX12_body_29
  unfold fX12_body at h
  refine ww_lv (lv' := [(0, .ref (w.1 0)), (1, .int x1)]) rfl ?_
  refine ww_aload_n (pc := 0) hC dX12_body_0 0 rfl ?_
  refine ww_getI (pc := 1) hC 12 61 hL.1 RX12 (by decide) (by decide) rfl qf_X12_197 (Or.inl rfl) dX12_body_1 ?_
  refine ww_bipush (pc := 4) hC (v := (20 : Int32)) dX12_body_4 (by decide) ?_
  refine ww_icmp_ge (pc := 6) hC h 19 dX12_body_6 (by decide) (fun h => ?_) (fun h => ?_)
  · refine ww_sub [0] rfl ?_
    exact j19 _ h
  · refine ww_aload_n (pc := 9) hC dX12_body_9 0 rfl ?_
    refine ww_getR (pc := 10) hC 12 62 38 hL.1 RX12 (by decide) (by decide) rfl (lay_12_62 hL).1 qf_X12_200 rfl dX12_body_10 ?_
    refine ww_aload_n (pc := 13) hC dX12_body_13 0 rfl ?_
    refine ww_getI (pc := 14) hC 12 61 hL.1 RX12 (by decide) (by decide) rfl qf_X12_197 (Or.inl rfl) dX12_body_14 ?_
    refine ww_iload_n (pc := 17) hC dX12_body_17 1 rfl ?_
    refine ww_iast (pc := 18) hC ((lay_12_62 hL).2) h dX12_body_18 (fun h => ?_)
    obtain ⟨X_1, eX_1⟩ : ∃ q, q = wI X 38 (X.1 0 61).toNatClampNeg x1 := ⟨_, rfl⟩
    replace h := nm_i h eX_1
    refine ww_nmX eX_1 ?_
    refine ww_sub [0] rfl ?_
    exact j19 _ h
noncomputable def fX12_shooterAims (x1 : Int32) (x2 : Int32) (X : XD) : Option (Int32 × XD) := bnw (fX12_body ((10 : Int32)) X) (fun _ X_3 => some (x2 + x1, X_3))
set_option maxHeartbeats 40000000 in
set_option maxRecDepth 100000 in
theorem ceX12_shooterAims {l : Launch} {E : XE} {w : XW} {z : Nat} {Z : XS} (hL : LayM Z) {x1 : Int32} {x2 : Int32} {X X1 : XD} {r : Int32} (h : fX12_shooterAims x1 x2 X = some (r, X1)) : Ct l E w yX12_shooterAims (wsM yX12_shooterAims cX12_shooterAims 3 (some .int)) (rmX 2 0 0) 0 0 [.ref (w.1 0), .int x1, .int x2] z z Z Z X X1 (some (.int r)) := by
  refine ct_of (by decide) (Nat.le_of_ble_eq_true rfl) ?_
  intro p e s m args below meth c hC hr hin hav
  unfold fX12_shooterAims at h
  refine ww_lv (lv' := [(0, .ref (w.1 0)), (1, .int x1), (2, .int x2)]) rfl ?_
  refine ww_aload_n (pc := 0) hC dX12_shooterAims_0 0 rfl ?_
  refine ww_bipush (pc := 1) hC (v := (10 : Int32)) dX12_shooterAims_1 (by decide) ?_
  obtain ⟨_, X_3, h1, h⟩ := bnw_i h
  refine ww_callVv (pc := 3) hC [.int ((10 : Int32))] hL.1.1 hL.1.2 (by decide) (ceX12_body hL h1) ql_X12_380 qi_X12_body qs_X12_X12_body qn_X12 qc_X12_body rfl ⟨by decide, by decide, rfl⟩ rfl ⟨Nat.le_of_ble_eq_true rfl, Nat.le_of_ble_eq_true rfl⟩ (by decide) (rest := []) (Nat.le_of_ble_eq_true rfl) dX12_shooterAims_3 ⟨Nat.le_of_ble_eq_true rfl, Nat.le_of_ble_eq_true rfl⟩ rfl ?_
  refine ww_iload_n (pc := 6) hC dX12_shooterAims_6 2 rfl ?_
  refine ww_iload_n (pc := 7) hC dX12_shooterAims_7 1 rfl ?_
  refine ww_iadd (pc := 8) hC dX12_shooterAims_8 ?_
  exact ww_iret (pc := 9) hC hr h dX12_shooterAims_9
noncomputable def fX12_aimsAct (x1 : Int32) (x2 : Int32) (X : XD) : Option (Int32 × XD) := gin x1 6 (if (X.1 1 (x1).toNatClampNeg) = (2 : Int32) then bnw (fX12_body ((30 : Int32)) X) (fun _ X_4 => bnw (fX12_shooterAims x1 (x2 * ((3 : Int32))) X_4) (fun r6 X_7 => some (r6, X_7))) else (if (X.1 1 (x1).toNatClampNeg) = (3 : Int32) then bnw (fX12_shooterAims x1 x2 X) (fun r10 X_11 => some (r10, X_11)) else (if (X.1 1 (x1).toNatClampNeg) = (4 : Int32) then bnw (fX12_body ((50 : Int32)) X) (fun _ X_15 => bnw (fX12_shooterAims x1 x2 X_15) (fun r17 X_18 => some (-r17, X_18))) else (if (X.1 1 (x1).toNatClampNeg) = (5 : Int32) then bnw (fX12_body ((30 : Int32)) X) (fun _ X_22 => bnw (fX12_shooterAims x1 (x2 * ((3 : Int32))) X_22) (fun r24 X_25 => some (r24, X_25))) else (if (X.1 1 (x1).toNatClampNeg) = (6 : Int32) then bnw (fX12_body ((71 : Int32)) X) (fun _ X_29 => bnw (fX12_shooterAims x1 x2 X_29) (fun r31 X_32 => gin x1 6 (some (r31 ^^^ (X_32.1 2 (x1).toNatClampNeg), X_32)))) else (bnw (fX12_shooterAims x1 x2 X) (fun r34 X_35 => some (r34, X_35))))))))
set_option maxHeartbeats 40000000 in
set_option maxRecDepth 100000 in
theorem ceX12_aimsAct {l : Launch} {E : XE} {w : XW} {z : Nat} {Z : XS} (hL : LayM Z) {x1 : Int32} {x2 : Int32} {X X1 : XD} {r : Int32} (h : fX12_aimsAct x1 x2 X = some (r, X1)) : Ct l E w yX12_aimsAct (wsM yX12_aimsAct cX12_aimsAct 3 (some .int)) (rmX 3 0 0) 0 0 [.ref (w.1 0), .int x1, .int x2] z z Z Z X X1 (some (.int r)) := by
  refine ct_of (by decide) (Nat.le_of_ble_eq_true rfl) ?_
  intro p e s m args below meth c hC hr hin hav
  unfold fX12_aimsAct at h
  refine ww_lv (lv' := [(0, .ref (w.1 0)), (1, .int x1), (2, .int x2)]) rfl ?_
  refine ww_aload_n (pc := 0) hC dX12_aimsAct_0 0 rfl ?_
  refine ww_getR (pc := 1) hC 12 3 1 hL.1 RX12 (by decide) (by decide) rfl (lay_12_3 hL).1 qf_X12_19 rfl dX12_aimsAct_1 ?_
  refine ww_iload_n (pc := 4) hC dX12_aimsAct_4 1 rfl ?_
  refine ww_iald (pc := 5) hC ((lay_12_3 hL).2) h dX12_aimsAct_5 (fun h => ?_)
  rcases Classical.em (X.1 1 (x1).toNatClampNeg = (2 : Int32)) with q1 | q1
  · replace h := ite_t h q1
    refine ww_tableIn (pc := 6) hC 40 dX12_aimsAct_6 (2 : Int32) q1 (by decide) (by decide) rfl (by decide) ?_
    refine ww_aload_n (pc := 40) hC dX12_aimsAct_40 0 rfl ?_
    refine ww_bipush (pc := 41) hC (v := (30 : Int32)) dX12_aimsAct_41 (by decide) ?_
    obtain ⟨_, X_4, h2, h⟩ := bnw_i h
    refine ww_callVv (pc := 43) hC [.int ((30 : Int32))] hL.1.1 hL.1.2 (by decide) (ceX12_body hL h2) ql_X12_380 qi_X12_body qs_X12_X12_body qn_X12 qc_X12_body rfl ⟨by decide, by decide, rfl⟩ rfl ⟨Nat.le_of_ble_eq_true rfl, Nat.le_of_ble_eq_true rfl⟩ (by decide) (rest := []) (Nat.le_of_ble_eq_true rfl) dX12_aimsAct_43 ⟨Nat.le_of_ble_eq_true rfl, Nat.le_of_ble_eq_true rfl⟩ rfl ?_
    refine ww_aload_n (pc := 46) hC dX12_aimsAct_46 0 rfl ?_
    refine ww_iload_n (pc := 47) hC dX12_aimsAct_47 1 rfl ?_
    refine ww_iload_n (pc := 48) hC dX12_aimsAct_48 2 rfl ?_
    refine ww_iconst (pc := 49) hC (v := (3 : Int32)) dX12_aimsAct_49 (by decide) ?_
    refine ww_imul (pc := 50) hC dX12_aimsAct_50 ?_
    obtain ⟨r6, X_7, h5, h⟩ := bnw_i h
    refine ww_callVi (pc := 51) hC [.int x1, .int (x2 * ((3 : Int32)))] hL.1.1 hL.1.2 (by decide) (ceX12_shooterAims hL h5) ql_X12_383 qi_X12_shooterAims qs_X12_X12_shooterAims qn_X12 qc_X12_shooterAims rfl ⟨by decide, by decide, rfl⟩ rfl ⟨Nat.le_of_ble_eq_true rfl, Nat.le_of_ble_eq_true rfl⟩ (by decide) (rest := []) (Nat.le_of_ble_eq_true rfl) dX12_aimsAct_51 ⟨Nat.le_of_ble_eq_true rfl, Nat.le_of_ble_eq_true rfl⟩ rfl ?_
    exact ww_iret (pc := 54) hC hr h dX12_aimsAct_54
  replace h := ite_f h q1
  rcases Classical.em (X.1 1 (x1).toNatClampNeg = (3 : Int32)) with q8 | q8
  · replace h := ite_t h q8
    refine ww_tableIn (pc := 6) hC 89 dX12_aimsAct_6 (3 : Int32) q8 (by decide) (by decide) rfl (by decide) ?_
    refine ww_aload_n (pc := 89) hC dX12_aimsAct_89 0 rfl ?_
    refine ww_iload_n (pc := 90) hC dX12_aimsAct_90 1 rfl ?_
    refine ww_iload_n (pc := 91) hC dX12_aimsAct_91 2 rfl ?_
    obtain ⟨r10, X_11, h9, h⟩ := bnw_i h
    refine ww_callVi (pc := 92) hC [.int x1, .int x2] hL.1.1 hL.1.2 (by decide) (ceX12_shooterAims hL h9) ql_X12_383 qi_X12_shooterAims qs_X12_X12_shooterAims qn_X12 qc_X12_shooterAims rfl ⟨by decide, by decide, rfl⟩ rfl ⟨Nat.le_of_ble_eq_true rfl, Nat.le_of_ble_eq_true rfl⟩ (by decide) (rest := []) (Nat.le_of_ble_eq_true rfl) dX12_aimsAct_92 ⟨Nat.le_of_ble_eq_true rfl, Nat.le_of_ble_eq_true rfl⟩ rfl ?_
    exact ww_iret (pc := 95) hC hr h dX12_aimsAct_95
  replace h := ite_f h q8
  rcases Classical.em (X.1 1 (x1).toNatClampNeg = (4 : Int32)) with q12 | q12
  · replace h := ite_t h q12
    refine ww_tableIn (pc := 6) hC 55 dX12_aimsAct_6 (4 : Int32) q12 (by decide) (by decide) rfl (by decide) ?_
    refine ww_aload_n (pc := 55) hC dX12_aimsAct_55 0 rfl ?_
    refine ww_bipush (pc := 56) hC (v := (50 : Int32)) dX12_aimsAct_56 (by decide) ?_
    obtain ⟨_, X_15, h13, h⟩ := bnw_i h
    refine ww_callVv (pc := 58) hC [.int ((50 : Int32))] hL.1.1 hL.1.2 (by decide) (ceX12_body hL h13) ql_X12_380 qi_X12_body qs_X12_X12_body qn_X12 qc_X12_body rfl ⟨by decide, by decide, rfl⟩ rfl ⟨Nat.le_of_ble_eq_true rfl, Nat.le_of_ble_eq_true rfl⟩ (by decide) (rest := []) (Nat.le_of_ble_eq_true rfl) dX12_aimsAct_58 ⟨Nat.le_of_ble_eq_true rfl, Nat.le_of_ble_eq_true rfl⟩ rfl ?_
    refine ww_aload_n (pc := 61) hC dX12_aimsAct_61 0 rfl ?_
    refine ww_iload_n (pc := 62) hC dX12_aimsAct_62 1 rfl ?_
    refine ww_iload_n (pc := 63) hC dX12_aimsAct_63 2 rfl ?_
    obtain ⟨r17, X_18, h16, h⟩ := bnw_i h
    refine ww_callVi (pc := 64) hC [.int x1, .int x2] hL.1.1 hL.1.2 (by decide) (ceX12_shooterAims hL h16) ql_X12_383 qi_X12_shooterAims qs_X12_X12_shooterAims qn_X12 qc_X12_shooterAims rfl ⟨by decide, by decide, rfl⟩ rfl ⟨Nat.le_of_ble_eq_true rfl, Nat.le_of_ble_eq_true rfl⟩ (by decide) (rest := []) (Nat.le_of_ble_eq_true rfl) dX12_aimsAct_64 ⟨Nat.le_of_ble_eq_true rfl, Nat.le_of_ble_eq_true rfl⟩ rfl ?_
    refine ww_ineg (pc := 67) hC dX12_aimsAct_67 ?_
    exact ww_iret (pc := 68) hC hr h dX12_aimsAct_68
  replace h := ite_f h q12
  rcases Classical.em (X.1 1 (x1).toNatClampNeg = (5 : Int32)) with q19 | q19
  · replace h := ite_t h q19
    refine ww_tableIn (pc := 6) hC 40 dX12_aimsAct_6 (5 : Int32) q19 (by decide) (by decide) rfl (by decide) ?_
    refine ww_aload_n (pc := 40) hC dX12_aimsAct_40 0 rfl ?_
    refine ww_bipush (pc := 41) hC (v := (30 : Int32)) dX12_aimsAct_41 (by decide) ?_
    obtain ⟨_, X_22, h20, h⟩ := bnw_i h
    refine ww_callVv (pc := 43) hC [.int ((30 : Int32))] hL.1.1 hL.1.2 (by decide) (ceX12_body hL h20) ql_X12_380 qi_X12_body qs_X12_X12_body qn_X12 qc_X12_body rfl ⟨by decide, by decide, rfl⟩ rfl ⟨Nat.le_of_ble_eq_true rfl, Nat.le_of_ble_eq_true rfl⟩ (by decide) (rest := []) (Nat.le_of_ble_eq_true rfl) dX12_aimsAct_43 ⟨Nat.le_of_ble_eq_true rfl, Nat.le_of_ble_eq_true rfl⟩ rfl ?_
    refine ww_aload_n (pc := 46) hC dX12_aimsAct_46 0 rfl ?_
    refine ww_iload_n (pc := 47) hC dX12_aimsAct_47 1 rfl ?_
    refine ww_iload_n (pc := 48) hC dX12_aimsAct_48 2 rfl ?_
    refine ww_iconst (pc := 49) hC (v := (3 : Int32)) dX12_aimsAct_49 (by decide) ?_
    refine ww_imul (pc := 50) hC dX12_aimsAct_50 ?_
    obtain ⟨r24, X_25, h23, h⟩ := bnw_i h
    refine ww_callVi (pc := 51) hC [.int x1, .int (x2 * ((3 : Int32)))] hL.1.1 hL.1.2 (by decide) (ceX12_shooterAims hL h23) ql_X12_383 qi_X12_shooterAims qs_X12_X12_shooterAims qn_X12 qc_X12_shooterAims rfl ⟨by decide, by decide, rfl⟩ rfl ⟨Nat.le_of_ble_eq_true rfl, Nat.le_of_ble_eq_true rfl⟩ (by decide) (rest := []) (Nat.le_of_ble_eq_true rfl) dX12_aimsAct_51 ⟨Nat.le_of_ble_eq_true rfl, Nat.le_of_ble_eq_true rfl⟩ rfl ?_
    exact ww_iret (pc := 54) hC hr h dX12_aimsAct_54
  replace h := ite_f h q19
  rcases Classical.em (X.1 1 (x1).toNatClampNeg = (6 : Int32)) with q26 | q26
  · replace h := ite_t h q26
    refine ww_tableIn (pc := 6) hC 69 dX12_aimsAct_6 (6 : Int32) q26 (by decide) (by decide) rfl (by decide) ?_
    refine ww_aload_n (pc := 69) hC dX12_aimsAct_69 0 rfl ?_
    refine ww_bipush (pc := 70) hC (v := (71 : Int32)) dX12_aimsAct_70 (by decide) ?_
    obtain ⟨_, X_29, h27, h⟩ := bnw_i h
    refine ww_callVv (pc := 72) hC [.int ((71 : Int32))] hL.1.1 hL.1.2 (by decide) (ceX12_body hL h27) ql_X12_380 qi_X12_body qs_X12_X12_body qn_X12 qc_X12_body rfl ⟨by decide, by decide, rfl⟩ rfl ⟨Nat.le_of_ble_eq_true rfl, Nat.le_of_ble_eq_true rfl⟩ (by decide) (rest := []) (Nat.le_of_ble_eq_true rfl) dX12_aimsAct_72 ⟨Nat.le_of_ble_eq_true rfl, Nat.le_of_ble_eq_true rfl⟩ rfl ?_
    refine ww_aload_n (pc := 75) hC dX12_aimsAct_75 0 rfl ?_
    refine ww_iload_n (pc := 76) hC dX12_aimsAct_76 1 rfl ?_
    refine ww_iload_n (pc := 77) hC dX12_aimsAct_77 2 rfl ?_
    obtain ⟨r31, X_32, h30, h⟩ := bnw_i h
    refine ww_callVi (pc := 78) hC [.int x1, .int x2] hL.1.1 hL.1.2 (by decide) (ceX12_shooterAims hL h30) ql_X12_383 qi_X12_shooterAims qs_X12_X12_shooterAims qn_X12 qc_X12_shooterAims rfl ⟨by decide, by decide, rfl⟩ rfl ⟨Nat.le_of_ble_eq_true rfl, Nat.le_of_ble_eq_true rfl⟩ (by decide) (rest := []) (Nat.le_of_ble_eq_true rfl) dX12_aimsAct_78 ⟨Nat.le_of_ble_eq_true rfl, Nat.le_of_ble_eq_true rfl⟩ rfl ?_
    refine ww_aload_n (pc := 81) hC dX12_aimsAct_81 0 rfl ?_
    refine ww_getR (pc := 82) hC 12 4 2 hL.1 RX12 (by decide) (by decide) rfl (lay_12_4 hL).1 qf_X12_23 rfl dX12_aimsAct_82 ?_
    refine ww_iload_n (pc := 85) hC dX12_aimsAct_85 1 rfl ?_
    refine ww_iald (pc := 86) hC ((lay_12_4 hL).2) h dX12_aimsAct_86 (fun h => ?_)
    refine ww_ixor (pc := 87) hC dX12_aimsAct_87 ?_
    exact ww_iret (pc := 88) hC hr h dX12_aimsAct_88
  replace h := ite_f h q26
  refine ww_tableOut (pc := 6) hC 89 dX12_aimsAct_6 (sw_out (fun k h1 h2 => by rcases (show k = 2 ∨ k = 3 ∨ k = 4 ∨ k = 5 ∨ k = 6 by omega) with rfl | rfl | rfl | rfl | rfl; exact q1; exact q8; exact q12; exact q19; exact q26)) (by decide) ?_
  refine ww_aload_n (pc := 89) hC dX12_aimsAct_89 0 rfl ?_
  refine ww_iload_n (pc := 90) hC dX12_aimsAct_90 1 rfl ?_
  refine ww_iload_n (pc := 91) hC dX12_aimsAct_91 2 rfl ?_
  obtain ⟨r34, X_35, h33, h⟩ := bnw_i h
  refine ww_callVi (pc := 92) hC [.int x1, .int x2] hL.1.1 hL.1.2 (by decide) (ceX12_shooterAims hL h33) ql_X12_383 qi_X12_shooterAims qs_X12_X12_shooterAims qn_X12 qc_X12_shooterAims rfl ⟨by decide, by decide, rfl⟩ rfl ⟨Nat.le_of_ble_eq_true rfl, Nat.le_of_ble_eq_true rfl⟩ (by decide) (rest := []) (Nat.le_of_ble_eq_true rfl) dX12_aimsAct_92 ⟨Nat.le_of_ble_eq_true rfl, Nat.le_of_ble_eq_true rfl⟩ rfl ?_
  exact ww_iret (pc := 95) hC hr h dX12_aimsAct_95
noncomputable def fX12_shooterShows (x1 : Int32) (x2 : Int32) (X : XD) : Option (Int32 × XD) := bnw (fX12_body ((11 : Int32)) X) (fun _ X_3 => bnw (fX12_aimsAct x1 x2 X_3) (fun r5 X_6 => gin x1 6 (some (r5 - (X_6.1 2 (x1).toNatClampNeg), X_6))))
set_option maxHeartbeats 40000000 in
set_option maxRecDepth 100000 in
theorem ceX12_shooterShows {l : Launch} {E : XE} {w : XW} {z : Nat} {Z : XS} (hL : LayM Z) {x1 : Int32} {x2 : Int32} {X X1 : XD} {r : Int32} (h : fX12_shooterShows x1 x2 X = some (r, X1)) : Ct l E w yX12_shooterShows (wsM yX12_shooterShows cX12_shooterShows 3 (some .int)) (rmX 4 0 0) 0 0 [.ref (w.1 0), .int x1, .int x2] z z Z Z X X1 (some (.int r)) := by
  refine ct_of (by decide) (Nat.le_of_ble_eq_true rfl) ?_
  intro p e s m args below meth c hC hr hin hav
  unfold fX12_shooterShows at h
  refine ww_lv (lv' := [(0, .ref (w.1 0)), (1, .int x1), (2, .int x2)]) rfl ?_
  refine ww_aload_n (pc := 0) hC dX12_shooterShows_0 0 rfl ?_
  refine ww_bipush (pc := 1) hC (v := (11 : Int32)) dX12_shooterShows_1 (by decide) ?_
  obtain ⟨_, X_3, h1, h⟩ := bnw_i h
  refine ww_callVv (pc := 3) hC [.int ((11 : Int32))] hL.1.1 hL.1.2 (by decide) (ceX12_body hL h1) ql_X12_380 qi_X12_body qs_X12_X12_body qn_X12 qc_X12_body rfl ⟨by decide, by decide, rfl⟩ rfl ⟨Nat.le_of_ble_eq_true rfl, Nat.le_of_ble_eq_true rfl⟩ (by decide) (rest := []) (Nat.le_of_ble_eq_true rfl) dX12_shooterShows_3 ⟨Nat.le_of_ble_eq_true rfl, Nat.le_of_ble_eq_true rfl⟩ rfl ?_
  refine ww_aload_n (pc := 6) hC dX12_shooterShows_6 0 rfl ?_
  refine ww_iload_n (pc := 7) hC dX12_shooterShows_7 1 rfl ?_
  refine ww_iload_n (pc := 8) hC dX12_shooterShows_8 2 rfl ?_
  obtain ⟨r5, X_6, h4, h⟩ := bnw_i h
  refine ww_callVi (pc := 9) hC [.int x1, .int x2] hL.1.1 hL.1.2 (by decide) (ceX12_aimsAct hL h4) ql_X12_386 qi_X12_aimsAct qs_X12_X12_aimsAct qn_X12 qc_X12_aimsAct rfl ⟨by decide, by decide, rfl⟩ rfl ⟨Nat.le_of_ble_eq_true rfl, Nat.le_of_ble_eq_true rfl⟩ (by decide) (rest := []) (Nat.le_of_ble_eq_true rfl) dX12_shooterShows_9 ⟨Nat.le_of_ble_eq_true rfl, Nat.le_of_ble_eq_true rfl⟩ rfl ?_
  refine ww_aload_n (pc := 12) hC dX12_shooterShows_12 0 rfl ?_
  refine ww_getR (pc := 13) hC 12 4 2 hL.1 RX12 (by decide) (by decide) rfl (lay_12_4 hL).1 qf_X12_23 rfl dX12_shooterShows_13 ?_
  refine ww_iload_n (pc := 16) hC dX12_shooterShows_16 1 rfl ?_
  refine ww_iald (pc := 17) hC ((lay_12_4 hL).2) h dX12_shooterShows_17 (fun h => ?_)
  refine ww_isub (pc := 18) hC dX12_shooterShows_18 ?_
  exact ww_iret (pc := 19) hC hr h dX12_shooterShows_19
noncomputable def fX12_turnedShows (x1 : Int32) (x2 : Int32) (X : XD) : Option (Int32 × XD) := bnw (fX12_body ((20 : Int32)) X) (fun _ X_3 => bnw (fX12_shooterShows x1 x2 X_3) (fun r5 X_6 => some (r5 ^^^ ((6 : Int32)), X_6)))
set_option maxHeartbeats 40000000 in
set_option maxRecDepth 100000 in
theorem ceX12_turnedShows {l : Launch} {E : XE} {w : XW} {z : Nat} {Z : XS} (hL : LayM Z) {x1 : Int32} {x2 : Int32} {X X1 : XD} {r : Int32} (h : fX12_turnedShows x1 x2 X = some (r, X1)) : Ct l E w yX12_turnedShows (wsM yX12_turnedShows cX12_turnedShows 3 (some .int)) (rmX 5 0 0) 0 0 [.ref (w.1 0), .int x1, .int x2] z z Z Z X X1 (some (.int r)) := by
  refine ct_of (by decide) (Nat.le_of_ble_eq_true rfl) ?_
  intro p e s m args below meth c hC hr hin hav
  unfold fX12_turnedShows at h
  refine ww_lv (lv' := [(0, .ref (w.1 0)), (1, .int x1), (2, .int x2)]) rfl ?_
  refine ww_aload_n (pc := 0) hC dX12_turnedShows_0 0 rfl ?_
  refine ww_bipush (pc := 1) hC (v := (20 : Int32)) dX12_turnedShows_1 (by decide) ?_
  obtain ⟨_, X_3, h1, h⟩ := bnw_i h
  refine ww_callVv (pc := 3) hC [.int ((20 : Int32))] hL.1.1 hL.1.2 (by decide) (ceX12_body hL h1) ql_X12_380 qi_X12_body qs_X12_X12_body qn_X12 qc_X12_body rfl ⟨by decide, by decide, rfl⟩ rfl ⟨Nat.le_of_ble_eq_true rfl, Nat.le_of_ble_eq_true rfl⟩ (by decide) (rest := []) (Nat.le_of_ble_eq_true rfl) dX12_turnedShows_3 ⟨Nat.le_of_ble_eq_true rfl, Nat.le_of_ble_eq_true rfl⟩ rfl ?_
  refine ww_aload_n (pc := 6) hC dX12_turnedShows_6 0 rfl ?_
  refine ww_iload_n (pc := 7) hC dX12_turnedShows_7 1 rfl ?_
  refine ww_iload_n (pc := 8) hC dX12_turnedShows_8 2 rfl ?_
  obtain ⟨r5, X_6, h4, h⟩ := bnw_i h
  refine ww_callVi (pc := 9) hC [.int x1, .int x2] hL.1.1 hL.1.2 (by decide) (ceX12_shooterShows hL h4) ql_X12_389 qi_X12_shooterShows qs_X12_X12_shooterShows qn_X12 qc_X12_shooterShows rfl ⟨by decide, by decide, rfl⟩ rfl ⟨Nat.le_of_ble_eq_true rfl, Nat.le_of_ble_eq_true rfl⟩ (by decide) (rest := []) (Nat.le_of_ble_eq_true rfl) dX12_turnedShows_9 ⟨Nat.le_of_ble_eq_true rfl, Nat.le_of_ble_eq_true rfl⟩ rfl ?_
  refine ww_bipush (pc := 12) hC (v := (6 : Int32)) dX12_turnedShows_12 (by decide) ?_
  refine ww_ixor (pc := 14) hC dX12_turnedShows_14 ?_
  exact ww_iret (pc := 15) hC hr h dX12_turnedShows_15
noncomputable def fX12_showsAct (x1 : Int32) (x2 : Int32) (X : XD) : Option (Int32 × XD) := gin x1 6 (if (X.1 1 (x1).toNatClampNeg) = (1 : Int32) then bnw (fX12_turnedShows x1 x2 X) (fun r3 X_4 => some (r3, X_4)) else (if (X.1 1 (x1).toNatClampNeg) = (4 : Int32) then bnw (fX12_body ((51 : Int32)) X) (fun _ X_8 => bnw (fX12_turnedShows x1 (x2 + ((1 : Int32))) X_8) (fun r10 X_11 => some (r10, X_11))) else (if (X.1 1 (x1).toNatClampNeg) = (6 : Int32) then bnw (fX12_body ((70 : Int32)) X) (fun _ X_15 => bnw (fX12_shooterShows x1 x2 X_15) (fun r17 X_18 => bnw (fX12_shooterAims x1 ((2 : Int32)) X_18) (fun r20 X_21 => some (r17 + r20, X_21)))) else (bnw (fX12_shooterShows x1 x2 X) (fun r23 X_24 => some (r23, X_24))))))
set_option maxHeartbeats 40000000 in
set_option maxRecDepth 100000 in
theorem ceX12_showsAct {l : Launch} {E : XE} {w : XW} {z : Nat} {Z : XS} (hL : LayM Z) {x1 : Int32} {x2 : Int32} {X X1 : XD} {r : Int32} (h : fX12_showsAct x1 x2 X = some (r, X1)) : Ct l E w yX12_showsAct (wsM yX12_showsAct cX12_showsAct 4 (some .int)) (rmX 6 0 0) 0 0 [.ref (w.1 0), .int x1, .int x2] z z Z Z X X1 (some (.int r)) := by
  refine ct_of (by decide) (Nat.le_of_ble_eq_true rfl) ?_
  intro p e s m args below meth c hC hr hin hav
  unfold fX12_showsAct at h
  refine ww_lv (lv' := [(0, .ref (w.1 0)), (1, .int x1), (2, .int x2)]) rfl ?_
  refine ww_aload_n (pc := 0) hC dX12_showsAct_0 0 rfl ?_
  refine ww_getR (pc := 1) hC 12 3 1 hL.1 RX12 (by decide) (by decide) rfl (lay_12_3 hL).1 qf_X12_19 rfl dX12_showsAct_1 ?_
  refine ww_iload_n (pc := 4) hC dX12_showsAct_4 1 rfl ?_
  refine ww_iald (pc := 5) hC ((lay_12_3 hL).2) h dX12_showsAct_5 (fun h => ?_)
  rcases Classical.em (X.1 1 (x1).toNatClampNeg = (1 : Int32)) with q1 | q1
  · replace h := ite_t h q1
    refine ww_lookup (pc := 6) hC (off := 34) 40 dX12_showsAct_6 (by decide) (by rw [q1] <;> rfl) (by decide) ?_
    refine ww_aload_n (pc := 40) hC dX12_showsAct_40 0 rfl ?_
    refine ww_iload_n (pc := 41) hC dX12_showsAct_41 1 rfl ?_
    refine ww_iload_n (pc := 42) hC dX12_showsAct_42 2 rfl ?_
    obtain ⟨r3, X_4, h2, h⟩ := bnw_i h
    refine ww_callVi (pc := 43) hC [.int x1, .int x2] hL.1.1 hL.1.2 (by decide) (ceX12_turnedShows hL h2) ql_X12_392 qi_X12_turnedShows qs_X12_X12_turnedShows qn_X12 qc_X12_turnedShows rfl ⟨by decide, by decide, rfl⟩ rfl ⟨Nat.le_of_ble_eq_true rfl, Nat.le_of_ble_eq_true rfl⟩ (by decide) (rest := []) (Nat.le_of_ble_eq_true rfl) dX12_showsAct_43 ⟨Nat.le_of_ble_eq_true rfl, Nat.le_of_ble_eq_true rfl⟩ rfl ?_
    exact ww_iret (pc := 46) hC hr h dX12_showsAct_46
  replace h := ite_f h q1
  rcases Classical.em (X.1 1 (x1).toNatClampNeg = (4 : Int32)) with q5 | q5
  · replace h := ite_t h q5
    refine ww_lookup (pc := 6) hC (off := 41) 47 dX12_showsAct_6 (by decide) (by rw [q5] <;> rfl) (by decide) ?_
    refine ww_aload_n (pc := 47) hC dX12_showsAct_47 0 rfl ?_
    refine ww_bipush (pc := 48) hC (v := (51 : Int32)) dX12_showsAct_48 (by decide) ?_
    obtain ⟨_, X_8, h6, h⟩ := bnw_i h
    refine ww_callVv (pc := 50) hC [.int ((51 : Int32))] hL.1.1 hL.1.2 (by decide) (ceX12_body hL h6) ql_X12_380 qi_X12_body qs_X12_X12_body qn_X12 qc_X12_body rfl ⟨by decide, by decide, rfl⟩ rfl ⟨Nat.le_of_ble_eq_true rfl, Nat.le_of_ble_eq_true rfl⟩ (by decide) (rest := []) (Nat.le_of_ble_eq_true rfl) dX12_showsAct_50 ⟨Nat.le_of_ble_eq_true rfl, Nat.le_of_ble_eq_true rfl⟩ rfl ?_
    refine ww_aload_n (pc := 53) hC dX12_showsAct_53 0 rfl ?_
    refine ww_iload_n (pc := 54) hC dX12_showsAct_54 1 rfl ?_
    refine ww_iload_n (pc := 55) hC dX12_showsAct_55 2 rfl ?_
    refine ww_iconst (pc := 56) hC (v := (1 : Int32)) dX12_showsAct_56 (by decide) ?_
    refine ww_iadd (pc := 57) hC dX12_showsAct_57 ?_
    obtain ⟨r10, X_11, h9, h⟩ := bnw_i h
    refine ww_callVi (pc := 58) hC [.int x1, .int (x2 + ((1 : Int32)))] hL.1.1 hL.1.2 (by decide) (ceX12_turnedShows hL h9) ql_X12_392 qi_X12_turnedShows qs_X12_X12_turnedShows qn_X12 qc_X12_turnedShows rfl ⟨by decide, by decide, rfl⟩ rfl ⟨Nat.le_of_ble_eq_true rfl, Nat.le_of_ble_eq_true rfl⟩ (by decide) (rest := []) (Nat.le_of_ble_eq_true rfl) dX12_showsAct_58 ⟨Nat.le_of_ble_eq_true rfl, Nat.le_of_ble_eq_true rfl⟩ rfl ?_
    exact ww_iret (pc := 61) hC hr h dX12_showsAct_61
  replace h := ite_f h q5
  rcases Classical.em (X.1 1 (x1).toNatClampNeg = (6 : Int32)) with q12 | q12
  · replace h := ite_t h q12
    refine ww_lookup (pc := 6) hC (off := 56) 62 dX12_showsAct_6 (by decide) (by rw [q12] <;> rfl) (by decide) ?_
    refine ww_aload_n (pc := 62) hC dX12_showsAct_62 0 rfl ?_
    refine ww_bipush (pc := 63) hC (v := (70 : Int32)) dX12_showsAct_63 (by decide) ?_
    obtain ⟨_, X_15, h13, h⟩ := bnw_i h
    refine ww_callVv (pc := 65) hC [.int ((70 : Int32))] hL.1.1 hL.1.2 (by decide) (ceX12_body hL h13) ql_X12_380 qi_X12_body qs_X12_X12_body qn_X12 qc_X12_body rfl ⟨by decide, by decide, rfl⟩ rfl ⟨Nat.le_of_ble_eq_true rfl, Nat.le_of_ble_eq_true rfl⟩ (by decide) (rest := []) (Nat.le_of_ble_eq_true rfl) dX12_showsAct_65 ⟨Nat.le_of_ble_eq_true rfl, Nat.le_of_ble_eq_true rfl⟩ rfl ?_
    refine ww_aload_n (pc := 68) hC dX12_showsAct_68 0 rfl ?_
    refine ww_iload_n (pc := 69) hC dX12_showsAct_69 1 rfl ?_
    refine ww_iload_n (pc := 70) hC dX12_showsAct_70 2 rfl ?_
    obtain ⟨r17, X_18, h16, h⟩ := bnw_i h
    refine ww_callVi (pc := 71) hC [.int x1, .int x2] hL.1.1 hL.1.2 (by decide) (ceX12_shooterShows hL h16) ql_X12_389 qi_X12_shooterShows qs_X12_X12_shooterShows qn_X12 qc_X12_shooterShows rfl ⟨by decide, by decide, rfl⟩ rfl ⟨Nat.le_of_ble_eq_true rfl, Nat.le_of_ble_eq_true rfl⟩ (by decide) (rest := []) (Nat.le_of_ble_eq_true rfl) dX12_showsAct_71 ⟨Nat.le_of_ble_eq_true rfl, Nat.le_of_ble_eq_true rfl⟩ rfl ?_
    refine ww_istore_n (pc := 74) hC [(3, .int r17), (0, .ref (w.1 0)), (1, .int x1), (2, .int x2)] dX12_showsAct_74 rfl (by decide) rfl ?_
    refine ww_iload_n (pc := 75) hC dX12_showsAct_75 0 rfl ?_
    refine ww_aload_n (pc := 76) hC dX12_showsAct_76 1 rfl ?_
    refine ww_iload_n (pc := 77) hC dX12_showsAct_77 2 rfl ?_
    refine ww_iconst (pc := 78) hC (v := (2 : Int32)) dX12_showsAct_78 (by decide) ?_
    obtain ⟨r20, X_21, h19, h⟩ := bnw_i h
    refine ww_callVi (pc := 79) hC [.int x1, .int ((2 : Int32))] hL.1.1 hL.1.2 (by decide) (ceX12_shooterAims hL h19) ql_X12_383 qi_X12_shooterAims qs_X12_X12_shooterAims qn_X12 qc_X12_shooterAims rfl ⟨by decide, by decide, rfl⟩ rfl ⟨Nat.le_of_ble_eq_true rfl, Nat.le_of_ble_eq_true rfl⟩ (by decide) (rest := [.int r17]) (Nat.le_of_ble_eq_true rfl) dX12_showsAct_79 ⟨Nat.le_of_ble_eq_true rfl, Nat.le_of_ble_eq_true rfl⟩ rfl ?_
    refine ww_iadd (pc := 82) hC dX12_showsAct_82 ?_
    exact ww_iret (pc := 83) hC hr h dX12_showsAct_83
  replace h := ite_f h q12
  refine ww_lookup (pc := 6) hC (off := 78) 84 dX12_showsAct_6 (by decide) ((lv_osw q1 rfl).trans ((lv_osw q5 rfl).trans ((lv_osw q12 rfl).trans rfl))) (by decide) ?_
  refine ww_aload_n (pc := 84) hC dX12_showsAct_84 0 rfl ?_
  refine ww_iload_n (pc := 85) hC dX12_showsAct_85 1 rfl ?_
  refine ww_iload_n (pc := 86) hC dX12_showsAct_86 2 rfl ?_
  obtain ⟨r23, X_24, h22, h⟩ := bnw_i h
  refine ww_callVi (pc := 87) hC [.int x1, .int x2] hL.1.1 hL.1.2 (by decide) (ceX12_shooterShows hL h22) ql_X12_389 qi_X12_shooterShows qs_X12_X12_shooterShows qn_X12 qc_X12_shooterShows rfl ⟨by decide, by decide, rfl⟩ rfl ⟨Nat.le_of_ble_eq_true rfl, Nat.le_of_ble_eq_true rfl⟩ (by decide) (rest := []) (Nat.le_of_ble_eq_true rfl) dX12_showsAct_87 ⟨Nat.le_of_ble_eq_true rfl, Nat.le_of_ble_eq_true rfl⟩ rfl ?_
  exact ww_iret (pc := 90) hC hr h dX12_showsAct_90
noncomputable def fX12_shooterTells (x1 : Int32) (x2 : Int32) (X : XD) : Option (Int32 × XD) := bnw (fX12_body ((12 : Int32)) X) (fun _ X_3 => bnw (fX12_showsAct x1 x2 X_3) (fun r5 X_6 => some (r5 * ((2 : Int32)), X_6)))
set_option maxHeartbeats 40000000 in
set_option maxRecDepth 100000 in
theorem ceX12_shooterTells {l : Launch} {E : XE} {w : XW} {z : Nat} {Z : XS} (hL : LayM Z) {x1 : Int32} {x2 : Int32} {X X1 : XD} {r : Int32} (h : fX12_shooterTells x1 x2 X = some (r, X1)) : Ct l E w yX12_shooterTells (wsM yX12_shooterTells cX12_shooterTells 3 (some .int)) (rmX 7 0 0) 0 0 [.ref (w.1 0), .int x1, .int x2] z z Z Z X X1 (some (.int r)) := by
  refine ct_of (by decide) (Nat.le_of_ble_eq_true rfl) ?_
  intro p e s m args below meth c hC hr hin hav
  unfold fX12_shooterTells at h
  refine ww_lv (lv' := [(0, .ref (w.1 0)), (1, .int x1), (2, .int x2)]) rfl ?_
  refine ww_aload_n (pc := 0) hC dX12_shooterTells_0 0 rfl ?_
  refine ww_bipush (pc := 1) hC (v := (12 : Int32)) dX12_shooterTells_1 (by decide) ?_
  obtain ⟨_, X_3, h1, h⟩ := bnw_i h
  refine ww_callVv (pc := 3) hC [.int ((12 : Int32))] hL.1.1 hL.1.2 (by decide) (ceX12_body hL h1) ql_X12_380 qi_X12_body qs_X12_X12_body qn_X12 qc_X12_body rfl ⟨by decide, by decide, rfl⟩ rfl ⟨Nat.le_of_ble_eq_true rfl, Nat.le_of_ble_eq_true rfl⟩ (by decide) (rest := []) (Nat.le_of_ble_eq_true rfl) dX12_shooterTells_3 ⟨Nat.le_of_ble_eq_true rfl, Nat.le_of_ble_eq_true rfl⟩ rfl ?_
  refine ww_aload_n (pc := 6) hC dX12_shooterTells_6 0 rfl ?_
  refine ww_iload_n (pc := 7) hC dX12_shooterTells_7 1 rfl ?_
  refine ww_iload_n (pc := 8) hC dX12_shooterTells_8 2 rfl ?_
  obtain ⟨r5, X_6, h4, h⟩ := bnw_i h
  refine ww_callVi (pc := 9) hC [.int x1, .int x2] hL.1.1 hL.1.2 (by decide) (ceX12_showsAct hL h4) ql_X12_395 qi_X12_showsAct qs_X12_X12_showsAct qn_X12 qc_X12_showsAct rfl ⟨by decide, by decide, rfl⟩ rfl ⟨Nat.le_of_ble_eq_true rfl, Nat.le_of_ble_eq_true rfl⟩ (by decide) (rest := []) (Nat.le_of_ble_eq_true rfl) dX12_shooterTells_9 ⟨Nat.le_of_ble_eq_true rfl, Nat.le_of_ble_eq_true rfl⟩ rfl ?_
  refine ww_iconst (pc := 12) hC (v := (2 : Int32)) dX12_shooterTells_12 (by decide) ?_
  refine ww_imul (pc := 13) hC dX12_shooterTells_13 ?_
  exact ww_iret (pc := 14) hC hr h dX12_shooterTells_14
noncomputable def fX12_tellsAct (x1 : Int32) (x2 : Int32) (X : XD) : Option (Int32 × XD) := gin x1 6 (if (X.1 1 (x1).toNatClampNeg) = (3 : Int32) then bnw (fX12_body ((40 : Int32)) X) (fun _ X_4 => bnw (fX12_shooterTells x1 x2 X_4) (fun r6 X_7 => bnw (fX12_showsAct x1 ((1 : Int32)) X_7) (fun r9 X_10 => some (r6 + r9, X_10)))) else (if (X.1 1 (x1).toNatClampNeg) = (4 : Int32) then bnw (fX12_shooterTells x1 x2 X) (fun r13 X_14 => some (r13, X_14)) else (if (X.1 1 (x1).toNatClampNeg) = (5 : Int32) then bnw (fX12_body ((60 : Int32)) X) (fun _ X_18 => bnw (fX12_shooterTells x1 (x2 - x1) X_18) (fun r20 X_21 => some (r20, X_21))) else (if (X.1 1 (x1).toNatClampNeg) = (6 : Int32) then bnw (fX12_body ((40 : Int32)) X) (fun _ X_25 => bnw (fX12_shooterTells x1 x2 X_25) (fun r27 X_28 => bnw (fX12_showsAct x1 ((1 : Int32)) X_28) (fun r30 X_31 => some (r27 + r30, X_31)))) else (bnw (fX12_shooterTells x1 x2 X) (fun r33 X_34 => some (r33, X_34)))))))
set_option maxHeartbeats 40000000 in
set_option maxRecDepth 100000 in
theorem ceX12_tellsAct {l : Launch} {E : XE} {w : XW} {z : Nat} {Z : XS} (hL : LayM Z) {x1 : Int32} {x2 : Int32} {X X1 : XD} {r : Int32} (h : fX12_tellsAct x1 x2 X = some (r, X1)) : Ct l E w yX12_tellsAct (wsM yX12_tellsAct cX12_tellsAct 4 (some .int)) (rmX 8 0 0) 0 0 [.ref (w.1 0), .int x1, .int x2] z z Z Z X X1 (some (.int r)) := by
  refine ct_of (by decide) (Nat.le_of_ble_eq_true rfl) ?_
  intro p e s m args below meth c hC hr hin hav
  unfold fX12_tellsAct at h
  refine ww_lv (lv' := [(0, .ref (w.1 0)), (1, .int x1), (2, .int x2)]) rfl ?_
  refine ww_aload_n (pc := 0) hC dX12_tellsAct_0 0 rfl ?_
  refine ww_getR (pc := 1) hC 12 3 1 hL.1 RX12 (by decide) (by decide) rfl (lay_12_3 hL).1 qf_X12_19 rfl dX12_tellsAct_1 ?_
  refine ww_iload_n (pc := 4) hC dX12_tellsAct_4 1 rfl ?_
  refine ww_iald (pc := 5) hC ((lay_12_3 hL).2) h dX12_tellsAct_5 (fun h => ?_)
  rcases Classical.em (X.1 1 (x1).toNatClampNeg = (3 : Int32)) with q1 | q1
  · replace h := ite_t h q1
    refine ww_tableIn (pc := 6) hC 36 dX12_tellsAct_6 (3 : Int32) q1 (by decide) (by decide) rfl (by decide) ?_
    refine ww_aload_n (pc := 36) hC dX12_tellsAct_36 0 rfl ?_
    refine ww_bipush (pc := 37) hC (v := (40 : Int32)) dX12_tellsAct_37 (by decide) ?_
    obtain ⟨_, X_4, h2, h⟩ := bnw_i h
    refine ww_callVv (pc := 39) hC [.int ((40 : Int32))] hL.1.1 hL.1.2 (by decide) (ceX12_body hL h2) ql_X12_380 qi_X12_body qs_X12_X12_body qn_X12 qc_X12_body rfl ⟨by decide, by decide, rfl⟩ rfl ⟨Nat.le_of_ble_eq_true rfl, Nat.le_of_ble_eq_true rfl⟩ (by decide) (rest := []) (Nat.le_of_ble_eq_true rfl) dX12_tellsAct_39 ⟨Nat.le_of_ble_eq_true rfl, Nat.le_of_ble_eq_true rfl⟩ rfl ?_
    refine ww_aload_n (pc := 42) hC dX12_tellsAct_42 0 rfl ?_
    refine ww_iload_n (pc := 43) hC dX12_tellsAct_43 1 rfl ?_
    refine ww_iload_n (pc := 44) hC dX12_tellsAct_44 2 rfl ?_
    obtain ⟨r6, X_7, h5, h⟩ := bnw_i h
    refine ww_callVi (pc := 45) hC [.int x1, .int x2] hL.1.1 hL.1.2 (by decide) (ceX12_shooterTells hL h5) ql_X12_398 qi_X12_shooterTells qs_X12_X12_shooterTells qn_X12 qc_X12_shooterTells rfl ⟨by decide, by decide, rfl⟩ rfl ⟨Nat.le_of_ble_eq_true rfl, Nat.le_of_ble_eq_true rfl⟩ (by decide) (rest := []) (Nat.le_of_ble_eq_true rfl) dX12_tellsAct_45 ⟨Nat.le_of_ble_eq_true rfl, Nat.le_of_ble_eq_true rfl⟩ rfl ?_
    refine ww_istore_n (pc := 48) hC [(3, .int r6), (0, .ref (w.1 0)), (1, .int x1), (2, .int x2)] dX12_tellsAct_48 rfl (by decide) rfl ?_
    refine ww_iload_n (pc := 49) hC dX12_tellsAct_49 0 rfl ?_
    refine ww_aload_n (pc := 50) hC dX12_tellsAct_50 1 rfl ?_
    refine ww_iload_n (pc := 51) hC dX12_tellsAct_51 2 rfl ?_
    refine ww_iconst (pc := 52) hC (v := (1 : Int32)) dX12_tellsAct_52 (by decide) ?_
    obtain ⟨r9, X_10, h8, h⟩ := bnw_i h
    refine ww_callVi (pc := 53) hC [.int x1, .int ((1 : Int32))] hL.1.1 hL.1.2 (by decide) (ceX12_showsAct hL h8) ql_X12_395 qi_X12_showsAct qs_X12_X12_showsAct qn_X12 qc_X12_showsAct rfl ⟨by decide, by decide, rfl⟩ rfl ⟨Nat.le_of_ble_eq_true rfl, Nat.le_of_ble_eq_true rfl⟩ (by decide) (rest := [.int r6]) (Nat.le_of_ble_eq_true rfl) dX12_tellsAct_53 ⟨Nat.le_of_ble_eq_true rfl, Nat.le_of_ble_eq_true rfl⟩ rfl ?_
    refine ww_iadd (pc := 56) hC dX12_tellsAct_56 ?_
    exact ww_iret (pc := 57) hC hr h dX12_tellsAct_57
  replace h := ite_f h q1
  rcases Classical.em (X.1 1 (x1).toNatClampNeg = (4 : Int32)) with q11 | q11
  · replace h := ite_t h q11
    refine ww_tableIn (pc := 6) hC 73 dX12_tellsAct_6 (4 : Int32) q11 (by decide) (by decide) rfl (by decide) ?_
    refine ww_aload_n (pc := 73) hC dX12_tellsAct_73 0 rfl ?_
    refine ww_iload_n (pc := 74) hC dX12_tellsAct_74 1 rfl ?_
    refine ww_iload_n (pc := 75) hC dX12_tellsAct_75 2 rfl ?_
    obtain ⟨r13, X_14, h12, h⟩ := bnw_i h
    refine ww_callVi (pc := 76) hC [.int x1, .int x2] hL.1.1 hL.1.2 (by decide) (ceX12_shooterTells hL h12) ql_X12_398 qi_X12_shooterTells qs_X12_X12_shooterTells qn_X12 qc_X12_shooterTells rfl ⟨by decide, by decide, rfl⟩ rfl ⟨Nat.le_of_ble_eq_true rfl, Nat.le_of_ble_eq_true rfl⟩ (by decide) (rest := []) (Nat.le_of_ble_eq_true rfl) dX12_tellsAct_76 ⟨Nat.le_of_ble_eq_true rfl, Nat.le_of_ble_eq_true rfl⟩ rfl ?_
    exact ww_iret (pc := 79) hC hr h dX12_tellsAct_79
  replace h := ite_f h q11
  rcases Classical.em (X.1 1 (x1).toNatClampNeg = (5 : Int32)) with q15 | q15
  · replace h := ite_t h q15
    refine ww_tableIn (pc := 6) hC 58 dX12_tellsAct_6 (5 : Int32) q15 (by decide) (by decide) rfl (by decide) ?_
    refine ww_aload_n (pc := 58) hC dX12_tellsAct_58 0 rfl ?_
    refine ww_bipush (pc := 59) hC (v := (60 : Int32)) dX12_tellsAct_59 (by decide) ?_
    obtain ⟨_, X_18, h16, h⟩ := bnw_i h
    refine ww_callVv (pc := 61) hC [.int ((60 : Int32))] hL.1.1 hL.1.2 (by decide) (ceX12_body hL h16) ql_X12_380 qi_X12_body qs_X12_X12_body qn_X12 qc_X12_body rfl ⟨by decide, by decide, rfl⟩ rfl ⟨Nat.le_of_ble_eq_true rfl, Nat.le_of_ble_eq_true rfl⟩ (by decide) (rest := []) (Nat.le_of_ble_eq_true rfl) dX12_tellsAct_61 ⟨Nat.le_of_ble_eq_true rfl, Nat.le_of_ble_eq_true rfl⟩ rfl ?_
    refine ww_aload_n (pc := 64) hC dX12_tellsAct_64 0 rfl ?_
    refine ww_iload_n (pc := 65) hC dX12_tellsAct_65 1 rfl ?_
    refine ww_iload_n (pc := 66) hC dX12_tellsAct_66 2 rfl ?_
    refine ww_iload_n (pc := 67) hC dX12_tellsAct_67 1 rfl ?_
    refine ww_isub (pc := 68) hC dX12_tellsAct_68 ?_
    obtain ⟨r20, X_21, h19, h⟩ := bnw_i h
    refine ww_callVi (pc := 69) hC [.int x1, .int (x2 - x1)] hL.1.1 hL.1.2 (by decide) (ceX12_shooterTells hL h19) ql_X12_398 qi_X12_shooterTells qs_X12_X12_shooterTells qn_X12 qc_X12_shooterTells rfl ⟨by decide, by decide, rfl⟩ rfl ⟨Nat.le_of_ble_eq_true rfl, Nat.le_of_ble_eq_true rfl⟩ (by decide) (rest := []) (Nat.le_of_ble_eq_true rfl) dX12_tellsAct_69 ⟨Nat.le_of_ble_eq_true rfl, Nat.le_of_ble_eq_true rfl⟩ rfl ?_
    exact ww_iret (pc := 72) hC hr h dX12_tellsAct_72
  replace h := ite_f h q15
  rcases Classical.em (X.1 1 (x1).toNatClampNeg = (6 : Int32)) with q22 | q22
  · replace h := ite_t h q22
    refine ww_tableIn (pc := 6) hC 36 dX12_tellsAct_6 (6 : Int32) q22 (by decide) (by decide) rfl (by decide) ?_
    refine ww_aload_n (pc := 36) hC dX12_tellsAct_36 0 rfl ?_
    refine ww_bipush (pc := 37) hC (v := (40 : Int32)) dX12_tellsAct_37 (by decide) ?_
    obtain ⟨_, X_25, h23, h⟩ := bnw_i h
    refine ww_callVv (pc := 39) hC [.int ((40 : Int32))] hL.1.1 hL.1.2 (by decide) (ceX12_body hL h23) ql_X12_380 qi_X12_body qs_X12_X12_body qn_X12 qc_X12_body rfl ⟨by decide, by decide, rfl⟩ rfl ⟨Nat.le_of_ble_eq_true rfl, Nat.le_of_ble_eq_true rfl⟩ (by decide) (rest := []) (Nat.le_of_ble_eq_true rfl) dX12_tellsAct_39 ⟨Nat.le_of_ble_eq_true rfl, Nat.le_of_ble_eq_true rfl⟩ rfl ?_
    refine ww_aload_n (pc := 42) hC dX12_tellsAct_42 0 rfl ?_
    refine ww_iload_n (pc := 43) hC dX12_tellsAct_43 1 rfl ?_
    refine ww_iload_n (pc := 44) hC dX12_tellsAct_44 2 rfl ?_
    obtain ⟨r27, X_28, h26, h⟩ := bnw_i h
    refine ww_callVi (pc := 45) hC [.int x1, .int x2] hL.1.1 hL.1.2 (by decide) (ceX12_shooterTells hL h26) ql_X12_398 qi_X12_shooterTells qs_X12_X12_shooterTells qn_X12 qc_X12_shooterTells rfl ⟨by decide, by decide, rfl⟩ rfl ⟨Nat.le_of_ble_eq_true rfl, Nat.le_of_ble_eq_true rfl⟩ (by decide) (rest := []) (Nat.le_of_ble_eq_true rfl) dX12_tellsAct_45 ⟨Nat.le_of_ble_eq_true rfl, Nat.le_of_ble_eq_true rfl⟩ rfl ?_
    refine ww_istore_n (pc := 48) hC [(3, .int r27), (0, .ref (w.1 0)), (1, .int x1), (2, .int x2)] dX12_tellsAct_48 rfl (by decide) rfl ?_
    refine ww_iload_n (pc := 49) hC dX12_tellsAct_49 0 rfl ?_
    refine ww_aload_n (pc := 50) hC dX12_tellsAct_50 1 rfl ?_
    refine ww_iload_n (pc := 51) hC dX12_tellsAct_51 2 rfl ?_
    refine ww_iconst (pc := 52) hC (v := (1 : Int32)) dX12_tellsAct_52 (by decide) ?_
    obtain ⟨r30, X_31, h29, h⟩ := bnw_i h
    refine ww_callVi (pc := 53) hC [.int x1, .int ((1 : Int32))] hL.1.1 hL.1.2 (by decide) (ceX12_showsAct hL h29) ql_X12_395 qi_X12_showsAct qs_X12_X12_showsAct qn_X12 qc_X12_showsAct rfl ⟨by decide, by decide, rfl⟩ rfl ⟨Nat.le_of_ble_eq_true rfl, Nat.le_of_ble_eq_true rfl⟩ (by decide) (rest := [.int r27]) (Nat.le_of_ble_eq_true rfl) dX12_tellsAct_53 ⟨Nat.le_of_ble_eq_true rfl, Nat.le_of_ble_eq_true rfl⟩ rfl ?_
    refine ww_iadd (pc := 56) hC dX12_tellsAct_56 ?_
    exact ww_iret (pc := 57) hC hr h dX12_tellsAct_57
  replace h := ite_f h q22
  refine ww_tableOut (pc := 6) hC 73 dX12_tellsAct_6 (sw_out (fun k h1 h2 => by rcases (show k = 3 ∨ k = 4 ∨ k = 5 ∨ k = 6 by omega) with rfl | rfl | rfl | rfl; exact q1; exact q11; exact q15; exact q22)) (by decide) ?_
  refine ww_aload_n (pc := 73) hC dX12_tellsAct_73 0 rfl ?_
  refine ww_iload_n (pc := 74) hC dX12_tellsAct_74 1 rfl ?_
  refine ww_iload_n (pc := 75) hC dX12_tellsAct_75 2 rfl ?_
  obtain ⟨r33, X_34, h32, h⟩ := bnw_i h
  refine ww_callVi (pc := 76) hC [.int x1, .int x2] hL.1.1 hL.1.2 (by decide) (ceX12_shooterTells hL h32) ql_X12_398 qi_X12_shooterTells qs_X12_X12_shooterTells qn_X12 qc_X12_shooterTells rfl ⟨by decide, by decide, rfl⟩ rfl ⟨Nat.le_of_ble_eq_true rfl, Nat.le_of_ble_eq_true rfl⟩ (by decide) (rest := []) (Nat.le_of_ble_eq_true rfl) dX12_tellsAct_76 ⟨Nat.le_of_ble_eq_true rfl, Nat.le_of_ble_eq_true rfl⟩ rfl ?_
  exact ww_iret (pc := 79) hC hr h dX12_tellsAct_79
noncomputable def fX12_act (x1 : Int32) (x2 : Int32) (x3 : Int32) (X : XD) : Option (Int32 × XD) := nm (wI X 0 61 ((0 : Int32))) (fun X_1 => bnd (fX12_isShooter x1 X_1) (fun r3 => if r3 = 0 then some ((0 : Int32), X_1) else bnd (fX12_in x2 ((0 : Int32)) ((2 : Int32)) X_1) (fun r5 => if r5 = 0 then some ((0 : Int32), X_1) else if x2 = 0 then bnw (fX12_aimsAct x1 x3 X_1) (fun r13 X_14 => some (r13, X_14)) else if x2 = ((1 : Int32)) then bnw (fX12_showsAct x1 x3 X_1) (fun r10 X_11 => some (r10, X_11)) else bnw (fX12_tellsAct x1 x3 X_1) (fun r7 X_8 => some (r7, X_8)))))
set_option maxHeartbeats 40000000 in
set_option maxRecDepth 100000 in
theorem ceX12_act {l : Launch} {E : XE} {w : XW} {z : Nat} {Z : XS} (hL : LayM Z) {x1 : Int32} {x2 : Int32} {x3 : Int32} {X X1 : XD} {r : Int32} (h : fX12_act x1 x2 x3 X = some (r, X1)) : Ct l E w yX12_act (wsM yX12_act cX12_act 4 (some .int)) (rmX 9 0 0) 0 0 [.ref (w.1 0), .int x1, .int x2, .int x3] z z Z Z X X1 (some (.int r)) := by
  refine ct_of (by decide) (Nat.le_of_ble_eq_true rfl) ?_
  intro p e s m args below meth c hC hr hin hav
  unfold fX12_act at h
  refine ww_lv (lv' := [(0, .ref (w.1 0)), (1, .int x1), (2, .int x2), (3, .int x3)]) rfl ?_
  refine ww_aload_n (pc := 0) hC dX12_act_0 0 rfl ?_
  refine ww_iconst (pc := 1) hC (v := (0 : Int32)) dX12_act_1 (by decide) ?_
  refine ww_putI (pc := 2) hC 12 61 hL.1 RX12 (by decide) (by decide) rfl qf_X12_197 rfl rfl rfl rfl dX12_act_2 ?_
  obtain ⟨X_1, eX_1⟩ : ∃ q, q = wI X 0 61 ((0 : Int32)) := ⟨_, rfl⟩
  replace h := nm_i h eX_1
  refine ww_nmX eX_1 ?_
  refine ww_aload_n (pc := 5) hC dX12_act_5 0 rfl ?_
  refine ww_iload_n (pc := 6) hC dX12_act_6 1 rfl ?_
  obtain ⟨r3, h2, h⟩ := bnd_i h
  refine ww_callVi (pc := 7) hC [.int x1] hL.1.1 hL.1.2 (by decide) (ceX12_isShooter hL h2) ql_X12_219 qi_X12_isShooter qs_X12_X12_isShooter qn_X12 qc_X12_isShooter rfl ⟨by decide, by decide, rfl⟩ rfl ⟨Nat.le_of_ble_eq_true rfl, Nat.le_of_ble_eq_true rfl⟩ (by decide) (rest := []) (Nat.le_of_ble_eq_true rfl) dX12_act_7 ⟨Nat.le_of_ble_eq_true rfl, Nat.le_of_ble_eq_true rfl⟩ rfl ?_
  refine ww_if_eq (pc := 10) hC h 23 dX12_act_10 (by decide) (fun h => ?_) (fun h => ?_)
  · refine ww_iconst (pc := 23) hC (v := (0 : Int32)) dX12_act_23 (by decide) ?_
    exact ww_iret (pc := 24) hC hr h dX12_act_24
  · refine ww_aload_n (pc := 13) hC dX12_act_13 0 rfl ?_
    refine ww_iload_n (pc := 14) hC dX12_act_14 2 rfl ?_
    refine ww_iconst (pc := 15) hC (v := (0 : Int32)) dX12_act_15 (by decide) ?_
    refine ww_iconst (pc := 16) hC (v := (2 : Int32)) dX12_act_16 (by decide) ?_
    obtain ⟨r5, h4, h⟩ := bnd_i h
    refine ww_callVi (pc := 17) hC [.int x2, .int ((0 : Int32)), .int ((2 : Int32))] hL.1.1 hL.1.2 (by decide) (ceX12_in hL h4) ql_X12_215 qi_X12_in qs_X12_X12_in qn_X12 qc_X12_in rfl ⟨by decide, by decide, rfl⟩ rfl ⟨Nat.le_of_ble_eq_true rfl, Nat.le_of_ble_eq_true rfl⟩ (by decide) (rest := []) (Nat.le_of_ble_eq_true rfl) dX12_act_17 ⟨Nat.le_of_ble_eq_true rfl, Nat.le_of_ble_eq_true rfl⟩ rfl ?_
    refine ww_if_ne (pc := 20) hC h 25 dX12_act_20 (by decide) (fun h => ?_) (fun h => ?_)
    · refine ww_iload_n (pc := 25) hC dX12_act_25 2 rfl ?_
      refine ww_if_ne (pc := 26) hC h 38 dX12_act_26 (by decide) (fun h => ?_) (fun h => ?_)
      · refine ww_iload_n (pc := 38) hC dX12_act_38 2 rfl ?_
        refine ww_iconst (pc := 39) hC (v := (1 : Int32)) dX12_act_39 (by decide) ?_
        refine ww_icmp_ne (pc := 40) hC h 52 dX12_act_40 (by decide) (fun h => ?_) (fun h => ?_)
        · refine ww_aload_n (pc := 52) hC dX12_act_52 0 rfl ?_
          refine ww_iload_n (pc := 53) hC dX12_act_53 1 rfl ?_
          refine ww_iload_n (pc := 54) hC dX12_act_54 3 rfl ?_
          obtain ⟨r7, X_8, h6, h⟩ := bnw_i h
          refine ww_callVi (pc := 55) hC [.int x1, .int x3] hL.1.1 hL.1.2 (by decide) (ceX12_tellsAct hL h6) ql_X12_401 qi_X12_tellsAct qs_X12_X12_tellsAct qn_X12 qc_X12_tellsAct rfl ⟨by decide, by decide, rfl⟩ rfl ⟨Nat.le_of_ble_eq_true rfl, Nat.le_of_ble_eq_true rfl⟩ (by decide) (rest := []) (Nat.le_of_ble_eq_true rfl) dX12_act_55 ⟨Nat.le_of_ble_eq_true rfl, Nat.le_of_ble_eq_true rfl⟩ rfl ?_
          exact ww_iret (pc := 58) hC hr h dX12_act_58
        · refine ww_aload_n (pc := 43) hC dX12_act_43 0 rfl ?_
          refine ww_iload_n (pc := 44) hC dX12_act_44 1 rfl ?_
          refine ww_iload_n (pc := 45) hC dX12_act_45 3 rfl ?_
          obtain ⟨r10, X_11, h9, h⟩ := bnw_i h
          refine ww_callVi (pc := 46) hC [.int x1, .int x3] hL.1.1 hL.1.2 (by decide) (ceX12_showsAct hL h9) ql_X12_395 qi_X12_showsAct qs_X12_X12_showsAct qn_X12 qc_X12_showsAct rfl ⟨by decide, by decide, rfl⟩ rfl ⟨Nat.le_of_ble_eq_true rfl, Nat.le_of_ble_eq_true rfl⟩ (by decide) (rest := []) (Nat.le_of_ble_eq_true rfl) dX12_act_46 ⟨Nat.le_of_ble_eq_true rfl, Nat.le_of_ble_eq_true rfl⟩ rfl ?_
          refine ww_goto (pc := 49) hC 58 dX12_act_49 (by decide) ?_
          exact ww_iret (pc := 58) hC hr h dX12_act_58
      · refine ww_aload_n (pc := 29) hC dX12_act_29 0 rfl ?_
        refine ww_iload_n (pc := 30) hC dX12_act_30 1 rfl ?_
        refine ww_iload_n (pc := 31) hC dX12_act_31 3 rfl ?_
        obtain ⟨r13, X_14, h12, h⟩ := bnw_i h
        refine ww_callVi (pc := 32) hC [.int x1, .int x3] hL.1.1 hL.1.2 (by decide) (ceX12_aimsAct hL h12) ql_X12_386 qi_X12_aimsAct qs_X12_X12_aimsAct qn_X12 qc_X12_aimsAct rfl ⟨by decide, by decide, rfl⟩ rfl ⟨Nat.le_of_ble_eq_true rfl, Nat.le_of_ble_eq_true rfl⟩ (by decide) (rest := []) (Nat.le_of_ble_eq_true rfl) dX12_act_32 ⟨Nat.le_of_ble_eq_true rfl, Nat.le_of_ble_eq_true rfl⟩ rfl ?_
        refine ww_goto (pc := 35) hC 58 dX12_act_35 (by decide) ?_
        exact ww_iret (pc := 58) hC hr h dX12_act_58
    · refine ww_iconst (pc := 23) hC (v := (0 : Int32)) dX12_act_23 (by decide) ?_
      exact ww_iret (pc := 24) hC hr h dX12_act_24
noncomputable def fX12_trace (x1 : Int32) (X : XD) : Option Int32 := bnd (fX12_in x1 ((0 : Int32)) ((19 : Int32)) X) (fun r2 => if r2 = 0 then some ((-1 : Int32)) else if (X.1 0 61) ≤ x1 then some ((-1 : Int32)) else gin x1 20 (some (X.1 38 (x1).toNatClampNeg)))
set_option maxHeartbeats 40000000 in
set_option maxRecDepth 100000 in
theorem ceX12_trace {l : Launch} {E : XE} {w : XW} {z : Nat} {Z : XS} (hL : LayM Z) {x1 : Int32} {X : XD} {r : Int32} (h : fX12_trace x1 X = some r) : Ct l E w yX12_trace (wsM yX12_trace cX12_trace 2 (some .int)) (rmX 2 0 0) 0 0 [.ref (w.1 0), .int x1] z z Z Z X X (some (.int r)) := by
  refine ct_of (by decide) (Nat.le_of_ble_eq_true rfl) ?_
  intro p e s m args below meth c hC hr hin hav
  unfold fX12_trace at h
  refine ww_lv (lv' := [(0, .ref (w.1 0)), (1, .int x1)]) rfl ?_
  refine ww_aload_n (pc := 0) hC dX12_trace_0 0 rfl ?_
  refine ww_iload_n (pc := 1) hC dX12_trace_1 1 rfl ?_
  refine ww_iconst (pc := 2) hC (v := (0 : Int32)) dX12_trace_2 (by decide) ?_
  refine ww_bipush (pc := 3) hC (v := (19 : Int32)) dX12_trace_3 (by decide) ?_
  obtain ⟨r2, h1, h⟩ := bnd_i h
  refine ww_callVi (pc := 5) hC [.int x1, .int ((0 : Int32)), .int ((19 : Int32))] hL.1.1 hL.1.2 (by decide) (ceX12_in hL h1) ql_X12_215 qi_X12_in qs_X12_X12_in qn_X12 qc_X12_in rfl ⟨by decide, by decide, rfl⟩ rfl ⟨Nat.le_of_ble_eq_true rfl, Nat.le_of_ble_eq_true rfl⟩ (by decide) (rest := []) (Nat.le_of_ble_eq_true rfl) dX12_trace_5 ⟨Nat.le_of_ble_eq_true rfl, Nat.le_of_ble_eq_true rfl⟩ rfl ?_
  refine ww_if_eq (pc := 8) hC h 28 dX12_trace_8 (by decide) (fun h => ?_) (fun h => ?_)
  · refine ww_iconst (pc := 28) hC (v := (-1 : Int32)) dX12_trace_28 (by decide) ?_
    exact ww_iret (pc := 29) hC hr (ret_r h) dX12_trace_29
  · refine ww_iload_n (pc := 11) hC dX12_trace_11 1 rfl ?_
    refine ww_aload_n (pc := 12) hC dX12_trace_12 0 rfl ?_
    refine ww_getI (pc := 13) hC 12 61 hL.1 RX12 (by decide) (by decide) rfl qf_X12_197 (Or.inl rfl) dX12_trace_13 ?_
    refine ww_icmp_ge (pc := 16) hC h 28 dX12_trace_16 (by decide) (fun h => ?_) (fun h => ?_)
    · refine ww_iconst (pc := 28) hC (v := (-1 : Int32)) dX12_trace_28 (by decide) ?_
      exact ww_iret (pc := 29) hC hr (ret_r h) dX12_trace_29
    · refine ww_aload_n (pc := 19) hC dX12_trace_19 0 rfl ?_
      refine ww_getR (pc := 20) hC 12 62 38 hL.1 RX12 (by decide) (by decide) rfl (lay_12_62 hL).1 qf_X12_200 rfl dX12_trace_20 ?_
      refine ww_iload_n (pc := 23) hC dX12_trace_23 1 rfl ?_
      refine ww_iald (pc := 24) hC ((lay_12_62 hL).2) h dX12_trace_24 (fun h => ?_)
      refine ww_goto (pc := 25) hC 29 dX12_trace_25 (by decide) ?_
      exact ww_iret (pc := 29) hC hr (ret_r h) dX12_trace_29
noncomputable def fX12_taken_72 (x3 : Int32) (X : XD) : Option Int32 := some x3
noncomputable def fX12_taken_61 (x2 : Int32) (x3 : Int32) (X : XD) : Option Int32 := if x2 = ((3 : Int32)) then if x3 = ((6 : Int32)) then fX12_taken_72 x3 X else some ((-12 : Int32)) else some ((-12 : Int32))
noncomputable def fX12_taken_51 (x2 : Int32) (x3 : Int32) (X : XD) : Option Int32 := if x2 = ((2 : Int32)) then if x3 = ((5 : Int32)) then fX12_taken_72 x3 X else fX12_taken_61 x2 x3 X else fX12_taken_61 x2 x3 X
noncomputable def fX12_taken (x1 : Int32) (x2 : Int32) (X : XD) : Option Int32 := bnd (fX12_in x2 ((0 : Int32)) ((6 : Int32)) X) (fun r2 => if r2 = 0 then some ((-2 : Int32)) else bnd (fX12_isShooter x1 X) (fun r4 => if r4 = 0 then some ((-11 : Int32)) else gin x1 6 (nm (X.1 1 (x1).toNatClampNeg) (fun y5 => if x2 = 0 then fX12_taken_72 y5 X else if y5 = x2 then fX12_taken_72 y5 X else if x2 = ((1 : Int32)) then if y5 = ((4 : Int32)) then fX12_taken_72 y5 X else fX12_taken_51 x2 y5 X else fX12_taken_51 x2 y5 X))))
set_option maxHeartbeats 40000000 in
set_option maxRecDepth 100000 in
theorem ceX12_taken {l : Launch} {E : XE} {w : XW} {z : Nat} {Z : XS} (hL : LayM Z) {x1 : Int32} {x2 : Int32} {X : XD} {r : Int32} (h : fX12_taken x1 x2 X = some r) : Ct l E w yX12_taken (wsM yX12_taken cX12_taken 4 (some .int)) (rmX 3 0 0) 0 0 [.ref (w.1 0), .int x1, .int x2] z z Z Z X X (some (.int r)) := by
  refine ct_of (by decide) (Nat.le_of_ble_eq_true rfl) ?_
  intro p e s m args below meth c hC hr hin hav
  have j72 : ∀ (x3 : Int32), fX12_taken_72 x3 X = some r → WW p l e (rmX 3 0 0) s m args below meth c 4 (MQ below (XQ E w z Z X (some (.int r))) args s 0 0 (A0 E)) E w 0 0 z Z 72 [(3, .int x3)] [] X := by
    intro x3 h
    unfold fX12_taken_72 at h
    refine ww_iload_n (pc := 72) hC dX12_taken_72 0 rfl ?_
    refine ww_goto (pc := 73) hC 78 dX12_taken_73 (by decide) ?_
    exact ww_iret (pc := 78) hC hr (ret_r h) dX12_taken_78
  have j61 : ∀ (x2 : Int32) (x3 : Int32), fX12_taken_61 x2 x3 X = some r → WW p l e (rmX 3 0 0) s m args below meth c 4 (MQ below (XQ E w z Z X (some (.int r))) args s 0 0 (A0 E)) E w 0 0 z Z 61 [(2, .int x2), (3, .int x3)] [] X := by
    intro x2 x3 h
    unfold fX12_taken_61 at h
    refine ww_iload_n (pc := 61) hC dX12_taken_61 0 rfl ?_
    refine ww_iconst (pc := 62) hC (v := (3 : Int32)) dX12_taken_62 (by decide) ?_
    refine ww_icmp_ne (pc := 63) hC h 76 dX12_taken_63 (by decide) (fun h => ?_) (fun h => ?_)
    · refine ww_bipush (pc := 76) hC (v := (-12 : Int32)) dX12_taken_76 (by decide) ?_
      exact ww_iret (pc := 78) hC hr (ret_r h) dX12_taken_78
    · refine ww_iload_n (pc := 66) hC dX12_taken_66 1 rfl ?_
      refine ww_bipush (pc := 67) hC (v := (6 : Int32)) dX12_taken_67 (by decide) ?_
      refine ww_icmp_ne (pc := 69) hC h 76 dX12_taken_69 (by decide) (fun h => ?_) (fun h => ?_)
      · refine ww_bipush (pc := 76) hC (v := (-12 : Int32)) dX12_taken_76 (by decide) ?_
        exact ww_iret (pc := 78) hC hr (ret_r h) dX12_taken_78
      · refine ww_sub [1] rfl ?_
        exact j72 _ h
  have j51 : ∀ (x2 : Int32) (x3 : Int32), fX12_taken_51 x2 x3 X = some r → WW p l e (rmX 3 0 0) s m args below meth c 4 (MQ below (XQ E w z Z X (some (.int r))) args s 0 0 (A0 E)) E w 0 0 z Z 51 [(2, .int x2), (3, .int x3)] [] X := by
    intro x2 x3 h
    unfold fX12_taken_51 at h
    refine ww_iload_n (pc := 51) hC dX12_taken_51 0 rfl ?_
    refine ww_iconst (pc := 52) hC (v := (2 : Int32)) dX12_taken_52 (by decide) ?_
    refine ww_icmp_ne (pc := 53) hC h 61 dX12_taken_53 (by decide) (fun h => ?_) (fun h => ?_)
    · refine ww_sub [0, 1] rfl ?_
      exact j61 _ _ h
    · refine ww_iload_n (pc := 56) hC dX12_taken_56 1 rfl ?_
      refine ww_iconst (pc := 57) hC (v := (5 : Int32)) dX12_taken_57 (by decide) ?_
      refine ww_icmp_eq (pc := 58) hC h 72 dX12_taken_58 (by decide) (fun h => ?_) (fun h => ?_)
      · refine ww_sub [1] rfl ?_
        exact j72 _ h
      · refine ww_sub [0, 1] rfl ?_
        exact j61 _ _ h
  unfold fX12_taken at h
  refine ww_lv (lv' := [(0, .ref (w.1 0)), (1, .int x1), (2, .int x2)]) rfl ?_
  refine ww_aload_n (pc := 0) hC dX12_taken_0 0 rfl ?_
  refine ww_iload_n (pc := 1) hC dX12_taken_1 2 rfl ?_
  refine ww_iconst (pc := 2) hC (v := (0 : Int32)) dX12_taken_2 (by decide) ?_
  refine ww_bipush (pc := 3) hC (v := (6 : Int32)) dX12_taken_3 (by decide) ?_
  obtain ⟨r2, h1, h⟩ := bnd_i h
  refine ww_callVi (pc := 5) hC [.int x2, .int ((0 : Int32)), .int ((6 : Int32))] hL.1.1 hL.1.2 (by decide) (ceX12_in hL h1) ql_X12_215 qi_X12_in qs_X12_X12_in qn_X12 qc_X12_in rfl ⟨by decide, by decide, rfl⟩ rfl ⟨Nat.le_of_ble_eq_true rfl, Nat.le_of_ble_eq_true rfl⟩ (by decide) (rest := []) (Nat.le_of_ble_eq_true rfl) dX12_taken_5 ⟨Nat.le_of_ble_eq_true rfl, Nat.le_of_ble_eq_true rfl⟩ rfl ?_
  refine ww_if_ne (pc := 8) hC h 14 dX12_taken_8 (by decide) (fun h => ?_) (fun h => ?_)
  · refine ww_aload_n (pc := 14) hC dX12_taken_14 0 rfl ?_
    refine ww_iload_n (pc := 15) hC dX12_taken_15 1 rfl ?_
    obtain ⟨r4, h3, h⟩ := bnd_i h
    refine ww_callVi (pc := 16) hC [.int x1] hL.1.1 hL.1.2 (by decide) (ceX12_isShooter hL h3) ql_X12_219 qi_X12_isShooter qs_X12_X12_isShooter qn_X12 qc_X12_isShooter rfl ⟨by decide, by decide, rfl⟩ rfl ⟨Nat.le_of_ble_eq_true rfl, Nat.le_of_ble_eq_true rfl⟩ (by decide) (rest := []) (Nat.le_of_ble_eq_true rfl) dX12_taken_16 ⟨Nat.le_of_ble_eq_true rfl, Nat.le_of_ble_eq_true rfl⟩ rfl ?_
    refine ww_if_ne (pc := 19) hC h 25 dX12_taken_19 (by decide) (fun h => ?_) (fun h => ?_)
    · refine ww_aload_n (pc := 25) hC dX12_taken_25 0 rfl ?_
      refine ww_getR (pc := 26) hC 12 3 1 hL.1 RX12 (by decide) (by decide) rfl (lay_12_3 hL).1 qf_X12_19 rfl dX12_taken_26 ?_
      refine ww_iload_n (pc := 29) hC dX12_taken_29 1 rfl ?_
      refine ww_iald (pc := 30) hC ((lay_12_3 hL).2) h dX12_taken_30 (fun h => ?_)
      obtain ⟨y5, ey5⟩ : ∃ q, q = X.1 1 (x1).toNatClampNeg := ⟨_, rfl⟩
      replace h := nm_i h ey5
      refine ww_nmi ey5 ?_
      refine ww_istore_n (pc := 31) hC [(3, .int y5), (0, .ref (w.1 0)), (1, .int x1), (2, .int x2)] dX12_taken_31 rfl (by decide) rfl ?_
      refine ww_iload_n (pc := 32) hC dX12_taken_32 3 rfl ?_
      refine ww_if_eq (pc := 33) hC h 72 dX12_taken_33 (by decide) (fun h => ?_) (fun h => ?_)
      · refine ww_sub [0] rfl ?_
        exact j72 _ h
      · refine ww_iload_n (pc := 36) hC dX12_taken_36 0 rfl ?_
        refine ww_iload_n (pc := 37) hC dX12_taken_37 3 rfl ?_
        refine ww_icmp_eq (pc := 38) hC h 72 dX12_taken_38 (by decide) (fun h => ?_) (fun h => ?_)
        · refine ww_sub [0] rfl ?_
          exact j72 _ h
        · refine ww_iload_n (pc := 41) hC dX12_taken_41 3 rfl ?_
          refine ww_iconst (pc := 42) hC (v := (1 : Int32)) dX12_taken_42 (by decide) ?_
          refine ww_icmp_ne (pc := 43) hC h 51 dX12_taken_43 (by decide) (fun h => ?_) (fun h => ?_)
          · refine ww_sub [3, 0] rfl ?_
            exact j51 _ _ h
          · refine ww_iload_n (pc := 46) hC dX12_taken_46 0 rfl ?_
            refine ww_iconst (pc := 47) hC (v := (4 : Int32)) dX12_taken_47 (by decide) ?_
            refine ww_icmp_eq (pc := 48) hC h 72 dX12_taken_48 (by decide) (fun h => ?_) (fun h => ?_)
            · refine ww_sub [0] rfl ?_
              exact j72 _ h
            · refine ww_sub [3, 0] rfl ?_
              exact j51 _ _ h
    · refine ww_bipush (pc := 22) hC (v := (-11 : Int32)) dX12_taken_22 (by decide) ?_
      exact ww_iret (pc := 24) hC hr (ret_r h) dX12_taken_24
  · refine ww_bipush (pc := 11) hC (v := (-2 : Int32)) dX12_taken_11 (by decide) ?_
    exact ww_iret (pc := 13) hC hr (ret_r h) dX12_taken_13
noncomputable def fX12_count (x1 : Int32) (X : XD) : Option Int32 := if x1 = (0 : Int32) then some (X.1 0 0) else (if x1 = (1 : Int32) then some (X.1 0 9) else (if x1 = (2 : Int32) then some (X.1 0 32) else (if x1 = (3 : Int32) then some (X.1 0 38) else (if x1 = (4 : Int32) then some (X.1 0 40) else (if x1 = (5 : Int32) then some (X.1 0 11) else (if x1 = (6 : Int32) then some (X.1 0 61) else (some ((-2 : Int32)))))))))
set_option maxHeartbeats 40000000 in
set_option maxRecDepth 100000 in
theorem ceX12_count {l : Launch} {E : XE} {w : XW} {z : Nat} {Z : XS} (hL : LayM Z) {x1 : Int32} {X : XD} {r : Int32} (h : fX12_count x1 X = some r) : Ct l E w yX12_count (wsM yX12_count cX12_count 2 (some .int)) (rmX 1 0 0) 0 0 [.ref (w.1 0), .int x1] z z Z Z X X (some (.int r)) := by
  refine ct_of (by decide) (Nat.le_of_ble_eq_true rfl) ?_
  intro p e s m args below meth c hC hr hin hav
  unfold fX12_count at h
  refine ww_lv (lv' := [(0, .ref (w.1 0)), (1, .int x1)]) rfl ?_
  refine ww_iload_n (pc := 0) hC dX12_count_0 1 rfl ?_
  rcases Classical.em (x1 = (0 : Int32)) with q1 | q1
  · replace h := ite_t h q1
    refine ww_tableIn (pc := 1) hC 44 dX12_count_1 (0 : Int32) q1 (by decide) (by decide) rfl (by decide) ?_
    refine ww_aload_n (pc := 44) hC dX12_count_44 0 rfl ?_
    refine ww_getI (pc := 45) hC 12 0 hL.1 RX12 (by decide) (by decide) rfl qf_X12_7 (Or.inl rfl) dX12_count_45 ?_
    exact ww_iret (pc := 48) hC hr (ret_r h) dX12_count_48
  replace h := ite_f h q1
  rcases Classical.em (x1 = (1 : Int32)) with q2 | q2
  · replace h := ite_t h q2
    refine ww_tableIn (pc := 1) hC 49 dX12_count_1 (1 : Int32) q2 (by decide) (by decide) rfl (by decide) ?_
    refine ww_aload_n (pc := 49) hC dX12_count_49 0 rfl ?_
    refine ww_getI (pc := 50) hC 12 9 hL.1 RX12 (by decide) (by decide) rfl qf_X12_38 (Or.inl rfl) dX12_count_50 ?_
    exact ww_iret (pc := 53) hC hr (ret_r h) dX12_count_53
  replace h := ite_f h q2
  rcases Classical.em (x1 = (2 : Int32)) with q3 | q3
  · replace h := ite_t h q3
    refine ww_tableIn (pc := 1) hC 54 dX12_count_1 (2 : Int32) q3 (by decide) (by decide) rfl (by decide) ?_
    refine ww_aload_n (pc := 54) hC dX12_count_54 0 rfl ?_
    refine ww_getI (pc := 55) hC 12 32 hL.1 RX12 (by decide) (by decide) rfl qf_X12_108 (Or.inl rfl) dX12_count_55 ?_
    exact ww_iret (pc := 58) hC hr (ret_r h) dX12_count_58
  replace h := ite_f h q3
  rcases Classical.em (x1 = (3 : Int32)) with q4 | q4
  · replace h := ite_t h q4
    refine ww_tableIn (pc := 1) hC 59 dX12_count_1 (3 : Int32) q4 (by decide) (by decide) rfl (by decide) ?_
    refine ww_aload_n (pc := 59) hC dX12_count_59 0 rfl ?_
    refine ww_getI (pc := 60) hC 12 38 hL.1 RX12 (by decide) (by decide) rfl qf_X12_127 (Or.inl rfl) dX12_count_60 ?_
    exact ww_iret (pc := 63) hC hr (ret_r h) dX12_count_63
  replace h := ite_f h q4
  rcases Classical.em (x1 = (4 : Int32)) with q5 | q5
  · replace h := ite_t h q5
    refine ww_tableIn (pc := 1) hC 64 dX12_count_1 (4 : Int32) q5 (by decide) (by decide) rfl (by decide) ?_
    refine ww_aload_n (pc := 64) hC dX12_count_64 0 rfl ?_
    refine ww_getI (pc := 65) hC 12 40 hL.1 RX12 (by decide) (by decide) rfl qf_X12_133 (Or.inl rfl) dX12_count_65 ?_
    exact ww_iret (pc := 68) hC hr (ret_r h) dX12_count_68
  replace h := ite_f h q5
  rcases Classical.em (x1 = (5 : Int32)) with q6 | q6
  · replace h := ite_t h q6
    refine ww_tableIn (pc := 1) hC 69 dX12_count_1 (5 : Int32) q6 (by decide) (by decide) rfl (by decide) ?_
    refine ww_aload_n (pc := 69) hC dX12_count_69 0 rfl ?_
    refine ww_getI (pc := 70) hC 12 11 hL.1 RX12 (by decide) (by decide) rfl qf_X12_44 (Or.inl rfl) dX12_count_70 ?_
    exact ww_iret (pc := 73) hC hr (ret_r h) dX12_count_73
  replace h := ite_f h q6
  rcases Classical.em (x1 = (6 : Int32)) with q7 | q7
  · replace h := ite_t h q7
    refine ww_tableIn (pc := 1) hC 74 dX12_count_1 (6 : Int32) q7 (by decide) (by decide) rfl (by decide) ?_
    refine ww_aload_n (pc := 74) hC dX12_count_74 0 rfl ?_
    refine ww_getI (pc := 75) hC 12 61 hL.1 RX12 (by decide) (by decide) rfl qf_X12_197 (Or.inl rfl) dX12_count_75 ?_
    exact ww_iret (pc := 78) hC hr (ret_r h) dX12_count_78
  replace h := ite_f h q7
  refine ww_tableOut (pc := 1) hC 79 dX12_count_1 (sw_out (fun k h1 h2 => by rcases (show k = 0 ∨ k = 1 ∨ k = 2 ∨ k = 3 ∨ k = 4 ∨ k = 5 ∨ k = 6 by omega) with rfl | rfl | rfl | rfl | rfl | rfl | rfl; exact q1; exact q2; exact q3; exact q4; exact q5; exact q6; exact q7)) (by decide) ?_
  refine ww_bipush (pc := 79) hC (v := (-2 : Int32)) dX12_count_79 (by decide) ?_
  exact ww_iret (pc := 81) hC hr (ret_r h) dX12_count_81
noncomputable def fX12_tape_69 (n : Nat) : Int32 → Int32 → XD → Option (Int32 × XD) := Nat.rec (motive := fun _ => Int32 → Int32 → XD → Option (Int32 × XD)) (fun _ _ _ => none) (fun _ f => fun x1 x4 X => if ((60 : Int32)) ≤ x4 then some ((1 : Int32), X) else gin ((((60 : Int32)) * x1) + x4) 360 (nm (wJ X 41 ((((60 : Int32)) * x1) + x4).toNatClampNeg ((0 : Int64))) (fun X_7 => nm (x4 + (1 : Int32)) (fun y8 => f x1 y8 X_7)))) n
theorem fX12_tape_69_s (n : Nat) (x1 : Int32) (x4 : Int32) (X : XD) : fX12_tape_69 (n + 1) x1 x4 X = if ((60 : Int32)) ≤ x4 then some ((1 : Int32), X) else gin ((((60 : Int32)) * x1) + x4) 360 (nm (wJ X 41 ((((60 : Int32)) * x1) + x4).toNatClampNeg ((0 : Int64))) (fun X_7 => nm (x4 + (1 : Int32)) (fun y8 => (fX12_tape_69 n) x1 y8 X_7))) := rfl
noncomputable def fX12_tape_65 (x1 : Int32) (s0 : Int32) (s1 : Int32) (X : XD) : Option (Int32 × XD) := gin s1 6 (nm (wI X 40 (s1).toNatClampNeg s0) (fun X_6 => fX12_tape_69 FU x1 ((0 : Int32)) X_6))
noncomputable def fX12_tape_44 (x1 : Int32) (x2 : Int32) (x3 : Int32) (X : XD) : Option (Int32 × XD) := gin x1 6 (nm (wI X 39 (x1).toNatClampNeg x2) (fun X_5 => if 0 ≤ x2 then fX12_tape_65 x1 x3 x1 X_5 else fX12_tape_65 x1 ((0 : Int32)) x1 X_5))
noncomputable def fX12_tape_33 (x1 : Int32) (x2 : Int32) (x3 : Int32) (X : XD) : Option (Int32 × XD) := if x2 < 0 then fX12_tape_44 x1 x2 x3 X else if 0 ≤ x3 then fX12_tape_44 x1 x2 x3 X else some ((-14 : Int32), X)
noncomputable def fX12_tape (x1 : Int32) (x2 : Int32) (x3 : Int32) (X : XD) : Option (Int32 × XD) := bnd (fX12_isTape x1 X) (fun r2 => if r2 = 0 then some ((-1 : Int32), X) else bnd (fX12_in x2 ((-1 : Int32)) ((4 : Int32)) X) (fun r4 => if r4 = 0 then some ((-2 : Int32), X) else if x2 < 0 then fX12_tape_33 x1 x2 x3 X else if x3 ≤ ((60 : Int32)) then fX12_tape_33 x1 x2 x3 X else some ((-2 : Int32), X)))
set_option maxHeartbeats 40000000 in
set_option maxRecDepth 100000 in
theorem ceX12_tape {l : Launch} {E : XE} {w : XW} {z : Nat} {Z : XS} (hL : LayM Z) {x1 : Int32} {x2 : Int32} {x3 : Int32} {X X1 : XD} {r : Int32} (h : fX12_tape x1 x2 x3 X = some (r, X1)) : Ct l E w yX12_tape (wsM yX12_tape cX12_tape 5 (some .int)) (rmX 3 0 0) 0 0 [.ref (w.1 0), .int x1, .int x2, .int x3] z z Z Z X X1 (some (.int r)) := by
  refine ct_of (by decide) (Nat.le_of_ble_eq_true rfl) ?_
  intro p e s m args below meth c hC hr hin hav
  have j69 : ∀ (n : Nat), ∀ (x1 : Int32) (x4 : Int32) (X : XD), fX12_tape_69 n x1 x4 X = some (r, X1) → WW p l e (rmX 3 0 0) s m args below meth c 5 (MQ below (XQ E w z Z X1 (some (.int r))) args s 0 0 (A0 E)) E w 0 0 z Z 69 [(0, .ref (w.1 0)), (1, .int x1), (4, .int x4)] [] X := by
    intro n
    induction n with
    | zero =>
      intro x1 x4 X h
      cases (show none = some (r, X1) from h)
    | succ n ih =>
      intro x1 x4 X h
      rw [fX12_tape_69_s] at h
      refine ww_iload (pc := 69) hC dX12_tape_69 2 rfl ?_
      refine ww_bipush (pc := 71) hC (v := (60 : Int32)) dX12_tape_71 (by decide) ?_
      refine ww_icmp_ge (pc := 73) hC h 95 dX12_tape_73 (by decide) (fun h => ?_) (fun h => ?_)
      · refine ww_iconst (pc := 95) hC (v := (1 : Int32)) dX12_tape_95 (by decide) ?_
        exact ww_iret (pc := 96) hC hr h dX12_tape_96
      · refine ww_aload_n (pc := 76) hC dX12_tape_76 0 rfl ?_
        refine ww_getR (pc := 77) hC 12 65 41 hL.1 RX12 (by decide) (by decide) rfl (lay_12_65 hL).1 qf_X12_209 rfl dX12_tape_77 ?_
        refine ww_bipush (pc := 80) hC (v := (60 : Int32)) dX12_tape_80 (by decide) ?_
        refine ww_iload_n (pc := 82) hC dX12_tape_82 1 rfl ?_
        refine ww_imul (pc := 83) hC dX12_tape_83 ?_
        refine ww_iload (pc := 84) hC dX12_tape_84 2 rfl ?_
        refine ww_iadd (pc := 86) hC dX12_tape_86 ?_
        refine ww_lconst (pc := 87) hC (v := (0 : Int64)) dX12_tape_87 (by decide) ?_
        refine ww_last (pc := 88) hC ((lay_12_65 hL).2) h dX12_tape_88 (fun h => ?_)
        obtain ⟨X_7, eX_7⟩ : ∃ q, q = wJ X 41 ((((60 : Int32)) * x1) + x4).toNatClampNeg ((0 : Int64)) := ⟨_, rfl⟩
        replace h := nm_i h eX_7
        refine ww_nmX eX_7 ?_
        obtain ⟨y8, ey8⟩ : ∃ q, q = x4 + (1 : Int32) := ⟨_, rfl⟩
        replace h := nm_i h ey8
        refine ww_iinc (pc := 89) hC y8 [(4, .int y8), (0, .ref (w.1 0)), (1, .int x1)] dX12_tape_89 2 rfl (by rw [ey8]; rfl) (by decide) rfl ?_
        refine ww_goto (pc := 92) hC 69 dX12_tape_92 (by decide) ?_
        refine ww_sub [1, 2, 0] rfl ?_
        exact ih _ _ _ h
  have j65 : ∀ (x1 : Int32) (s0 : Int32) (s1 : Int32) (X : XD), fX12_tape_65 x1 s0 s1 X = some (r, X1) → WW p l e (rmX 3 0 0) s m args below meth c 5 (MQ below (XQ E w z Z X1 (some (.int r))) args s 0 0 (A0 E)) E w 0 0 z Z 65 [(0, .ref (w.1 0)), (1, .int x1)] [.int s0, .int s1, .ref (w.1 40)] X := by
    intro x1 s0 s1 X h
    unfold fX12_tape_65 at h
    refine ww_iast (pc := 65) hC ((lay_12_64 hL).2) h dX12_tape_65 (fun h => ?_)
    obtain ⟨X_6, eX_6⟩ : ∃ q, q = wI X 40 (s1).toNatClampNeg s0 := ⟨_, rfl⟩
    replace h := nm_i h eX_6
    refine ww_nmX eX_6 ?_
    refine ww_iconst (pc := 66) hC (v := (0 : Int32)) dX12_tape_66 (by decide) ?_
    refine ww_istore (pc := 67) hC [(4, .int ((0 : Int32))), (0, .ref (w.1 0)), (1, .int x1)] dX12_tape_67  (by decide) rfl ?_
    refine ww_sub [1, 2, 0] rfl ?_
    exact j69 _ _ _ _ h
  have j44 : ∀ (x1 : Int32) (x2 : Int32) (x3 : Int32) (X : XD), fX12_tape_44 x1 x2 x3 X = some (r, X1) → WW p l e (rmX 3 0 0) s m args below meth c 5 (MQ below (XQ E w z Z X1 (some (.int r))) args s 0 0 (A0 E)) E w 0 0 z Z 44 [(0, .ref (w.1 0)), (1, .int x1), (2, .int x2), (3, .int x3)] [] X := by
    intro x1 x2 x3 X h
    unfold fX12_tape_44 at h
    refine ww_aload_n (pc := 44) hC dX12_tape_44 0 rfl ?_
    refine ww_getR (pc := 45) hC 12 63 39 hL.1 RX12 (by decide) (by decide) rfl (lay_12_63 hL).1 qf_X12_203 rfl dX12_tape_45 ?_
    refine ww_iload_n (pc := 48) hC dX12_tape_48 1 rfl ?_
    refine ww_iload_n (pc := 49) hC dX12_tape_49 2 rfl ?_
    refine ww_iast (pc := 50) hC ((lay_12_63 hL).2) h dX12_tape_50 (fun h => ?_)
    obtain ⟨X_5, eX_5⟩ : ∃ q, q = wI X 39 (x1).toNatClampNeg x2 := ⟨_, rfl⟩
    replace h := nm_i h eX_5
    refine ww_nmX eX_5 ?_
    refine ww_aload_n (pc := 51) hC dX12_tape_51 0 rfl ?_
    refine ww_getR (pc := 52) hC 12 64 40 hL.1 RX12 (by decide) (by decide) rfl (lay_12_64 hL).1 qf_X12_206 rfl dX12_tape_52 ?_
    refine ww_iload_n (pc := 55) hC dX12_tape_55 1 rfl ?_
    refine ww_iload_n (pc := 56) hC dX12_tape_56 2 rfl ?_
    refine ww_if_ge (pc := 57) hC h 64 dX12_tape_57 (by decide) (fun h => ?_) (fun h => ?_)
    · refine ww_iload_n (pc := 64) hC dX12_tape_64 3 rfl ?_
      refine ww_sub [0, 1] rfl ?_
      exact j65 _ _ _ _ h
    · refine ww_iconst (pc := 60) hC (v := (0 : Int32)) dX12_tape_60 (by decide) ?_
      refine ww_goto (pc := 61) hC 65 dX12_tape_61 (by decide) ?_
      refine ww_sub [0, 1] rfl ?_
      exact j65 _ _ _ _ h
  have j33 : ∀ (x1 : Int32) (x2 : Int32) (x3 : Int32) (X : XD), fX12_tape_33 x1 x2 x3 X = some (r, X1) → WW p l e (rmX 3 0 0) s m args below meth c 5 (MQ below (XQ E w z Z X1 (some (.int r))) args s 0 0 (A0 E)) E w 0 0 z Z 33 [(0, .ref (w.1 0)), (1, .int x1), (2, .int x2), (3, .int x3)] [] X := by
    intro x1 x2 x3 X h
    unfold fX12_tape_33 at h
    refine ww_iload_n (pc := 33) hC dX12_tape_33 2 rfl ?_
    refine ww_if_lt (pc := 34) hC h 44 dX12_tape_34 (by decide) (fun h => ?_) (fun h => ?_)
    · refine ww_sub [0, 1, 2, 3] rfl ?_
      exact j44 _ _ _ _ h
    · refine ww_iload_n (pc := 37) hC dX12_tape_37 3 rfl ?_
      refine ww_if_ge (pc := 38) hC h 44 dX12_tape_38 (by decide) (fun h => ?_) (fun h => ?_)
      · refine ww_sub [0, 1, 2, 3] rfl ?_
        exact j44 _ _ _ _ h
      · refine ww_bipush (pc := 41) hC (v := (-14 : Int32)) dX12_tape_41 (by decide) ?_
        exact ww_iret (pc := 43) hC hr h dX12_tape_43
  unfold fX12_tape at h
  refine ww_lv (lv' := [(0, .ref (w.1 0)), (1, .int x1), (2, .int x2), (3, .int x3)]) rfl ?_
  refine ww_aload_n (pc := 0) hC dX12_tape_0 0 rfl ?_
  refine ww_iload_n (pc := 1) hC dX12_tape_1 1 rfl ?_
  obtain ⟨r2, h1, h⟩ := bnd_i h
  refine ww_callVi (pc := 2) hC [.int x1] hL.1.1 hL.1.2 (by decide) (ceX12_isTape hL h1) ql_X12_377 qi_X12_isTape qs_X12_X12_isTape qn_X12 qc_X12_isTape rfl ⟨by decide, by decide, rfl⟩ rfl ⟨Nat.le_of_ble_eq_true rfl, Nat.le_of_ble_eq_true rfl⟩ (by decide) (rest := []) (Nat.le_of_ble_eq_true rfl) dX12_tape_2 ⟨Nat.le_of_ble_eq_true rfl, Nat.le_of_ble_eq_true rfl⟩ rfl ?_
  refine ww_if_ne (pc := 5) hC h 10 dX12_tape_5 (by decide) (fun h => ?_) (fun h => ?_)
  · refine ww_aload_n (pc := 10) hC dX12_tape_10 0 rfl ?_
    refine ww_iload_n (pc := 11) hC dX12_tape_11 2 rfl ?_
    refine ww_iconst (pc := 12) hC (v := (-1 : Int32)) dX12_tape_12 (by decide) ?_
    refine ww_iconst (pc := 13) hC (v := (4 : Int32)) dX12_tape_13 (by decide) ?_
    obtain ⟨r4, h3, h⟩ := bnd_i h
    refine ww_callVi (pc := 14) hC [.int x2, .int ((-1 : Int32)), .int ((4 : Int32))] hL.1.1 hL.1.2 (by decide) (ceX12_in hL h3) ql_X12_215 qi_X12_in qs_X12_X12_in qn_X12 qc_X12_in rfl ⟨by decide, by decide, rfl⟩ rfl ⟨Nat.le_of_ble_eq_true rfl, Nat.le_of_ble_eq_true rfl⟩ (by decide) (rest := []) (Nat.le_of_ble_eq_true rfl) dX12_tape_14 ⟨Nat.le_of_ble_eq_true rfl, Nat.le_of_ble_eq_true rfl⟩ rfl ?_
    refine ww_if_eq (pc := 17) hC h 30 dX12_tape_17 (by decide) (fun h => ?_) (fun h => ?_)
    · refine ww_bipush (pc := 30) hC (v := (-2 : Int32)) dX12_tape_30 (by decide) ?_
      exact ww_iret (pc := 32) hC hr h dX12_tape_32
    · refine ww_iload_n (pc := 20) hC dX12_tape_20 2 rfl ?_
      refine ww_if_lt (pc := 21) hC h 33 dX12_tape_21 (by decide) (fun h => ?_) (fun h => ?_)
      · refine ww_sub [0, 1, 2, 3] rfl ?_
        exact j33 _ _ _ _ h
      · refine ww_iload_n (pc := 24) hC dX12_tape_24 3 rfl ?_
        refine ww_bipush (pc := 25) hC (v := (60 : Int32)) dX12_tape_25 (by decide) ?_
        refine ww_icmp_le (pc := 27) hC h 33 dX12_tape_27 (by decide) (fun h => ?_) (fun h => ?_)
        · refine ww_sub [0, 1, 2, 3] rfl ?_
          exact j33 _ _ _ _ h
        · refine ww_bipush (pc := 30) hC (v := (-2 : Int32)) dX12_tape_30 (by decide) ?_
          exact ww_iret (pc := 32) hC hr h dX12_tape_32
  · refine ww_iconst (pc := 8) hC (v := (-1 : Int32)) dX12_tape_8 (by decide) ?_
    exact ww_iret (pc := 9) hC hr h dX12_tape_9
noncomputable def fX12_narrow (x1 : Int32) (x2 : Int64) (X : XD) : Option Int64 := if x1 = 0 then some x2.toInt32.toInt8.toInt32.toInt64 else if x1 = ((1 : Int32)) then some x2.toInt32.toInt16.toInt32.toInt64 else if x1 = ((2 : Int32)) then some x2.toInt32.toInt64 else if x1 = ((4 : Int32)) then if (lg_cmp x2 ((0 : Int64))) = 0 then some ((0 : Int64)) else some ((1 : Int64)) else some x2
set_option maxHeartbeats 40000000 in
set_option maxRecDepth 100000 in
theorem ceX12_narrow {l : Launch} {E : XE} {w : XW} {z : Nat} {Z : XS} (hL : LayM Z) {x1 : Int32} {x2 : Int64} {X : XD} {r : Int64} (h : fX12_narrow x1 x2 X = some r) : Ct l E w yX12_narrow (wsM yX12_narrow cX12_narrow 4 (some .long)) (rmX 1 0 0) 0 0 [.ref (w.1 0), .int x1, .long x2] z z Z Z X X (some (.long r)) := by
  refine ct_of (by decide) (Nat.le_of_ble_eq_true rfl) ?_
  intro p e s m args below meth c hC hr hin hav
  unfold fX12_narrow at h
  refine ww_lv (lv' := [(0, .ref (w.1 0)), (1, .int x1), (2, .long x2)]) rfl ?_
  refine ww_iload_n (pc := 0) hC dX12_narrow_0 1 rfl ?_
  refine ww_if_ne (pc := 1) hC h 11 dX12_narrow_1 (by decide) (fun h => ?_) (fun h => ?_)
  · refine ww_iload_n (pc := 11) hC dX12_narrow_11 1 rfl ?_
    refine ww_iconst (pc := 12) hC (v := (1 : Int32)) dX12_narrow_12 (by decide) ?_
    refine ww_icmp_ne (pc := 13) hC h 23 dX12_narrow_13 (by decide) (fun h => ?_) (fun h => ?_)
    · refine ww_iload_n (pc := 23) hC dX12_narrow_23 1 rfl ?_
      refine ww_iconst (pc := 24) hC (v := (2 : Int32)) dX12_narrow_24 (by decide) ?_
      refine ww_icmp_ne (pc := 25) hC h 34 dX12_narrow_25 (by decide) (fun h => ?_) (fun h => ?_)
      · refine ww_iload_n (pc := 34) hC dX12_narrow_34 1 rfl ?_
        refine ww_iconst (pc := 35) hC (v := (4 : Int32)) dX12_narrow_35 (by decide) ?_
        refine ww_icmp_ne (pc := 36) hC h 53 dX12_narrow_36 (by decide) (fun h => ?_) (fun h => ?_)
        · refine ww_lload_n (pc := 53) hC dX12_narrow_53 2 rfl ?_
          exact ww_lret (pc := 54) hC hr (ret_r h) dX12_narrow_54
        · refine ww_lload_n (pc := 39) hC dX12_narrow_39 2 rfl ?_
          refine ww_lconst (pc := 40) hC (v := (0 : Int64)) dX12_narrow_40 (by decide) ?_
          refine ww_lcmp (pc := 41) hC dX12_narrow_41 ?_
          refine ww_if_eq (pc := 42) hC h 49 dX12_narrow_42 (by decide) (fun h => ?_) (fun h => ?_)
          · refine ww_lconst (pc := 49) hC (v := (0 : Int64)) dX12_narrow_49 (by decide) ?_
            refine ww_goto (pc := 50) hC 54 dX12_narrow_50 (by decide) ?_
            exact ww_lret (pc := 54) hC hr (ret_r h) dX12_narrow_54
          · refine ww_lconst (pc := 45) hC (v := (1 : Int64)) dX12_narrow_45 (by decide) ?_
            refine ww_goto (pc := 46) hC 54 dX12_narrow_46 (by decide) ?_
            exact ww_lret (pc := 54) hC hr (ret_r h) dX12_narrow_54
      · refine ww_lload_n (pc := 28) hC dX12_narrow_28 2 rfl ?_
        refine ww_l2i (pc := 29) hC dX12_narrow_29 ?_
        refine ww_i2l (pc := 30) hC dX12_narrow_30 ?_
        refine ww_goto (pc := 31) hC 54 dX12_narrow_31 (by decide) ?_
        exact ww_lret (pc := 54) hC hr (ret_r h) dX12_narrow_54
    · refine ww_lload_n (pc := 16) hC dX12_narrow_16 2 rfl ?_
      refine ww_l2i (pc := 17) hC dX12_narrow_17 ?_
      refine ww_i2s (pc := 18) hC dX12_narrow_18 ?_
      refine ww_i2l (pc := 19) hC dX12_narrow_19 ?_
      refine ww_goto (pc := 20) hC 54 dX12_narrow_20 (by decide) ?_
      exact ww_lret (pc := 54) hC hr (ret_r h) dX12_narrow_54
  · refine ww_lload_n (pc := 4) hC dX12_narrow_4 2 rfl ?_
    refine ww_l2i (pc := 5) hC dX12_narrow_5 ?_
    refine ww_i2b (pc := 6) hC dX12_narrow_6 ?_
    refine ww_i2l (pc := 7) hC dX12_narrow_7 ?_
    refine ww_goto (pc := 8) hC 54 dX12_narrow_8 (by decide) ?_
    exact ww_lret (pc := 54) hC hr (ret_r h) dX12_narrow_54
