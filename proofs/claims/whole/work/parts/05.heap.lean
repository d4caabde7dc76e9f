/-! rows of heap instructions, returns, entries, calls -/
theorem ES.at {E : XE} {s U : State} {H : Heap} {locs : List Loc} (h : ES E s s.heap) (hS : va_S (A0 E) s.heap H locs) (hW : s.WarmedH U.vm) : ES E U H := by
  obtain ⟨h1, h2, h3, h4, h5, h6, h7, h8, h9⟩ := h
  refine ⟨vk_S.moved hW.alike (h1.kept hS.2.1), va_Z.moved hW.alike (h2.kept hS.2.1), fun i hi => vk_R.warm hW (h3 i hi), va_Zq.moved hW.alike (h4.kept hS.2.1), fun c d hc hd hn => ?_, va_AO.moved hW.alike h6, va_AO.moved hW.alike h7, va_AO.moved hW.alike h8, xAO2.moved hW.alike h9⟩
  have q := h5 c d hc hd hn
  split at q
  · rename_i e
    rw [if_pos e]
    exact va_Nw.warmC hW q
  · rename_i e
    rw [if_neg e]
    exact va_Nc.moved hW.alike q
theorem ES.same {E : XE} {u U : State} {H : Heap} (hv : U.vm = u.vm) (h : ES E u H) : ES E U H := by
  obtain ⟨h1, h2, h3, h4, h5, h6, h7, h8, h9⟩ := h
  have ha : u.vm.Alike U.vm := by rw [hv]; exact Vm.Alike.refl _
  refine ⟨vk_S.moved ha h1, va_Z.moved ha h2, fun i hi => vk_R.same hv (h3 i hi), va_Zq.moved ha h4, fun c d hc hd hn => ?_, va_AO.moved ha h6, va_AO.moved ha h7, va_AO.moved ha h8, xAO2.moved ha h9⟩
  have q := h5 c d hc hd hn
  split at q
  · rename_i e
    rw [if_pos e]
    exact va_Nw.same rfl hv.symm q
  · rename_i e
    rw [if_neg e]
    exact va_Nc.moved ha q
theorem XPre.blind {E : XE} {w : XW} {z : Nat} {Z : XS} {X : XD} {av : List Value} : FrameBlind (va_Pc av (XPre E w z Z X)) := fun a U g mk q => by
  obtain ⟨q1, q2, q3, q4, q5⟩ := q
  exact ⟨q1, q2, va_K.moved (u := U) (U := U.calling g mk a) (Vm.Alike.refl U.vm) q3, ES.same (u := U) (U := U.calling g mk a) rfl q4, q5⟩
section XH
variable {p : Program} {l : Launch} {e : Env} {R : Room} {s : State} {m : MethodId} {args : Array Value} {below : List Frame} {meth : Method} {c : Code} {nL : Nat} {Q : State → Prop} {E : XE} {w : XW} {cells slots z : Nat} {Z : XS} {pc : Nat} {lv : List (Nat × Value)} {rest : List Value} {X : XD} {cc : ByteArray} {own : String}
theorem XPre.of (h : CX p s m args meth c E cc nL own) {H : Heap} {locs : List Loc} (hP : PH E w z Z X H) (hS : va_S (A0 E) s.heap H locs) {U : State} (hU : U.heap = H) (hW : s.WarmedH U.vm) : XPre E w z Z X U := by
  subst hU
  exact ⟨hP, va_K.moved hW.alike h.2.2.2.2.2.1, h.2.2.2.2.2.2.2.2.at hS hW, Nat.le_trans h.2.2.2.2.2.2.2.1 hS.1⟩
theorem ww_getI (h : CX p s m args meth c E cc nL own) {i idx : Nat} (ci k : Nat) (hk : KK Z i ci) (ref : String) (hc : ci < 13) (hN : k < XN ci) (hty : fvT w Z X (XY ci k) i k = .int (X.1 i k)) (hw : Cond.fieldLink own idx ref (XT ci k).2.1 (XT ci k).2.2.1 ∈ xtb) (hs : ref = (XT ci k).1 ∨ Cond.sameField ref (XT ci k).1 (XT ci k).2.1 (XT ci k).2.2.1 ∈ xtb) (hd : decode cc pc = .ok (.getfield idx, 3))
    (kk : WW p l e R s m args below meth c nL Q E w cells slots z Z (pc + 3) lv (.int (X.1 i k) :: rest) X) : WW p l e R s m args below meth c nL Q E w cells slots z Z pc lv (.ref (w.1 i) :: rest) X := fun H locs ls hP hS hl =>
  va_get (D := E.1) (ci := ci) (C := XR ci) (T := XT ci) (N := XN ci) (v := .int (X.1 i k)) h.1 h.2.1 h.2.2.2.2.1 (xL_in ci hc) h.2.2.2.1 h.2.2.2.2.2.1 hP.1 i ((ws_get hk.1).trans (by rw [ce_o hk.2 hc])) (xCl_at ci hc) k hN (h.2.2.2.2.1 _ hw) (by
    rcases hs with rfl | hs
    · exact fun _ q => q
    · exact fun x q => u_same (h.2.2.2.2.1 _ hs) x q) (by rw [fs_get hN, hty]) hd (kk H locs ls hP hS hl)
theorem ww_getR (h : CX p s m args meth c E cc nL own) {i idx : Nat} (ci k t : Nat) (hk : KK Z i ci) (ref : String) (hc : ci < 13) (hN : k < XN ci) (hty : fvT w Z X (XY ci k) i k = va_rf ((sR Z i k).map w.1)) (hR : sR Z i k = some t) (hw : Cond.fieldLink own idx ref (XT ci k).2.1 (XT ci k).2.2.1 ∈ xtb) (hs : ref = (XT ci k).1) (hd : decode cc pc = .ok (.getfield idx, 3))
    (kk : WW p l e R s m args below meth c nL Q E w cells slots z Z (pc + 3) lv (.ref (w.1 t) :: rest) X) : WW p l e R s m args below meth c nL Q E w cells slots z Z pc lv (.ref (w.1 i) :: rest) X := fun H locs ls hP hS hl =>
  va_get (D := E.1) (ci := ci) (C := XR ci) (T := XT ci) (N := XN ci) (v := .ref (w.1 t)) h.1 h.2.1 h.2.2.2.2.1 (xL_in ci hc) h.2.2.2.1 h.2.2.2.2.2.1 hP.1 i ((ws_get hk.1).trans (by rw [ce_o hk.2 hc])) (xCl_at ci hc) k hN (h.2.2.2.2.1 _ hw) (by subst hs; exact fun _ q => q) (by rw [fs_get hN, hty, hR]; rfl) hd (kk H locs ls hP hS hl)
theorem PH.in {H : Heap} (hP : PH E w z Z X H) {i : Nat} (hi : i < sn Z) : A0 E (w.1 i) := hP.2.1.2 i _ (ws_get hi)
/-- what a store leaves -/
theorem PH.put {E : XE} {w : XW} {z : Nat} {Z Z' : XS} {X X' : XD} {H H1 : Heap} {i : Nat} (hP : PH E w z Z X H) (hi : i < sn Z) (hz : sn Z' = sn Z) (he : va_at E.1 xCl (w.1 i, ceOf E w Z' X' i) H1) (ho : ∀ j, j ≠ i → ceOf E w Z' X' j = ceOf E w Z X j) (z1 : H1.size = H.size) (oq : ∀ q : Nat, q ≠ w.1 i → H1[q]? = H[q]?) : PH E w z Z' X' H1 := by
  have e := ws_set (E := E) (w := w) (X := X) (X' := X') hi hz rfl ho
  refine ⟨?_, ?_, z1.trans hP.2.2⟩
  · have q := hP.1.set hP.2.1 (ws_get hi) he oq
    rw [e] at q
    exact q
  · have q := hP.2.1.set (e := ceOf E w Z' X' i) (ws_get hi)
    rw [e] at q
    exact q
theorem ww_putI (h : CX p s m args meth c E cc nL own) {i idx : Nat} {v : Int32} (ci k : Nat) (hk : KK Z i ci) (ref : String) (hc : ci < 13) (hN : k < XN ci) (hty : fvT w Z (wI X i k v) (XY ci k) i k = .int ((wI X i k v).1 i k)) (hw : Cond.fieldLink own idx ref (XT ci k).2.1 (XT ci k).2.2.1 ∈ xtb) (hs : ref = (XT ci k).1) (hfin : (XT ci k).2.2.2 = false) (hn : narrow (XY ci k) (.int v) = .int v) (hfit : fits (XY ci k) (.int v) = true) (hd : decode cc pc = .ok (.putfield idx, 3))
    (kk : WW p l e R s m args below meth c nL Q E w cells slots z Z (pc + 3) lv rest (wI X i k v)) : WW p l e R s m args below meth c nL Q E w cells slots z Z pc lv (.int v :: .ref (w.1 i) :: rest) X := by
  intro H locs ls hP hS hl
  have hap := va_apart (own := own) (D := E.1) h.2.2.2.2.1 (xL_in ci hc) (XY ci) (xY_ok ci hc) (xM_ok ci hc) h.2.2.2.2.2.1 (xCl_at ci hc)
  have he := hP.1 i _ ((ws_get hk.1).trans (by rw [ce_o hk.2 hc]))
  obtain ⟨r, h1, cell, q1, q2, q3, q4⟩ := he
  have hr : r = (XR ci, XT ci, XN ci) := Option.some.inj (h1.symm.trans (xCl_at ci hc))
  subst hr
  obtain ⟨hS1, hfc, kC, hkC, hkind⟩ := h.2.2.2.2.2.1.1 ci _ (xCl_at ci hc)
  obtain ⟨cf, kf, fi, f, hi, hsl⟩ := hS1 k hN
  have hlay := h.2.2.2.2.1 _ (xL_in ci hc _ (u_in_lay hN))
  unfold u_lay at hlay
  rw [if_neg (by rw [hfin]; decide)] at hlay
  have hst := (u_facts hfc hkC (u_lays h.2.2.2.2.1 (xL_in ci hc) hN) hi).1
  have h6 := u_store hfc hkC hkind hlay hi (xY_ok ci hc k hN) hn hfit
  refine W.putK h.1 h.2.1 (f := f) ⟨h.2.2.2.1, h.2.2.2.2.1 _ hw, ⟨_, _, _, by rw [hs]; exact hi⟩, hst⟩ (by rw [q2]; exact h6) q1 q3 (by rw [hsl]; exact k2_hasslot (q4 k hN)) rfl rfl hd fun H' e1 e2 e3 => ?_
  rw [hsl] at e1 ⊢
  refine kk H' _ ls (hP.put (Z' := Z) (X' := wI X i k v) hk.1 rfl ?_ (fun j hj => ce_wI hj) e2 e3) (hS.put e2 e3 (PH.in hP hk.1)) hl
  rw [ce_o hk.2 hc, ← fs_set (w := w) (Z := Z) (Z' := Z) (X := X) (X' := wI X i k v) (c := ci) (i := i) (k := k) (v := .int v) (by rw [hty]; exact congrArg Value.int up2_s) (fun j hj => fv_wI (fun q => hj q.2))]
  exact ⟨_, xCl_at ci hc, t_OB.to (V := updV (vp_V (fsOf w Z X ci i)) k (.int v)) ⟨_, e1, q2, q3, t_set q4 hap hN (.int v)⟩ (fun j _ => vp_updV_set (by rw [fs_len]; exact hN) (.int v) j)⟩
/-- a fresh object's fields in its constructor -/
theorem ww_putF (h : CX p s m args meth c E cc nL own) {i idx : Nat} {v : Int32} (ci k : Nat) (hk : KK Z i ci) (ref : String) (hc : ci < 13) (hN : k < XN ci) (hty : fvT w Z (wI X i k v) (XY ci k) i k = .int ((wI X i k v).1 i k)) (hw : Cond.fieldLink own idx ref (XT ci k).2.1 (XT ci k).2.2.1 ∈ xtb) (hs : ref = (XT ci k).1) (hin : meth.name = "<init>") (hdecl : (XT ci k).1 = own) (hfin : (XT ci k).2.2.2 = true) (hn : narrow (XY ci k) (.int v) = .int v) (hfit : fits (XY ci k) (.int v) = true) (hd : decode cc pc = .ok (.putfield idx, 3))
    (kk : WW p l e R s m args below meth c nL Q E w cells slots z Z (pc + 3) lv rest (wI X i k v)) : WW p l e R s m args below meth c nL Q E w cells slots z Z pc lv (.int v :: .ref (w.1 i) :: rest) X := by
  intro H locs ls hP hS hl
  have hap := va_apart (own := own) (D := E.1) h.2.2.2.2.1 (xL_in ci hc) (XY ci) (xY_ok ci hc) (xM_ok ci hc) h.2.2.2.2.2.1 (xCl_at ci hc)
  have he := hP.1 i _ ((ws_get hk.1).trans (by rw [ce_o hk.2 hc]))
  obtain ⟨r, h1, cell, q1, q2, q3, q4⟩ := he
  have hr : r = (XR ci, XT ci, XN ci) := Option.some.inj (h1.symm.trans (xCl_at ci hc))
  subst hr
  obtain ⟨hS1, hfc, kC, hkC, hkind⟩ := h.2.2.2.2.2.1.1 ci _ (xCl_at ci hc)
  obtain ⟨cf, kf, fi, f, hi, hsl⟩ := hS1 k hN
  have hlay := h.2.2.2.2.1 _ (xL_in ci hc _ (u_in_lay hN))
  unfold u_lay at hlay
  rw [if_pos hfin] at hlay
  have hst := (u_facts hfc hkC (u_lays h.2.2.2.2.1 (xL_in ci hc) hN) hi).1
  have hcf : m.cls = cf := by
    obtain ⟨_, _, c', _, _, _, -, -, hf', -, -, -, hown2, -⟩ := Cond.laysFinal_spec hlay
    have e1 : c' = cf := by have := hi.symm.trans hf'; simp at this; exact this.1.symm
    rw [hdecl] at hown2
    rw [← e1]; exact Option.some.inj (h.2.2.2.1.symm.trans hown2)
  have h6 := u_fits hfc hkC hkind (Or.inr hlay) hi (xY_ok ci hc k hN) hn hfit
  refine W.putFinK h.1 h.2.1 h.2.2.2.1 (h.2.2.2.2.1 _ hw) (by rw [hs]; exact hi) hst hcf hin (by rw [q2]; exact h6) q1 q3 (by rw [hsl]; exact k2_hasslot (q4 k hN)) rfl rfl hd fun H' e1 e2 e3 => ?_
  rw [hsl] at e1 ⊢
  refine kk H' _ ls (hP.put (Z' := Z) (X' := wI X i k v) hk.1 rfl ?_ (fun j hj => ce_wI hj) e2 e3) (hS.put e2 e3 (PH.in hP hk.1)) hl
  rw [ce_o hk.2 hc, ← fs_set (w := w) (Z := Z) (Z' := Z) (X := X) (X' := wI X i k v) (c := ci) (i := i) (k := k) (v := .int v) (by rw [hty]; exact congrArg Value.int up2_s) (fun j hj => fv_wI (fun q => hj q.2))]
  exact ⟨_, xCl_at ci hc, t_OB.to (V := updV (vp_V (fsOf w Z X ci i)) k (.int v)) ⟨_, e1, q2, q3, t_set q4 hap hN (.int v)⟩ (fun j _ => vp_updV_set (by rw [fs_len]; exact hN) (.int v) j)⟩
/-! arrays -/
theorem ar_i {d : Nat} (i : Nat) (h : d = 13 ∨ d = 15) : arOf w Z X d i = (sL Z i, .inl (X.1 i)) := by
  rcases h with rfl | rfl <;> rfl
theorem ar_l (i : Nat) : arOf w Z X 14 i = (sL Z i, .inr (.inl (X.2 i))) := rfl
theorem ws_i (E : XE) {i d : Nat} (hk : i < sn Z ∧ sK Z i = d) (h : d = 13 ∨ d = 15) : (wsX E w Z X ++ w.2)[i]? = some (w.1 i, .inl (E.2.1 d, sL Z i, .inl (X.1 i))) := (ws_get hk.1).trans (by rw [ce_a hk.2 (by omega), ar_i i h])
theorem ws_l (E : XE) {i : Nat} (hk : i < sn Z ∧ sK Z i = 14) : (wsX E w Z X ++ w.2)[i]? = some (w.1 i, .inl (E.2.1 14, sL Z i, .inr (.inl (X.2 i)))) := (ws_get hk.1).trans (by rw [ce_a hk.2 (by omega)]; rfl)
theorem ws_q (E : XE) {i d : Nat} (hk : i < sn Z ∧ sK Z i = d) (h : 16 ≤ d) : (wsX E w Z X ++ w.2)[i]? = some (w.1 i, .inl (E.2.1 d, sL Z i, .inr (.inr (.inr (.inr (fun j => (sR Z i j).map w.1)))))) := (ws_get hk.1).trans (by rw [ce_a hk.2 (by omega)]; unfold arOf; rw [if_neg (by omega), if_neg (by omega)])
theorem ww_iald (h : CX p s m args meth c E cc nL own) {i n : Nat} {j : Int32} {α : Type} {f : Option α} {r : α} (hk : KA Z i 13 n) (hf : gin j n f = some r) (hd : decode cc pc = .ok (.iaload, 1))
    (kk : f = some r → WW p l e R s m args below meth c nL Q E w cells slots z Z (pc + 1) lv (.int (X.1 i j.toNatClampNeg) :: rest) X) : WW p l e R s m args below meth c nL Q E w cells slots z Z pc lv (.int j :: .ref (w.1 i) :: rest) X := fun H locs ls hP hS hl =>
  va_iald h.1 h.2.1 h.2.2.2.2.2.1 hP.1 i 13 (ws_i E ⟨hk.1, hk.2.1⟩ (Or.inl rfl)) (xTys_at (by decide) (by decide)) (by rw [hk.2.2]; exact (gin_i hf).1) hd (kk (gin_i hf).2 H locs ls hP hS hl)
theorem ww_lald (h : CX p s m args meth c E cc nL own) {i n : Nat} {j : Int32} {α : Type} {f : Option α} {r : α} (hk : KA Z i 14 n) (hf : gin j n f = some r) (hd : decode cc pc = .ok (.laload, 1))
    (kk : f = some r → WW p l e R s m args below meth c nL Q E w cells slots z Z (pc + 1) lv (.long (X.2 i j.toNatClampNeg) :: rest) X) : WW p l e R s m args below meth c nL Q E w cells slots z Z pc lv (.int j :: .ref (w.1 i) :: rest) X := fun H locs ls hP hS hl =>
  va_lald h.1 h.2.1 h.2.2.2.2.2.1 hP.1 i 14 (ws_l E ⟨hk.1, hk.2.1⟩) (xTys_at (by decide) (by decide)) (by rw [hk.2.2]; exact (gin_i hf).1) hd (kk (gin_i hf).2 H locs ls hP hS hl)
theorem ww_zald (h : CX p s m args meth c E cc nL own) {i n : Nat} {j : Int32} {α : Type} {f : Option α} {r : α} (hk : KA Z i 15 n) (hf : gin j n f = some r) (hd : decode cc pc = .ok (.baload, 1))
    (kk : f = some r → WW p l e R s m args below meth c nL Q E w cells slots z Z (pc + 1) lv (.int (X.1 i j.toNatClampNeg) :: rest) X) : WW p l e R s m args below meth c nL Q E w cells slots z Z pc lv (.int j :: .ref (w.1 i) :: rest) X := fun H locs ls hP hS hl =>
  va_zald h.1 h.2.1 h.2.2.2.2.2.1 hP.1 i 15 (ws_i E ⟨hk.1, hk.2.1⟩ (Or.inr rfl)) (xTys_at (by decide) (by decide)) (by rw [hk.2.2]; exact (gin_i hf).1) hd (kk (gin_i hf).2 H locs ls hP hS hl)
theorem arr_wI {i k d : Nat} {v : Int32} (hd : d = 13 ∨ d = 15) : (arrV (E.2.1 d) (sL Z i) (fun j => .int (X.1 i j))).setSlot k (.int v) = vp_cell (E.2.1 d) (arOf w Z (wI X i k v) d i) := by
  rw [ar_i i hd, vp_cell_i, arrV_store]
  congr 2
  funext q
  by_cases hq : q = k
  · subst hq
    simp [updV, wI, up2]
  · simp [updV, wI, up2, hq]
theorem ww_iast (h : CX p s m args meth c E cc nL own) {i n : Nat} {j v : Int32} {α : Type} {f : Option α} {r : α} (hk : KA Z i 13 n) (hf : gin j n f = some r) (hd : decode cc pc = .ok (.iastore, 1))
    (kk : f = some r → WW p l e R s m args below meth c nL Q E w cells slots z Z (pc + 1) lv rest (wI X i j.toNatClampNeg v)) : WW p l e R s m args below meth c nL Q E w cells slots z Z pc lv (.int v :: .int j :: .ref (w.1 i) :: rest) X := by
  intro H locs ls hP hS hl
  have hin := (gin_i hf).1
  refine W.iast h.1 h.2.1 (hP.1 i _ (ws_i E ⟨hk.1, hk.2.1⟩ (Or.inl rfl))) ((h.2.2.2.2.2.1.2 13 _ (xTys_at (by decide) (by decide))).1 (sL Z i) (fun j => .int (X.1 i j))) (fun q => by cases q) (by show ¬ (j < 0 ∨ (arrV _ _ _).slots.size ≤ _); rw [arrV_size, hk.2.2]; exact hin) rfl rfl hd fun H1 e1 e2 e3 => ?_
  refine kk (gin_i hf).2 H1 _ ls (hP.put (Z' := Z) (X' := wI X i j.toNatClampNeg v) hk.1 rfl ?_ (fun j hj => ce_wI hj) e2 e3) (hS.put e2 e3 (PH.in hP hk.1)) hl
  rw [ce_a hk.2.1 (by decide)]
  exact e1.trans (congrArg some (arr_wI (w := w) (Or.inl rfl)))
theorem ww_zast (h : CX p s m args meth c E cc nL own) {i n : Nat} {j v : Int32} {α : Type} {f : Option α} {r : α} (hk : KA Z i 15 n) (hv : v = 0 ∨ v = 1) (hf : gin j n f = some r) (hd : decode cc pc = .ok (.bastore, 1))
    (kk : f = some r → WW p l e R s m args below meth c nL Q E w cells slots z Z (pc + 1) lv rest (wI X i j.toNatClampNeg v)) : WW p l e R s m args below meth c nL Q E w cells slots z Z pc lv (.int v :: .int j :: .ref (w.1 i) :: rest) X := by
  intro H locs ls hP hS hl
  have hin := (gin_i hf).1
  refine W.zast h.1 h.2.1 (hP.1 i _ (ws_i E ⟨hk.1, hk.2.1⟩ (Or.inr rfl))) ((h.2.2.2.2.2.1.2 15 _ (xTys_at (by decide) (by decide))).1 (sL Z i) (fun j => .int (X.1 i j))) (fun q => by cases q) (by show ¬ (j < 0 ∨ (arrV _ _ _).slots.size ≤ _); rw [arrV_size, hk.2.2]; exact hin) rfl rfl hd fun H1 e1 e2 e3 => ?_
  have e1 : H1[w.1 i]? = some ((arrV (E.2.1 15) (sL Z i) (fun j => .int (X.1 i j))).setSlot j.toNatClampNeg (.int v)) := e1.trans (by rcases hv with rfl | rfl <;> rfl)
  refine kk (gin_i hf).2 H1 _ ls (hP.put (Z' := Z) (X' := wI X i j.toNatClampNeg v) hk.1 rfl ?_ (fun j hj => ce_wI hj) e2 e3) (hS.put e2 e3 (PH.in hP hk.1)) hl
  rw [ce_a hk.2.1 (by decide)]
  exact e1.trans (congrArg some (arr_wI (w := w) (Or.inr rfl)))
theorem ww_last (h : CX p s m args meth c E cc nL own) {i n : Nat} {j : Int32} {v : Int64} {α : Type} {f : Option α} {r : α} (hk : KA Z i 14 n) (hf : gin j n f = some r) (hd : decode cc pc = .ok (.lastore, 1))
    (kk : f = some r → WW p l e R s m args below meth c nL Q E w cells slots z Z (pc + 1) lv rest (wJ X i j.toNatClampNeg v)) : WW p l e R s m args below meth c nL Q E w cells slots z Z pc lv (.long v :: .int j :: .ref (w.1 i) :: rest) X := by
  intro H locs ls hP hS hl
  have hin := (gin_i hf).1
  refine W.last h.1 h.2.1 (hP.1 i _ (ws_l E ⟨hk.1, hk.2.1⟩)) ((h.2.2.2.2.2.1.2 14 _ (xTys_at (by decide) (by decide))).1 (sL Z i) (fun j => .long (X.2 i j))) (fun q => by cases q) (by show ¬ (j < 0 ∨ (arrV _ _ _).slots.size ≤ _); rw [arrV_size, hk.2.2]; exact hin) rfl rfl hd fun H1 e1 e2 e3 => ?_
  refine kk (gin_i hf).2 H1 _ ls (hP.put (Z' := Z) (X' := wJ X i j.toNatClampNeg v) hk.1 rfl ?_ (fun j hj => ce_wJ hj) e2 e3) (hS.put e2 e3 (PH.in hP hk.1)) hl
  rw [ce_a hk.2.1 (by decide), ar_l]
  refine e1.trans (congrArg some ?_)
  show (arrV (E.2.1 14) (sL Z i) (fun j => .long (X.2 i j))).setSlot j.toNatClampNeg (.long v) = vp_cell (E.2.1 14) (sL Z i, .inr (.inl ((wJ X i j.toNatClampNeg v).2 i)))
  rw [vp_cell_l, arrV_store]
  congr 2
  funext q
  by_cases hq : q = j.toNatClampNeg
  · subst hq
    simp [updV, wJ, up2]
  · simp [updV, wJ, up2, hq]
theorem ww_alen (h : CX p s m args meth c E cc nL own) {i n d : Nat} (v : Int32) (hk : KA Z i d n) (hd1 : 13 ≤ d) (hd2 : d < 20) (hv : Int32.ofNat n = v) (hd : decode cc pc = .ok (.arraylength, 1))
    (kk : WW p l e R s m args below meth c nL Q E w cells slots z Z (pc + 1) lv (.int v :: rest) X) : WW p l e R s m args below meth c nL Q E w cells slots z Z pc lv (.ref (w.1 i) :: rest) X := fun H locs ls hP hS hl =>
  va_alen h.1 h.2.1 h.2.2.2.2.2.1 hP.1 i d ((ws_get hk.1).trans (by rw [ce_a hk.2.1 hd1])) (xTys_at hd1 hd2) (by rw [← hv, ← hk.2.2]; unfold arOf; split <;> first | rfl | (split <;> rfl)) hd (kk H locs ls hP hS hl)
/-- a place of an array of references: known not to be null -/
theorem ww_aald (h : CX p s m args meth c E cc nL own) {i n d : Nat} {j : Int32} {α : Type} {f : Option α} {r : α} (t : Nat) (hk : KA Z i d n) (hd1 : 16 ≤ d) (hd2 : d < 20) (hf : gin j n f = some r) (hR : vp_in j n → sR Z i j.toNatClampNeg = some t) (hd : decode cc pc = .ok (.aaload, 1))
    (kk : f = some r → WW p l e R s m args below meth c nL Q E w cells slots z Z (pc + 1) lv (.ref (w.1 t) :: rest) X) : WW p l e R s m args below meth c nL Q E w cells slots z Z pc lv (.int j :: .ref (w.1 i) :: rest) X := by
  intro H locs ls hP hS hl
  have hin := (gin_i hf).1
  have hlt : j.toNatClampNeg < n := Nat.not_le.mp fun q => hin (Or.inr q)
  exact W.aald (v := .ref (w.1 t)) (ty := xTy d) h.1 h.2.1 (hP.1 i _ (ws_q E ⟨hk.1, hk.2.1⟩ hd1)) ((h.2.2.2.2.2.1.2 d _ (xTys_at (by omega) hd2)).1 (sL Z i) (fun j => va_rf ((sR Z i j).map w.1))) (by rcases (show d = 16 ∨ d = 17 ∨ d = 18 ∨ d = 19 by omega) with rfl | rfl | rfl | rfl <;> rfl) (fun q => by cases q) (by show ¬ (j < 0 ∨ (arrV _ _ _).slots.size ≤ _); rw [arrV_size, hk.2.2]; exact hin) (by show (arrV _ _ _).slots[_]? = _; rw [arrV_read _ _ (by rw [hk.2.2]; exact hlt)]; show some (va_rf ((sR Z i j.toNatClampNeg).map w.1)) = _; rw [hR hin]; rfl) rfl rfl hd (kk (gin_i hf).2 H locs ls hP hS hl)
def mto {α : Type} (o : Option Nat) (x : Option α) (k : Nat → Option α) : Option α := match o with
  | none => x
  | some t => k t
/-- a place of the array of shooters: null, or one of them -/
theorem ww_aaldS (h : CX p s m args meth c E cc nL own) {i n : Nat} {j : Int32} {α : Type} {f1 : Option α} {f2 : Nat → Option α} {r : α} (hk : KA Z i 17 n) (hS0 : ∀ (k t : Nat), sR Z i k = some t → KS Z t) (hf : gin j n (mto (sR Z i j.toNatClampNeg) f1 f2) = some r) (hd : decode cc pc = .ok (.aaload, 1))
    (kn : f1 = some r → WW p l e R s m args below meth c nL Q E w cells slots z Z (pc + 1) lv (.null :: rest) X) (ks : ∀ t : Nat, KS Z t → sR Z i j.toNatClampNeg = some t → f2 t = some r → WW p l e R s m args below meth c nL Q E w cells slots z Z (pc + 1) lv (.ref (w.1 t) :: rest) X) : WW p l e R s m args below meth c nL Q E w cells slots z Z pc lv (.int j :: .ref (w.1 i) :: rest) X := by
  intro H locs ls hP hS hl
  obtain ⟨hin, hf⟩ := gin_i hf
  have hlt : j.toNatClampNeg < n := Nat.not_le.mp fun q => hin (Or.inr q)
  refine W.aald (v := va_rf ((sR Z i j.toNatClampNeg).map w.1)) (ty := xTy 17) h.1 h.2.1 (hP.1 i _ (ws_q E ⟨hk.1, hk.2.1⟩ (by decide))) ((h.2.2.2.2.2.1.2 17 _ (xTys_at (by decide) (by decide))).1 (sL Z i) (fun j => va_rf ((sR Z i j).map w.1))) rfl (fun q => by cases q) (by show ¬ (j < 0 ∨ (arrV _ _ _).slots.size ≤ _); rw [arrV_size, hk.2.2]; exact hin) (by show (arrV _ _ _).slots[_]? = _; rw [arrV_read _ _ (by rw [hk.2.2]; exact hlt)]) rfl rfl hd ?_
  cases ho : sR Z i j.toNatClampNeg with
  | none => rw [ho] at hf; exact kn hf H locs ls hP hS hl
  | some t => rw [ho] at hf; exact ks t (hS0 _ _ ho) ho hf H locs ls hP hS hl
/-! returns -/
theorem XQ.of {H : Heap} {locs : List Loc} {X' : XD} {rv : Option Value} (hP : PH E w z Z X H) (hS : va_S (A0 E) s.heap H locs) (e1 : X = X') (t : State) (ht : t.heap = H) : XQ E w z Z X' rv args s (.returned rv) t := by
  subst e1
  exact ⟨⟨rfl, by rw [ht]; exact hP⟩, hS.F ht⟩
theorem ww_iret (h : CX p s m args meth c E cc nL own) {x r : Int32} {X' : XD} (hr : meth.sig.returnType = some .int) (hf : some (x, X) = some (r, X')) (hd : decode cc pc = .ok (.ireturn, 1)) : WW p l e R s m args below meth c nL (MQ below (XQ E w z Z X' (some (.int r))) args s cells slots (A0 E)) E w cells slots z Z pc lv [.int x] X := fun H locs ls hP hS hl => by
  have hlocks := h.2.2.2.2.2.2.1
  obtain ⟨rfl, rfl⟩ := Prod.mk.inj (Option.some.inj hf)
  exact W.iret h.1 h.2.1 hr (fun t ht _ => XQ.of hP hS rfl t ht) hS.2.2 hd
theorem ww_zret (h : CX p s m args meth c E cc nL own) {x r : Int32} {X' : XD} {ty : FieldType} (hr : meth.sig.returnType = some ty) (hn : narrow ty (.int x) = .int x) (hf : some (x, X) = some (r, X')) (hd : decode cc pc = .ok (.ireturn, 1)) : WW p l e R s m args below meth c nL (MQ below (XQ E w z Z X' (some (.int r))) args s cells slots (A0 E)) E w cells slots z Z pc lv [.int x] X := fun H locs ls hP hS hl => by
  have hlocks := h.2.2.2.2.2.2.1
  obtain ⟨rfl, rfl⟩ := Prod.mk.inj (Option.some.inj hf)
  exact W.zret h.1 h.2.1 hr hn (fun t ht _ => XQ.of hP hS rfl t ht) hS.2.2 hd
theorem ww_lret (h : CX p s m args meth c E cc nL own) {x r : Int64} {X' : XD} (hr : meth.sig.returnType = some .long) (hf : some (x, X) = some (r, X')) (hd : decode cc pc = .ok (.lreturn, 1)) : WW p l e R s m args below meth c nL (MQ below (XQ E w z Z X' (some (.long r))) args s cells slots (A0 E)) E w cells slots z Z pc lv [.long x] X := fun H locs ls hP hS hl => by
  have hlocks := h.2.2.2.2.2.2.1
  obtain ⟨rfl, rfl⟩ := Prod.mk.inj (Option.some.inj hf)
  exact W.lret h.1 h.2.1 hr (fun t ht _ => XQ.of hP hS rfl t ht) hS.2.2 hd
theorem ww_vret (h : CX p s m args meth c E cc nL own) {u r : Unit} {X' : XD} (hr : meth.sig.returnType = none) (hf : some (u, X) = some (r, X')) (hd : decode cc pc = .ok (.return_, 1)) : WW p l e R s m args below meth c nL (MQ below (XQ E w z Z X' none) args s cells slots (A0 E)) E w cells slots z Z pc lv [] X := fun H locs ls hP hS hl => by
  have hlocks := h.2.2.2.2.2.2.1
  obtain ⟨-, rfl⟩ := Prod.mk.inj (Option.some.inj hf)
  exact W.vret h.1 h.2.1 hr (fun t ht _ => XQ.of hP hS rfl t ht) hS.2.2 hd
theorem ww_aret (h : CX p s m args meth c E cc nL own) {v v' : Value} {X' : XD} {rt : FieldType} (hr : meth.sig.returnType = some rt) (hrt : (∃ n, rt = .object n) ∨ ∃ t, rt = .array t) (hv : v = .null ∨ ∃ a, v = .ref a) (he : v = v') (hX : X = X') (hd : decode cc pc = .ok (.areturn, 1)) : WW p l e R s m args below meth c nL (MQ below (XQ E w z Z X' (some v')) args s cells slots (A0 E)) E w cells slots z Z pc lv [v] X := fun H locs ls hP hS hl => by
  have hlocks := h.2.2.2.2.2.2.1
  subst he
  exact W.aret h.1 h.2.1 hr hrt hv (fun t ht _ => XQ.of hP hS hX t ht) hS.2.2 hd
/-! a method's start -/
theorem ct_of {y : MethodName} {b : ByteArray} {ml : Nat} {ret : Option FieldType} {rm : Room} {mc ms : Nat} {av : List Value} {z z' : Nat} {Z Z' : XS} {X X' : XD} {rv : Option Value} (hy : plainName y.cls = true) (hav : (lg_sl av).length ≤ ml)
    (k : ∀ (p : Program) (e : Env) (s : State) (m : MethodId) (args : Array Value) (below : List Frame) (meth : Method) (c : Code), CX p s m args meth c E b ml y.cls → meth.sig.returnType = ret → meth.name = y.name → args = av.toArray → WW p l e rm s m args below meth c ml (MQ below (XQ E w z' Z' X' rv) args s mc ms (A0 E)) E w 0 0 z Z 0 (lv_args 0 av) [] X) : Ct l E w y (wsM y b ml ret) rm mc ms av z z' Z Z' X X' rv := by
  refine Met.ofW (cc := b) (maxL := ml) (ret := ret) hy rfl ?_
  intro p e s m args below meth c s₁ B hml hv
  obtain ⟨hav2, hP, hK, hE, hB⟩ := hv
  have hts := atoms_spec (ws := wsM y b ml ret) B.pre
  have hin : meth.name = y.name := (name_of_methodNamed B.named B.method).1
  have hC : CX p s m args meth c E b ml y.cls := ⟨B.exec, B.bytes, hml, findClass_of_methodNamed B.named, fun w hw => hts w (List.mem_cons_of_mem _ hw), hK, B.notSynchronized, hB, hE⟩
  have K := k p e s m args below meth c hC B.returns hin hav2
  have hl := lv_entry av hav
  subst hav2
  rw [lg_entry_eq]
  exact K s.heap [] _ hP va_S.rf hl
/-! calls -/
theorem ww_run {mc ms z' : Nat} {Z' : XS} {X' : XD} {rv : Option Value} {st : List Value} {a : Array Value} (hr : ∀ (H : Heap) (locs : List Loc) (ls : Array Slot), PH E w z Z X H → va_S (A0 E) s.heap H locs → lv_has ls nL lv → va_Run p l e R s m args below meth c H locs cells slots mc ms (F0 m pc ls st) rest (XQ E w z' Z' X' rv a) (A0 E))
    (kk : WW p l e R s m args below meth c nL Q E w (cells + mc) (slots + ms) z' Z' (pc + 3) lv (rv.toList ++ rest) X') : WW p l e R s m args below meth c nL Q E w cells slots z Z pc lv st X := by
  intro H locs ls hP hS hl T hT Xs
  obtain ⟨v, st₀, t, T', L, h0, X', hL, e1, e2, ⟨⟨hv, hPH⟩, hz, hk⟩, st⟩ := hr H locs ls hP hS hl T hT Xs
  cases hv
  rw [h0] at hz hk
  obtain ⟨t2, a1, b1⟩ := kk T'.heap (locs ++ L) ls (by rw [e1]; exact hPH) ⟨Nat.le_trans hS.1 (by rw [e1]; exact hz), fun q h1 h2 => by rw [e1, hk q (Nat.lt_of_lt_of_le h1 hS.1) h2]; exact hS.2.1 q h1 h2, fun q hq => by
    rcases List.mem_append.mp hq with h | h
    · exact hS.2.2 q h
    · exact hL q h⟩ hl T' rfl X'
  exact ⟨t2, st t2 a1, b1⟩
theorem x_room {k ml mc ms : Nat} (hR : k + 1 ≤ R.frames ∧ 60 * (k + 1) ≤ R.locals) (hml : ml ≤ 41) : (rmX k mc ms).frames + 1 ≤ R.frames ∧ 8 + (ml + 11) + (rmX k mc ms).locals ≤ R.locals := ⟨hR.1, by have := hR.2; show 8 + (ml + 11) + 60 * k ≤ R.locals; omega⟩
theorem ww_callV {st : List Value} (h : CX p s m args meth c E cc nL own) {i ci k ml idx n mc ms z' : Nat} {y : MethodName} {b : ByteArray} {ret : Option FieldType} {Z' : XS} {X' : XD} {rv : Option Value} (As : List Value) (hi : i < sn Z) (hci : sK Z i = ci) (hci2 : ci < 13)
    (hM : Ct l E w y (wsM y b ml ret) (rmX k mc ms) mc ms (.ref (w.1 i) :: As) z z' Z Z' X X' rv) (w1 : Cond.methodLink own idx y ∈ xtb) (w2 : Cond.instanceMethod y ∈ xtb) (w3 : Cond.selects (XR ci) y y ∈ xtb) (w4 : Cond.initialized (XR ci) ∈ xtb) (w5 : Cond.code y b ml ret ∈ xtb) (hy : y.cls = XR ci)
    (hdd : y.cls ≠ "java/lang/invoke/MethodHandle" ∧ y.cls ≠ "java/lang/invoke/VarHandle" ∧ (parseMethodDescriptor y.desc).map (fun d => d.parameters.length) = some n) (hn : As.length = n) (hR : k + 1 ≤ R.frames ∧ 60 * (k + 1) ≤ R.locals) (hml : ml ≤ 41) (hst : (rest.map fun v => v.category).sum ≤ 8) (hd : decode cc pc = .ok (.invokevirtual idx, 3)) (hf : cells + mc ≤ R.cells ∧ slots + ms ≤ R.slots) (hs : st = As.reverse ++ .ref (w.1 i) :: rest)
    (kk : WW p l e R s m args below meth c nL Q E w (cells + mc) (slots + ms) z' Z' (pc + 3) lv (rv.toList ++ rest) X') : WW p l e R s m args below meth c nL Q E w cells slots z Z pc lv st X := by
  subst hs
  refine ww_run (a := (Value.ref (w.1 i) :: As).toArray) (fun H locs ls hP hS hl => ?_) kk
  have hG : GoodIn xtb (wsV own idx (XR ci) y (wsM y b ml ret)) := by
    intro q hq
    unfold wsV at hq
    rcases List.mem_append.mp hq with hq | hq
    · have hq2 : q ∈ xtb := by
        simp only [List.mem_cons, List.not_mem_nil, or_false] at hq
        rcases hq with rfl | rfl | rfl | rfl
        · exact w1
        · exact w2
        · exact w3
        · exact w4
      exact ⟨hq2, good_of_word (List.mem_filter.mp hq2).2⟩
    · exact wsM_good w5 q hq
  exact va_runV (As := As) (rest := rest) (n := n) ⟨h.1, h.2.1, h.2.2.1, h.2.2.2.1, h.2.2.2.2.1⟩ hM (cwV n h.2.2.2.2.1 hG rfl rfl rfl ⟨hy, hdd⟩ (x_room hR hml)) ⟨XPre.blind, va_recv h.2.2.2.2.2.1 hP.1 (ci := ci) (q0 := i) (xCl_at ci hci2) ((ws_get hi).trans (by rw [ce_o hci hci2])), fun U hU hW => ⟨rfl, XPre.of h hP hS hU hW⟩⟩ rfl hn hl.1 rfl (lv_room hst) hd hf
end XH
