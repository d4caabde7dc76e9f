section XI
variable {p : Program} {l : Launch} {e : Env} {R : Room} {s : State} {m : MethodId} {args : Array Value} {below : List Frame} {meth : Method} {c : Code} {nL : Nat} {Q : State → Prop} {E : XE} {w : XW} {cells slots z : Nat} {Z : XS} {pc : Nat} {lv : List (Nat × Value)} {rest : List Value} {X : XD} {cc : ByteArray} {own : String}
variable {i ci k ml idx n mc ms z' : Nat} {y x : MethodName} {b : ByteArray} {ret : Option FieldType} {Z' : XS} {X' : XD} {rv : Option Value} {st : List Value} {owner : String}
theorem x_goods {ws1 ws2 : List Cond} (h1 : ∀ q ∈ ws1, q ∈ xtb) (h2 : GoodIn xtb ws2) : GoodIn xtb (ws1 ++ ws2) := fun q hq => (List.mem_append.mp hq).elim (fun h => ⟨h1 q h, good_of_word (List.mem_filter.mp (h1 q h)).2⟩) (h2 q)
theorem ww_callS (h : CX p s m args meth c E cc nL own) (As : List Value)
    (hM : Ct l E w y (wsM y b ml ret) (rmX k mc ms) mc ms As z z' Z Z' X X' rv) (w1 : Cond.methodLink own idx y ∈ xtb) (w2 : Cond.static y ∈ xtb) (w4 : Cond.initialized y.cls ∈ xtb) (w5 : Cond.code y b ml ret ∈ xtb)
    (hdd : y.cls ≠ "java/lang/invoke/MethodHandle" ∧ y.cls ≠ "java/lang/invoke/VarHandle" ∧ (parseMethodDescriptor y.desc).map (fun d => d.parameters.length) = some n) (hn : As.length = n) (hR : k + 1 ≤ R.frames ∧ 60 * (k + 1) ≤ R.locals) (hml : ml ≤ 41) (hst : (rest.map fun v => v.category).sum ≤ 8) (hd : decode cc pc = .ok (.invokestatic idx, 3)) (hf : cells + mc ≤ R.cells ∧ slots + ms ≤ R.slots) (hs : st = As.reverse ++ rest)
    (kk : WW p l e R s m args below meth c nL Q E w (cells + mc) (slots + ms) z' Z' (pc + 3) lv (rv.toList ++ rest) X') : WW p l e R s m args below meth c nL Q E w cells slots z Z pc lv st X := by
  subst hs
  refine ww_run (a := As.toArray) (fun H locs ls hP hS hl => ?_) kk
  have hG : GoodIn xtb (va_wsS own idx y (wsM y b ml ret)) := x_goods (by
    intro q hq
    simp only [List.mem_cons, List.not_mem_nil, or_false] at hq
    rcases hq with rfl | rfl | rfl
    · exact w1
    · exact w2
    · exact w4) (wsM_good w5)
  exact va_runS (As := As) (rest := rest) (n := n) ⟨h.1, h.2.1, h.2.2.1, h.2.2.2.1, h.2.2.2.2.1⟩ hM (va_cwS n h.2.2.2.2.1 hG rfl rfl rfl hdd (x_room hR hml)) ⟨XPre.blind, fun U hU hW => ⟨rfl, XPre.of h hP hS hU hW⟩⟩ rfl hn hl.1 rfl (lv_room hst) hd hf
/-- <init> -/
theorem ww_callI (h : CX p s m args meth c E cc nL own) (As : List Value)
    (hM : Ct l E w y (wsM y b ml none) (rmX k mc ms) mc ms (.ref (w.1 i) :: As) z z' Z Z' X X' none) (w1 : Cond.methodLink own idx y ∈ xtb) (w2 : Cond.instanceMethod y ∈ xtb) (w4 : Cond.initialized y.cls ∈ xtb) (w5 : Cond.code y b ml none ∈ xtb) (hy : y.name = "<init>")
    (hdd : y.cls ≠ "java/lang/invoke/MethodHandle" ∧ y.cls ≠ "java/lang/invoke/VarHandle" ∧ (parseMethodDescriptor y.desc).map (fun d => d.parameters.length) = some n) (hn : As.length = n) (hR : k + 1 ≤ R.frames ∧ 60 * (k + 1) ≤ R.locals) (hml : ml ≤ 41) (hst : (rest.map fun v => v.category).sum ≤ 8) (hd : decode cc pc = .ok (.invokespecial idx, 3)) (hf : cells + mc ≤ R.cells ∧ slots + ms ≤ R.slots) (hs : st = As.reverse ++ .ref (w.1 i) :: rest)
    (kk : WW p l e R s m args below meth c nL Q E w (cells + mc) (slots + ms) z' Z' (pc + 3) lv rest X') : WW p l e R s m args below meth c nL Q E w cells slots z Z pc lv st X := by
  subst hs
  refine ww_run (rv := none) (mc := mc) (ms := ms) (z' := z') (Z' := Z') (X' := X') (a := (Value.ref (w.1 i) :: As).toArray) (fun H locs ls hP hS hl => ?_) kk
  exact va_runI (As := As) (rest := rest) (n := n) ⟨h.1, h.2.1, h.2.2.1, h.2.2.2.1, h.2.2.2.2.1⟩ hM (cwI n h.2.2.2.2.1 (wsM_good w5) rfl rfl rfl (h.2.2.2.2.1 _ w4) (h.2.2.2.2.1 _ w1) (h.2.2.2.2.1 _ w2) hy hdd (x_room hR hml)) ⟨XPre.blind, fun U hU hW => ⟨rfl, XPre.of h hP hS hU hW⟩⟩ rfl hn hl.1 rfl (lv_room hst) hd hf
/-- Object() -/
theorem ww_objInit (h : CX p s m args meth c E cc nL own) {a : Nat} (w1 : Cond.methodLink own idx objectInit ∈ xtb) (w2 : Cond.instanceMethod objectInit ∈ xtb) (w3 : Cond.code objectInit ⟨#[0xb1]⟩ 1 none ∈ xtb) (hd : decode cc pc = .ok (.invokespecial idx, 3)) (hR : 1 ≤ R.frames ∧ 60 ≤ R.locals) (hst : (rest.map fun v => v.category).sum ≤ 8)
    (kk : WW p l e R s m args below meth c nL Q E w cells slots z Z (pc + 3) lv rest X) : WW p l e R s m args below meth c nL Q E w cells slots z Z pc lv (.ref a :: rest) X := fun H locs ls hP hS hl =>
  W.objInit h.1 h.2.1 h.2.2.2.1 (h.2.2.2.2.1 _ w1) (h.2.2.2.2.1 _ w2) (h.2.2.2.2.1 _ w3) rfl (by rw [h.2.2.1]; exact hl.1) rfl hd hR.1 (by show 2 * 0 + _ + 12 ≤ _; have := hR.2; omega) (kk H locs ls hP hS hl)
/-- a method that the receiver's class selects for x -/
theorem ww_callO (h : CX p s m args meth c E cc nL own) (As : List Value) (hi : i < sn Z) (hci : sK Z i = ci) (hci2 : ci < 13)
    (hM : Ct l E w y (wsM y b ml ret) (rmX k mc ms) mc ms (.ref (w.1 i) :: As) z z' Z Z' X X' rv) (w1 : Cond.methodLink own idx x ∈ xtb) (w2 : Cond.sameMethod x.cls owner x.name x.desc ∈ xtb) (w3 : Cond.instanceMethod ⟨owner, x.name, x.desc⟩ ∈ xtb) {b0 : ByteArray} {m0 : Nat} {r0 : Option FieldType} (w6 : Cond.code ⟨owner, x.name, x.desc⟩ b0 m0 r0 ∈ xtb)
    (w7 : Cond.selects (XR ci) x y ∈ xtb) (w8 : Cond.instanceMethod y ∈ xtb) (w4 : Cond.initialized y.cls ∈ xtb) (w5 : Cond.code y b ml ret ∈ xtb)
    (hdd : owner ≠ "java/lang/invoke/MethodHandle" ∧ owner ≠ "java/lang/invoke/VarHandle" ∧ (parseMethodDescriptor x.desc).map (fun d => d.parameters.length) = some n) (hn : As.length = n) (hR : k + 1 ≤ R.frames ∧ 60 * (k + 1) ≤ R.locals) (hml : ml ≤ 41) (hst : (rest.map fun v => v.category).sum ≤ 8) (hd : decode cc pc = .ok (.invokevirtual idx, 3)) (hf : cells + mc ≤ R.cells ∧ slots + ms ≤ R.slots) (hs : st = As.reverse ++ .ref (w.1 i) :: rest)
    (kk : WW p l e R s m args below meth c nL Q E w (cells + mc) (slots + ms) z' Z' (pc + 3) lv (rv.toList ++ rest) X') : WW p l e R s m args below meth c nL Q E w cells slots z Z pc lv st X := by
  subst hs
  refine ww_run (a := (Value.ref (w.1 i) :: As).toArray) (fun H locs ls hP hS hl => ?_) kk
  have hG : GoodIn xtb (va_wsO own idx (XR ci) owner x y (wsM y b ml ret)) := x_goods (by
    intro q hq
    simp only [List.mem_cons, List.not_mem_nil, or_false] at hq
    rcases hq with rfl | rfl | rfl | rfl | rfl | rfl
    · exact w1
    · exact w2
    · exact w3
    · exact w7
    · exact w8
    · exact w4) (wsM_good w5)
  exact va_runU (As := As) (rest := rest) (n := n) ⟨h.1, h.2.1, h.2.2.1, h.2.2.2.1, h.2.2.2.2.1⟩ hM (va_cwO n h.2.2.2.2.1 hG rfl rfl rfl w6 hdd (x_room hR hml)) ⟨XPre.blind, va_recv h.2.2.2.2.2.1 hP.1 (ci := ci) (q0 := i) (xCl_at ci hci2) ((ws_get hi).trans (by rw [ce_o hci hci2])), fun U hU hW => ⟨rfl, XPre.of h hP hS hU hW⟩⟩ rfl hn hl.1 rfl (lv_room hst) hd hf
theorem x_callSU {T : State} {locs : List Loc} (X : Stand p l e R s m args below meth c T locs cells slots) (hexec : p.tables.exec = Jvm.exec) {index maxL : Nat} {bytes : ByteArray}
    (hown : s.vm.findClass own = some m.cls) (hlink : (Cond.methodLink own index x).before args s = true) (hsame : (Cond.sameMethod x.cls owner x.name x.desc).before args s = true) (hsup : (Cond.superclass own x.cls).before args s = true) (hup : x.cls = owner ∨ (Cond.superclass x.cls owner).before args s = true) (hyx : y = ⟨owner, x.name, x.desc⟩)
    (hinst : (Cond.instanceMethod y).before args s = true) (hcode : (Cond.code y bytes maxL ret).before args s = true) (hno : x.name ≠ "<init>")
    {W : Nat} {Pre : Pt → Array Value → Prop} {Post : Pt → Array Value → Option Value → Pt → Prop} (hK : Back l R p e below s args y 3 W Pre Post)
    {b : Addr} {cellB : Cell} {kB : Class} (hcell : T.heap[b]? = some cellB) (hobj : cellB.vm.isStatics = false) (hkB : s.vm.classes[cellB.cls]? = some kB)
    {g : JFrame} (hg : g.method = m) (hsize : g.locals.size = c.maxLocals) {argsL rest : List Value} (hlen : ∀ sig, parseMethodDescriptor y.desc = some sig → argsL.length = sig.parameters.length)
    (hstack : g.stack = argsL.reverse ++ .ref b :: rest) (hW : 2 * g.monitorRoom + (rest.map fun v => v.category).sum ≤ W) (hdg : decode c.code g.pc = .ok (.invokespecial index, 3))
    (hpre : ∀ vm₁, s.WarmedH vm₁ → Pre ⟨T.setVm vm₁, locs, cells, slots⟩ (Value.ref b :: argsL).toArray) :
    ∃ (v : Option Value) (vm₁ : Vm) (B : Pt), s.WarmedH vm₁ ∧ Stand p l e R s m args below meth c B.U B.locs B.cells B.slots ∧ Post ⟨T.setVm vm₁, locs, cells, slots⟩ (Value.ref b :: argsL).toArray v B ∧
      ∀ target, Steps p.tables e below (B.U.setTop { g with pc := g.pc + 3, stack := v.toList ++ rest }) target → Steps p.tables e below (T.setTop g) target := by
  obtain ⟨mk, methM, hnamed, hmethM, hstM, habM⟩ := Cond.instanceMethod_spec hinst
  obtain ⟨methM', cM, hmethM', -, -, -, -, -, -, hsigM⟩ := Cond.code_spec hnamed hcode
  cases hmethM.symm.trans hmethM'
  obtain ⟨ps, dk, kp, hps, hdk, hkp, hsuper, -, -, hnid⟩ := Cond.superclass_spec hown hsup
  have hn : s.methodNamed? ⟨owner, x.name, x.desc⟩ = some mk := by rw [← hyx]; exact hnamed
  have hmo : s.vm.findClass owner = some mk.cls := by
    have := findClass_of_methodNamed hnamed
    rw [hyx] at this
    exact this
  have hsub : s.vm.isSubclass ps mk.cls = true := by
    rcases hup with e1 | h1
    · have hpm : ps = mk.cls := Option.some.inj (hps.symm.trans (by rw [e1]; exact hmo))
      rw [hpm]; simp [Vm.isSubclass, Vm.isSubclassAux]
    · obtain ⟨ps2, dk2, kp2, hps2, hdk2, hkp2, hsuper2, -, -, -⟩ := Cond.superclass_spec hps h1
      have hpm : ps2 = mk.cls := Option.some.inj (hps2.symm.trans hmo)
      subst hpm
      have hlt : ps < s.vm.classes.size := (Array.getElem?_eq_some_iff.mp hdk2).1
      have hz : ∃ k, s.vm.classes.size = k + 1 := Nat.exists_eq_succ_of_ne_zero (Nat.ne_of_gt (Nat.lt_of_le_of_lt (Nat.zero_le _) hlt))
      obtain ⟨k, hz⟩ := hz
      simp [Vm.isSubclass, Vm.isSubclassAux, hdk2, hsuper2, hz]
  obtain ⟨vm₁, X₁, hstep₁⟩ := X.invokespecialUp hexec hown hlink hsame hn hmethM hstM habM hno hdk hnid hps hsuper hsub (a := b) (cell := cellB) hcell
    (fun z h => by rw [h] at hobj; cases hobj) hkB (g := g) hg (argsL := argsL) (rest := rest) (hlen _ hsigM) hstack hdg
  obtain ⟨v, B, X', hpost, hsteps⟩ := hK m meth c ⟨T.setVm vm₁, locs, cells, slots⟩ { g with stack := rest } (.invokespecial index) mk (Value.ref b :: argsL).toArray X₁ hg hsize hdg hW (X₁.named hnamed) (hpre vm₁ X₁.warmed)
  exact ⟨v, vm₁, B, X₁.warmed, X', hpost, fun target h => hstep₁ _ (by rw [doInvoke_state]; exact hsteps.trans h)⟩
/-- super.m(..) -/
theorem ww_callSU (h : CX p s m args meth c E cc nL own) (As : List Value) (hi : i < sn Z) (hci2 : sK Z i < 13)
    (hM : Ct l E w y (wsM y b ml ret) (rmX k mc ms) mc ms (.ref (w.1 i) :: As) z z' Z Z' X X' rv) (w1 : Cond.methodLink own idx x ∈ xtb) (w2 : Cond.sameMethod x.cls owner x.name x.desc ∈ xtb) (w3 : Cond.superclass own x.cls ∈ xtb) (w6 : x.cls = owner ∨ Cond.superclass x.cls owner ∈ xtb) (hyx : y = ⟨owner, x.name, x.desc⟩)
    (w8 : Cond.instanceMethod y ∈ xtb) (w4 : Cond.initialized y.cls ∈ xtb) (w5 : Cond.code y b ml ret ∈ xtb) (hno : x.name ≠ "<init>")
    (hdd : (parseMethodDescriptor y.desc).map (fun d => d.parameters.length) = some n) (hn : As.length = n) (hR : k + 1 ≤ R.frames ∧ 60 * (k + 1) ≤ R.locals) (hml : ml ≤ 41) (hst : (rest.map fun v => v.category).sum ≤ 8) (hd : decode cc pc = .ok (.invokespecial idx, 3)) (hf : cells + mc ≤ R.cells ∧ slots + ms ≤ R.slots) (hs : st = As.reverse ++ .ref (w.1 i) :: rest)
    (kk : WW p l e R s m args below meth c nL Q E w (cells + mc) (slots + ms) z' Z' (pc + 3) lv (rv.toList ++ rest) X') : WW p l e R s m args below meth c nL Q E w cells slots z Z pc lv st X := by
  subst hs
  refine ww_run (a := (Value.ref (w.1 i) :: As).toArray) (fun H locs ls hP hS hl => ?_) kk
  obtain ⟨cellB, hcB, hoB, hclB⟩ := va_recv h.2.2.2.2.2.1 hP.1 (ci := sK Z i) (q0 := i) (xCl_at _ hci2) ((ws_get hi).trans (by rw [ce_o rfl hci2]))
  have hat := (h.2.2.2.2.2.1.1 (sK Z i) _ (xCl_at _ hci2)).2
  obtain ⟨hfc, kB, hkB, -⟩ := hat
  have ecl := Option.some.inj (hfc.symm.trans hclB)
  have hrm := x_room (mc := mc) (ms := ms) hR hml
  have hK : Back l R p e below s args y 3 8 (PreOf R mc ms _) (PostOf (XQ E w z' Z' X' rv) mc ms (A0 E)) := back_of (bytes := b) (maxL := ml) (ret := ret) hM XPre.blind rfl rfl hrm.1 hrm.2 (pay_in h.2.2.2.2.1 (wsM_good w5)) List.mem_cons_self (fun a' U hW => word_at hW (Or.inl (by first | rfl | simp [Cond.onTables, Cond.keeps, Cond.steady])) (h.2.2.2.2.1 _ w4))
  have ho : ∀ q ∈ xtb, q.before args s = true := h.2.2.2.2.1
  intro T hT Xs
  obtain ⟨v, vm₁, ⟨U', l2, c2, s2⟩, hW₁, X', ⟨g', mk, t, L, e1, e2, hq, h1, hL, h2, h3⟩, st⟩ := x_callSU Xs h.1 h.2.2.2.1 (ho _ w1) (ho _ w2) (ho _ w3) (w6.imp id (fun q => ho _ q)) hyx (ho _ w8) (ho _ w5) hno hK (by rw [hT]; exact hcB) hoB (by rw [← ecl]; exact hkB) (g := F0 m pc ls (As.reverse ++ .ref (w.1 i) :: rest)) rfl (hl.1.trans h.2.2.1.symm) (argsL := As) (rest := rest) (fun sig h9 => by
      rw [h9] at hdd
      exact hn.trans (Option.some.inj hdd).symm) rfl (lv_room hst) (by rw [h.2.1]; exact hd)
    (fun vm₁ hW₁ => ⟨hf.1, hf.2, rfl, XPre.of h hP hS hT hW₁⟩)
  dsimp only [Pt.U, Pt.locs, Pt.cells, Pt.slots] at X' e1 e2 h1 h2 h3 st
  subst h1; subst h2; subst h3
  exact ⟨v, (T.setVm vm₁).calling g' mk (Value.ref (w.1 i) :: As).toArray, t, U', L, hT, X', hL, e1, e2, hq, st⟩
/-- a shooter's own number and v -/
theorem ww_getS (h : CX p s m args meth c E cc nL own) {a : Nat} (q : Nat) (hq : q < 2) (hk : KS Z a) (ref nm : String) (hnm : (TX4 q).2.1 = nm) (hw : Cond.fieldLink own idx ref nm "I" ∈ xtb) (hs : ref = "FootKeeper$Shooter" ∨ Cond.sameField ref "FootKeeper$Shooter" nm "I" ∈ xtb) (hd : decode cc pc = .ok (.getfield idx, 3))
    (kk : WW p l e R s m args below meth c nL Q E w cells slots z Z (pc + 3) lv (.int (X.1 a q) :: rest) X) : WW p l e R s m args below meth c nL Q E w cells slots z Z pc lv (.ref (w.1 a) :: rest) X := by
  subst hnm
  obtain ⟨hn, hc⟩ := hk
  rcases (show q = 0 ∨ q = 1 by omega) with rfl | rfl <;> rcases hc with e1 | e1 | e1 | e1 | e1 | e1 | e1
  · exact ww_getI h 0 0 ⟨hn, e1⟩ ref (by decide) (by decide) rfl hw hs hd kk
  · exact ww_getI h 2 0 ⟨hn, e1⟩ ref (by decide) (by decide) rfl hw hs hd kk
  · exact ww_getI h 4 0 ⟨hn, e1⟩ ref (by decide) (by decide) rfl hw hs hd kk
  · exact ww_getI h 5 0 ⟨hn, e1⟩ ref (by decide) (by decide) rfl hw hs hd kk
  · exact ww_getI h 7 0 ⟨hn, e1⟩ ref (by decide) (by decide) rfl hw hs hd kk
  · exact ww_getI h 8 0 ⟨hn, e1⟩ ref (by decide) (by decide) rfl hw hs hd kk
  · exact ww_getI h 10 0 ⟨hn, e1⟩ ref (by decide) (by decide) rfl hw hs hd kk
  · exact ww_getI h 0 1 ⟨hn, e1⟩ ref (by decide) (by decide) rfl hw hs hd kk
  · exact ww_getI h 2 1 ⟨hn, e1⟩ ref (by decide) (by decide) rfl hw hs hd kk
  · exact ww_getI h 4 1 ⟨hn, e1⟩ ref (by decide) (by decide) rfl hw hs hd kk
  · exact ww_getI h 5 1 ⟨hn, e1⟩ ref (by decide) (by decide) rfl hw hs hd kk
  · exact ww_getI h 7 1 ⟨hn, e1⟩ ref (by decide) (by decide) rfl hw hs hd kk
  · exact ww_getI h 8 1 ⟨hn, e1⟩ ref (by decide) (by decide) rfl hw hs hd kk
  · exact ww_getI h 10 1 ⟨hn, e1⟩ ref (by decide) (by decide) rfl hw hs hd kk
theorem ww_max (h : CX p s m args meth c E cc nL own) {a d : Int32} (w1 : Cond.methodLink own idx Lib.Math.max.name ∈ xtb) (w2 : Cond.static Lib.Math.max.name ∈ xtb) (w3 : Cond.initialized "java/lang/Math" ∈ xtb) (w4 : Cond.code Lib.Math.max.name Lib.Math.max.code 2 (some .int) ∈ xtb) (hd : decode cc pc = .ok (.invokestatic idx, 3)) (hR : 1 ≤ R.frames ∧ 60 ≤ R.locals) (hst : (rest.map fun v => v.category).sum ≤ 8) (hf : cells ≤ R.cells ∧ slots ≤ R.slots)
    (kk : WW p l e R s m args below meth c nL Q E w cells slots z Z (pc + 3) lv (.int (if a < d then d else a) :: rest) X) : WW p l e R s m args below meth c nL Q E w cells slots z Z pc lv (.int d :: .int a :: rest) X := fun H locs ls hP hS hl =>
  va_mmax h.1 h.2.1 (h.2.2.1.trans hl.1.symm) h.2.2.2.1 (h.2.2.2.2.1 _ w1) (h.2.2.2.2.1 _ w2) (h.2.2.2.2.1 _ w3) (h.2.2.2.2.1 _ w4) hR.1 (by have := hR.2; omega) hf.1 hf.2 hd (kk H locs ls hP hS hl)
theorem ww_min (h : CX p s m args meth c E cc nL own) {a d : Int32} (w1 : Cond.methodLink own idx Lib.Math.min.name ∈ xtb) (w2 : Cond.static Lib.Math.min.name ∈ xtb) (w3 : Cond.initialized "java/lang/Math" ∈ xtb) (w4 : Cond.code Lib.Math.min.name Lib.Math.min.code 2 (some .int) ∈ xtb) (hd : decode cc pc = .ok (.invokestatic idx, 3)) (hR : 1 ≤ R.frames ∧ 60 ≤ R.locals) (hst : (rest.map fun v => v.category).sum ≤ 8) (hf : cells ≤ R.cells ∧ slots ≤ R.slots)
    (kk : WW p l e R s m args below meth c nL Q E w cells slots z Z (pc + 3) lv (.int (if d < a then d else a) :: rest) X) : WW p l e R s m args below meth c nL Q E w cells slots z Z pc lv (.int d :: .int a :: rest) X := fun H locs ls hP hS hl =>
  va_mmin h.1 h.2.1 (h.2.2.1.trans hl.1.symm) h.2.2.2.1 (h.2.2.2.2.1 _ w1) (h.2.2.2.2.1 _ w2) (h.2.2.2.2.1 _ w3) (h.2.2.2.2.1 _ w4) hR.1 (by have := hR.2; omega) hf.1 hf.2 hd (kk H locs ls hP hS hl)
end XI
