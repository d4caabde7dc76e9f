/-! what is made: shapes, and the rows of new, newarray, anewarray, multianewarray, stores of references -/
def newO (n : Nat) (Z : XS) (c : Nat) : XS := (n + 1, fun i => if i = n then c else sK Z i, sL Z, fun i => if i = n then fun _ => none else sR Z i)
def newA (m : Nat) (Z : XS) (d n : Nat) : XS := (m + 1, fun i => if i = m then d else sK Z i, fun i => if i = m then n else sL Z i, fun i => if i = m then fun _ => none else sR Z i)
def newM (m : Nat) (Z : XS) (n k : Nat) : XS := (m + 1 + n, fun i => if i = m then 19 else if m < i ∧ i ≤ m + n then 14 else sK Z i, fun i => if i = m then n else if m < i ∧ i ≤ m + n then k else sL Z i, fun i => if i = m then fun j => if j < n then some (m + 1 + j) else none else sR Z i)
def stR (Z : XS) (i k t : Nat) : XS := (sn Z, sK Z, sL Z, fun b j => if b = i ∧ j = k then some t else sR Z b j)
def zX (X : XD) (i : Nat) : XD := (fun q => if q = i then fun _ => 0 else X.1 q, fun q => if q = i then fun _ => 0 else X.2 q)
def zM (X : XD) (i n : Nat) : XD := (X.1, fun q => if i < q ∧ q ≤ i + n then fun _ => 0 else X.2 q)
/-- the addresses of what comes are the next ones -/
def CT (w : XW) (Z : XS) : Prop := ∀ i : Nat, w.1 (sn Z + i) = w.1 (sn Z) + i
theorem CT.s {w : XW} {Z Z' : XS} {k : Nat} (h : CT w Z) (hz : sn Z' = sn Z + k) : CT w Z' := by
  intro i
  rw [hz, Nat.add_assoc, h, h]
  omega
theorem CT.at {w : XW} {Z Z' : XS} {k : Nat} (h : CT w Z) (hz : sn Z' = sn Z + k) : w.1 (sn Z') = w.1 (sn Z) + k := by rw [hz, h]
theorem KK.o {Z : XS} {i c d : Nat} (h : KK Z i c) : KK (newO (sn Z) Z d) i c := ⟨Nat.lt_succ_of_lt h.1, (if_neg (Nat.ne_of_lt h.1)).trans h.2⟩
theorem KK.a {Z : XS} {i c d n : Nat} (h : KK Z i c) : KK (newA (sn Z) Z d n) i c := ⟨Nat.lt_succ_of_lt h.1, (if_neg (Nat.ne_of_lt h.1)).trans h.2⟩
theorem KS.o {Z : XS} {i d : Nat} (h : KS Z i) : KS (newO (sn Z) Z d) i := ⟨Nat.lt_succ_of_lt h.1, by
  have e : sK (newO (sn Z) Z d) i = sK Z i := if_neg (Nat.ne_of_lt h.1)
  rw [e]
  exact h.2⟩
theorem KA.o {Z : XS} {i c d n : Nat} (h : KA Z i c n) : KA (newO (sn Z) Z d) i c n := ⟨Nat.lt_succ_of_lt h.1, (if_neg (Nat.ne_of_lt h.1)).trans h.2.1, h.2.2⟩
theorem KA.a {Z : XS} {i c d n k : Nat} (h : KA Z i c n) : KA (newA (sn Z) Z d k) i c n := ⟨Nat.lt_succ_of_lt h.1, (if_neg (Nat.ne_of_lt h.1)).trans h.2.1, (if_neg (Nat.ne_of_lt h.1)).trans h.2.2⟩
theorem KK.new {Z : XS} {d : Nat} : KK (newO (sn Z) Z d) (sn Z) d := ⟨Nat.lt_succ_self _, if_pos rfl⟩
theorem KA.new {Z : XS} {d n : Nat} : KA (newA (sn Z) Z d n) (sn Z) d n := ⟨Nat.lt_succ_self _, if_pos rfl, if_pos rfl⟩
theorem wsX_succ {E : XE} {w : XW} {Z Z' : XS} {X X' : XD} (hn : sn Z' = sn Z + 1) (ho : ∀ i, i < sn Z → ceOf E w Z' X' i = ceOf E w Z X i) : wsX E w Z' X' = wsX E w Z X ++ [(w.1 (sn Z), ceOf E w Z' X' (sn Z))] := by
  unfold wsX
  rw [hn, List.range_succ, List.map_append]
  congr 1
  apply List.map_congr_left
  intro i hi
  rw [ho i (List.mem_range.mp hi)]
theorem PH.new1 {E : XE} {w : XW} {z : Nat} {Z Z' : XS} {X X' : XD} {H H1 : Heap} (hP : PH E w z Z X H) (hn : sn Z' = sn Z + 1) (hw : w.1 (sn Z) = z) (hb : E.2.2.1 ≤ z) (ho : ∀ i, i < sn Z → ceOf E w Z' X' i = ceOf E w Z X i) (he : va_at E.1 xCl (z, ceOf E w Z' X' (sn Z)) H1) (hs : H1.size = H.size + 1) (hk : ∀ q : Nat, q < H.size → H1[q]? = H[q]?) : PH E w (z + 1) Z' X' H1 := by
  have hz := hP.2.2
  unfold PH
  rw [wsX_succ hn ho, hw]
  have h1 : va_P E.1 xCl ((wsX E w Z X ++ w.2) ++ [(z, ceOf E w Z' X' (sn Z))]) H1 := (hP.1.kept (fun k q hq => hk q.1 (hP.1 k q hq).lt)).app (fun k q hq => by
    have h0 : k < 1 := (List.getElem?_eq_some_iff.mp hq).1
    rw [show k = 0 by omega] at hq
    cases hq
    exact he)
  have h2 : va_D (A0 E) ((wsX E w Z X ++ w.2) ++ [(z, ceOf E w Z' X' (sn Z))]) := hP.2.1.push hP.1 hz.symm hb
  exact ⟨va_P.swap h1, va_D.swap h2, by rw [hs, hz]⟩
theorem ce_lt {E : XE} {w : XW} {Z Z' : XS} {X X' : XD} {i : Nat} (h1 : sK Z' i = sK Z i) (h2 : sL Z' i = sL Z i) (h3 : sR Z' i = sR Z i) (h4 : X'.1 i = X.1 i) (h5 : X'.2 i = X.2 i) : ceOf E w Z' X' i = ceOf E w Z X i := by
  have e1 : fsOf w Z' X' (sK Z i) i = fsOf w Z X (sK Z i) i := by
    unfold fsOf
    apply List.map_congr_left
    intro q _
    unfold fvT
    rw [h3, h4, h5]
  have e2 : arOf w Z' X' (sK Z i) i = arOf w Z X (sK Z i) i := by
    unfold arOf
    rw [h2, h3, h4, h5]
  unfold ceOf
  rw [h1, e1, e2]
theorem xY_kind : ∀ c, c < 13 → ∀ k, k < XN c → (match XY c k with | .int => true | .boolean => true | .object _ => true | .array _ => true | _ => false) = true := by decide +kernel
theorem fv_new {w : XW} {Z : XS} {X : XD} {ty : FieldType} {i k : Nat} (ht : (match ty with | .int => true | .boolean => true | .object _ => true | .array _ => true | _ => false) = true) (h1 : X.1 i k = 0) (h2 : sR Z i k = none) : fvT w Z X ty i k = defaultValue ty := by
  unfold fvT
  cases ty <;> first | (cases ht; done) | (rw [h1]; rfl) | (rw [h2]; rfl)
section XN
variable {p : Program} {l : Launch} {e : Env} {R : Room} {s : State} {m : MethodId} {args : Array Value} {below : List Frame} {meth : Method} {c : Code} {nL : Nat} {Q : State → Prop} {E : XE} {w : XW} {cells slots : Nat} {Z Z' : XS} {pc : Nat} {lv : List (Nat × Value)} {rest : List Value} {X X' : XD} {cc : ByteArray} {own : String}
theorem x_base (h : CX p s m args meth c E cc nL own) {z : Nat} {H : Heap} {locs : List Loc} (hP : PH E w z Z X H) (hS : va_S (A0 E) s.heap H locs) : E.2.2.1 ≤ z := by
  rw [← hP.2.2]
  exact Nat.le_trans h.2.2.2.2.2.2.2.1 hS.1
theorem va_S.new {A : Nat → Prop} {H0 H H1 : Heap} {locs : List Loc} (hS : va_S A H0 H locs) (hs : H.size ≤ H1.size) (hk : ∀ q : Nat, q < H.size → H1[q]? = H[q]?) : va_S A H0 H1 locs := ⟨Nat.le_trans hS.1 hs, fun q h1 h2 => (hk q (Nat.lt_of_lt_of_le h1 hS.1)).trans (hS.2.1 q h1 h2), hS.2.2⟩
theorem ww_new (h : CX p s m args meth c E cc nL own) {idx n N : Nat} (ci : Nat) (hc : ci < 13) (hT : CT w Z) (hn : sn Z = n) (hN : XN ci = N) (hZ : newO n Z ci = Z') (hX : zX X n = X') (w1 : Cond.classLink own idx (XR ci) ∈ xtb) (w2 : Cond.instantiable (XR ci) N ∈ xtb) (w3 : Cond.initialized (XR ci) ∈ xtb) (hd : decode cc pc = .ok (.new idx, 3)) (hcells : cells + 1 ≤ R.cells) (hslots : slots + N ≤ R.slots)
    (kk : WW p l e R s m args below meth c nL Q E w (cells + 1) (slots + N) (w.1 (sn Z')) Z' (pc + 3) lv (.ref (w.1 n) :: rest) X') : WW p l e R s m args below meth c nL Q E w cells slots (w.1 (sn Z)) Z pc lv rest X := by
  subst hn
  subst hN
  subst hZ
  subst hX
  intro H locs ls hP hS hl
  have hKn := h.2.2.2.2.2.1.1 ci _ (xCl_at ci hc)
  refine W.newcK h.1 h.2.1 h.2.2.2.1 (h.2.2.2.2.1 _ w1) (h.2.2.2.2.1 _ w2) (h.2.2.2.2.1 _ w3) rfl hd hcells hslots hKn.2.1 hP.2.2 fun H1 kC hkC e1 z1 o1 => ?_
  have z2 : H1.size = H.size + 1 := by rw [z1, hP.2.2]
  have o2 : ∀ q : Nat, q < H.size → H1[q]? = H[q]? := fun q hq => o1 q (by rw [← hP.2.2]; exact hq)
  have hR1 : ∀ k, sR (newO (sn Z) Z ci) (sn Z) k = none := fun k => by show (if sn Z = sn Z then fun _ => none else sR Z (sn Z)) k = none; rw [if_pos rfl]
  have hX1 : ∀ k, (zX X (sn Z)).1 (sn Z) k = 0 := fun k => by show (if sn Z = sn Z then fun _ => 0 else X.1 (sn Z)) k = 0; rw [if_pos rfl]
  have hb := PH.new1 (Z' := newO (sn Z) Z ci) (X' := zX X (sn Z)) hP rfl rfl (x_base h hP hS) (fun i hi => ce_lt (if_neg (Nat.ne_of_lt hi)) rfl (if_neg (Nat.ne_of_lt hi)) (if_neg (Nat.ne_of_lt hi)) (if_neg (Nat.ne_of_lt hi))) (by
    rw [ce_o KK.new.2 hc]
    refine ⟨_, xCl_at ci hc, (u_born (XY ci) h.2.2.2.2.1 (xL_in ci hc) hKn hkC e1 (xY_ok ci hc)).to (fun j hj => ?_)⟩
    rw [← fv_new (w := w) (xY_kind ci hc j hj) (hX1 j) (hR1 j)]
    simp [vp_V, fs_get hj]) z2 o2
  rw [← hT.at (k := 1) (Z' := newO (sn Z) Z ci) rfl] at hb
  exact kk H1 locs ls hb (va_S.new hS (by omega) o2) hl
theorem ww_newa (h : CX p s m args meth c E cc nL own) {n N : Nat} {at' : ArrayType} {x : Int32} (d : Nat) (hd1 : 13 ≤ d) (hd2 : d < 16) (hty : newarray.typeOf at' = xTy d) (hT : CT w Z) (hn : sn Z = n) (hx : ¬ x < 0) (hN : x.toNatClampNeg = N) (hZ : newA n Z d N = Z') (hX : zX X n = X') (hNb : N ≤ 1000) (w1 : Cond.arrayClass (xTy d) ∈ xtb) (hd : decode cc pc = .ok (.newarray at', 2)) (hcells : cells + 1 ≤ R.cells) (hslots : slots + N ≤ R.slots)
    (kk : WW p l e R s m args below meth c nL Q E w (cells + 1) (slots + N) (w.1 (sn Z')) Z' (pc + 2) lv (.ref (w.1 n) :: rest) X') : WW p l e R s m args below meth c nL Q E w cells slots (w.1 (sn Z)) Z pc lv (.int x :: rest) X := by
  subst hn
  subst hZ
  subst hX
  intro H locs ls hP hS hl
  refine va_newaK h.1 h.2.1 (by rw [hty]; exact h.2.2.2.2.1 _ w1) rfl hd rfl hx hN (by
    rw [hty]
    rcases (show d = 13 ∨ d = 14 ∨ d = 15 by omega) with rfl | rfl | rfl
    · show N * 4 ≤ _; omega
    · show N * 8 ≤ _; omega
    · show N * 1 ≤ _; omega) hcells hslots hP.2.2 fun H1 cA1 e1 z1 o1 _ hNm => ?_
  have z2 : H1.size = H.size + 1 := by rw [z1, hP.2.2]
  have o2 : ∀ q : Nat, q < H.size → H1[q]? = H[q]? := fun q hq => o1 q (by rw [← hP.2.2]; exact hq)
  have hra := (h.2.2.2.2.2.1.2 d _ (xTys_at hd1 (by omega))).2
  have hcA : cA1 = E.2.1 d := by
    rw [hty] at hNm
    rcases (show d = 13 ∨ d = 14 ∨ d = 15 by omega) with rfl | rfl | rfl <;> exact Option.some.inj (hNm.symm.trans hra)
  subst hcA
  have hX1 : (zX X (sn Z)).1 (sn Z) = fun _ => 0 := if_pos rfl
  have hX2 : (zX X (sn Z)).2 (sn Z) = fun _ => 0 := if_pos rfl
  have hL1 : sL (newA (sn Z) Z d N) (sn Z) = N := if_pos rfl
  have hb := PH.new1 (Z' := newA (sn Z) Z d N) (X' := zX X (sn Z)) hP rfl rfl (x_base h hP hS) (fun i hi => ce_lt (if_neg (Nat.ne_of_lt hi)) (if_neg (Nat.ne_of_lt hi)) (if_neg (Nat.ne_of_lt hi)) (if_neg (Nat.ne_of_lt hi)) (if_neg (Nat.ne_of_lt hi))) (by
    rw [ce_a KA.new.2.1 hd1]
    show H1[w.1 (sn Z)]? = some (vp_cell (E.2.1 d) (arOf w (newA (sn Z) Z d N) (zX X (sn Z)) d (sn Z)))
    rw [e1, hty]
    unfold arOf
    rw [hX1, hX2, hL1]
    rcases (show d = 13 ∨ d = 14 ∨ d = 15 by omega) with rfl | rfl | rfl <;> rfl) z2 o2
  rw [← hT.at (k := 1) (Z' := newA (sn Z) Z d N) rfl] at hb
  exact kk H1 locs ls hb (va_S.new hS (by omega) o2) hl
theorem ww_anew (h : CX p s m args meth c E cc nL own) {idx n N : Nat} {C : String} {x : Int32} (d : Nat) (hd1 : 16 ≤ d) (hd2 : d < 19) (hty : xTy d = .object C) (hov : va_AO C s) (hT : CT w Z) (hn : sn Z = n) (hx : ¬ x < 0) (hN : x.toNatClampNeg = N) (hZ : newA n Z d N = Z') (hX : zX X n = X') (hNb : N ≤ 1000) (w1 : Cond.classLink own idx C ∈ xtb) (hd : decode cc pc = .ok (.anewarray idx, 3)) (hcells : cells + 1 ≤ R.cells) (hslots : slots + N ≤ R.slots)
    (kk : WW p l e R s m args below meth c nL Q E w (cells + 1) (slots + N) (w.1 (sn Z')) Z' (pc + 3) lv (.ref (w.1 n) :: rest) X') : WW p l e R s m args below meth c nL Q E w cells slots (w.1 (sn Z)) Z pc lv (.int x :: rest) X := by
  subst hn
  subst hN
  subst hZ
  subst hX
  intro H locs ls hP hS hl
  refine W.anew h.1 h.2.1 h.2.2.2.1 (h.2.2.2.2.1 _ w1) (va_AO.use hov) rfl hd rfl hx (by omega) hcells hslots fun cA1 kA comp f1 f2 f3 f4 => ?_
  generalize hH1 : H.push ({ cls := cA1, slots := Array.replicate x.toNatClampNeg .null, vm := .none } : Cell) = H1
  have z2 : H1.size = H.size + 1 := by rw [← hH1, Array.size_push]
  have e1 : H1[H.size]? = some (arrV cA1 x.toNatClampNeg (fun _ => .null)) := by rw [← hH1, Array.getElem?_push_size, ← arrV_new]
  have o2 : ∀ q : Nat, q < H.size → H1[q]? = H[q]? := fun q hq => by rw [← hH1, Array.getElem?_push, if_neg (Nat.ne_of_lt hq)]
  have hra := (h.2.2.2.2.2.1.2 d _ (xTys_at (by omega) (by omega))).2
  have hcA : cA1 = E.2.1 d := by
    rw [hty] at hra
    obtain ⟨_, _, _, _, _, g4⟩ := hra
    exact Option.some.inj (f1.symm.trans g4)
  subst hcA
  have hR1 : sR (newA (sn Z) Z d x.toNatClampNeg) (sn Z) = fun _ => none := if_pos rfl
  have hL1 : sL (newA (sn Z) Z d x.toNatClampNeg) (sn Z) = x.toNatClampNeg := if_pos rfl
  have hb := PH.new1 (Z' := newA (sn Z) Z d x.toNatClampNeg) (X' := zX X (sn Z)) hP rfl rfl (x_base h hP hS) (fun i hi => ce_lt (if_neg (Nat.ne_of_lt hi)) (if_neg (Nat.ne_of_lt hi)) (if_neg (Nat.ne_of_lt hi)) (if_neg (Nat.ne_of_lt hi)) (if_neg (Nat.ne_of_lt hi))) (by
    rw [ce_a KA.new.2.1 (by omega)]
    show H1[w.1 (sn Z)]? = some (vp_cell (E.2.1 d) (arOf w (newA (sn Z) Z d x.toNatClampNeg) (zX X (sn Z)) d (sn Z)))
    rw [← hP.2.2, e1]
    unfold arOf
    rw [if_neg (by omega), if_neg (by omega), hR1, hL1]
    rfl) z2 o2
  rw [← hT.at (k := 1) (Z' := newA (sn Z) Z d x.toNatClampNeg) rfl] at hb
  rw [show H.size = w.1 (sn Z) from hP.2.2]
  exact kk H1 locs ls hb (va_S.new hS (by omega) o2) hl
end XN
theorem ce_stR {E : XE} {w : XW} {Z : XS} {X : XD} {i k t j : Nat} (h : j ≠ i) : ceOf E w (stR Z i k t) X j = ceOf E w Z X j := ce_lt rfl rfl (by funext q; show (if j = i ∧ q = k then some t else sR Z j q) = sR Z j q; rw [if_neg (fun z => h z.1)]) rfl rfl
theorem stR_s {Z : XS} {i k t : Nat} : sR (stR Z i k t) i k = some t := if_pos ⟨rfl, rfl⟩
theorem stR_k {Z : XS} {i k t b j : Nat} (h : j ≠ k) : sR (stR Z i k t) b j = sR Z b j := if_neg (fun z => h z.2)
section XO
variable {p : Program} {l : Launch} {e : Env} {R : Room} {s : State} {m : MethodId} {args : Array Value} {below : List Frame} {meth : Method} {c : Code} {nL : Nat} {Q : State → Prop} {E : XE} {w : XW} {cells slots : Nat} {Z Z' : XS} {pc : Nat} {lv : List (Nat × Value)} {rest : List Value} {X X' : XD} {cc : ByteArray} {own : String}
theorem ww_putR (h : CX p s m args meth c E cc nL own) {i idx t : Nat} (ci k : Nat) (hk : KK Z i ci) (ref : String) (hc : ci < 13) (hN : k < XN ci) (hty : fvT w (stR Z i k t) X (XY ci k) i k = va_rf ((sR (stR Z i k t) i k).map w.1)) (hw : Cond.fieldLink own idx ref (XT ci k).2.1 (XT ci k).2.2.1 ∈ xtb) (hs : ref = (XT ci k).1) (hin : meth.name = "<init>") (hdecl : (XT ci k).1 = own) (hfin : (XT ci k).2.2.2 = true) (hn : narrow (XY ci k) (.ref (w.1 t)) = .ref (w.1 t)) (hfit : fits (XY ci k) (.ref (w.1 t)) = true) (hZ : stR Z i k t = Z') (hd : decode cc pc = .ok (.putfield idx, 3))
    (kk : WW p l e R s m args below meth c nL Q E w cells slots (w.1 (sn Z')) Z' (pc + 3) lv rest X) : WW p l e R s m args below meth c nL Q E w cells slots (w.1 (sn Z)) Z pc lv (.ref (w.1 t) :: .ref (w.1 i) :: rest) X := by
  subst hZ
  intro H locs ls hP hS hl
  have hap := va_apart (own := own) (D := E.1) h.2.2.2.2.1 (xL_in ci hc) (XY ci) (xY_ok ci hc) (xM_ok ci hc) h.2.2.2.2.2.1 (xCl_at ci hc)
  have he := hP.1 i _ ((ws_get hk.1).trans (by rw [ce_o hk.2 hc]))
  obtain ⟨r, h1, cell, q1, q2, q3, q4⟩ := he
  have hr : r = (XR ci, XT ci, XN ci) := Option.some.inj (h1.symm.trans (xCl_at ci hc))
  subst hr
  obtain ⟨hS1, hfc, kC, hkC, hkind⟩ := h.2.2.2.2.2.1.1 ci _ (xCl_at ci hc)
  obtain ⟨cf, kf, fi, f, hi, hsl⟩ := hS1 k hN
  have hlay := h.2.2.2.2.1 _ (xL_in ci hc _ (u_in_lay hN))
  unfold u_lay at hlay
  rw [if_pos hfin] at hlay
  have hst := (u_facts hfc hkC (u_lays h.2.2.2.2.1 (xL_in ci hc) hN) hi).1
  have hcf : m.cls = cf := by
    obtain ⟨_, _, c', _, _, _, -, -, hf', -, -, -, hown2, -⟩ := Cond.laysFinal_spec hlay
    have e1 : c' = cf := by have := hi.symm.trans hf'; simp at this; exact this.1.symm
    rw [hdecl] at hown2
    rw [← e1]; exact Option.some.inj (h.2.2.2.1.symm.trans hown2)
  have h6 := u_fits hfc hkC hkind (Or.inr hlay) hi (xY_ok ci hc k hN) hn hfit
  refine W.putFinK h.1 h.2.1 h.2.2.2.1 (h.2.2.2.2.1 _ hw) (by rw [hs]; exact hi) hst hcf hin (by rw [q2]; exact h6) q1 q3 (by rw [hsl]; exact k2_hasslot (q4 k hN)) rfl rfl hd fun H' e1 e2 e3 => ?_
  rw [hsl] at e1 ⊢
  refine kk H' _ ls (hP.put (Z' := stR Z i k t) (X' := X) hk.1 rfl ?_ (fun j hj => ce_stR hj) e2 e3) (hS.put e2 e3 (PH.in hP hk.1)) hl
  rw [ce_o (show sK (stR Z i k t) i = ci from hk.2) hc, ← fs_set (w := w) (Z := Z) (Z' := stR Z i k t) (X := X) (X' := X) (c := ci) (i := i) (k := k) (v := .ref (w.1 t)) (by rw [hty, stR_s]; rfl) (fun j hj => by
    unfold fvT
    rw [stR_k hj])]
  exact ⟨_, xCl_at ci hc, t_OB.to (V := updV (vp_V (fsOf w Z X ci i)) k (.ref (w.1 t))) ⟨_, e1, q2, q3, t_set q4 hap hN (.ref (w.1 t))⟩ (fun j _ => vp_updV_set (by rw [fs_len]; exact hN) (.ref (w.1 t)) j)⟩
theorem ww_aast (h : CX p s m args meth c E cc nL own) {a t n : Nat} {j : Int32} {C : String} (d ci : Nat) (ha : KA Z a d n) (hd1 : 16 ≤ d) (hd2 : d < 19) (hty : xTy d = .object C) (ht : KK Z t ci) (hci : ci < 13) (hC : XR ci = C ∨ va_Nw (.castable (XR ci) C) s) (hj : vp_in j n) (hZ : stR Z a j.toNatClampNeg t = Z') (hdg : decode cc pc = .ok (.aastore, 1))
    (kk : WW p l e R s m args below meth c nL Q E w cells slots (w.1 (sn Z')) Z' (pc + 1) lv rest X) : WW p l e R s m args below meth c nL Q E w cells slots (w.1 (sn Z)) Z pc lv (.ref (w.1 t) :: .int j :: .ref (w.1 a) :: rest) X := by
  subst hZ
  intro H locs ls hP hS hl
  have hlt : j.toNatClampNeg < sL Z a := by rw [ha.2.2]; exact vp_lt hj
  have h0 : ¬ j < 0 := fun q => hj (Or.inl q)
  obtain ⟨r', hr', cellV, g1, g2, g3, -⟩ := hP.1 t _ ((ws_get ht.1).trans (by rw [ce_o ht.2 hci]))
  have hcls := (h.2.2.2.2.2.1.1 ci _ (xCl_at ci hci)).2
  have hra := (h.2.2.2.2.2.1.2 d _ (xTys_at (by omega) (by omega))).2
  rw [hty] at hra
  obtain ⟨kA, comp, k1, k2, k3, -⟩ := hra
  have hasg : s.vm.assignable (E.1.1 ci) comp = true := by
    rcases hC with e1 | e1
    · have : comp = E.1.1 ci := by
        rw [← e1] at k3
        exact Option.some.inj (k3.symm.trans hcls.1)
      rw [this]
      exact va_assign hcls
    · obtain ⟨c0, t0, f1, f2, f3⟩ := Cond.castable_spec (va_Nw.use (A := args) rfl e1)
      have e2 : c0 = E.1.1 ci := Option.some.inj (f1.symm.trans hcls.1)
      have e3 : t0 = comp := Option.some.inj (f2.symm.trans k3)
      rw [← e2, ← e3]
      exact f3
  obtain ⟨kE, hkE, -⟩ := Vm.findClass_spec k3
  obtain ⟨-, kC, hkC, -⟩ := hcls
  refine W.aast h.1 h.2.1 (hP.1 a _ (ws_q E ⟨ha.1, ha.2.1⟩ hd1)) (fun q h => by cases h) (fun h => by cases h) k1 k2 rfl hkE ⟨h0, by show _ < (arrV _ _ _).slots.size; rw [arrV_size]; exact hlt⟩ g1 (fun q h => by rw [g3] at h; cases h) (by rw [g2]; exact hkC) (by rw [g2]; exact hasg) rfl rfl hdg fun H1 e1 e2 e3 => ?_
  refine kk H1 _ ls (hP.put (Z' := stR Z a j.toNatClampNeg t) (X' := X) ha.1 rfl ?_ (fun j hj => ce_stR hj) e2 e3) (hS.put e2 e3 (PH.in hP ha.1)) hl
  rw [ce_a (show sK (stR Z a j.toNatClampNeg t) a = d from ha.2.1) (by omega)]
  refine e1.trans (congrArg some ?_)
  show (arrV (E.2.1 d) (sL Z a) (fun j => va_rf ((sR Z a j).map w.1))).setSlot j.toNatClampNeg (.ref (w.1 t)) = vp_cell (E.2.1 d) (arOf w (stR Z a j.toNatClampNeg t) X d a)
  unfold arOf
  rw [if_neg (by omega), if_neg (by omega)]
  show _ = vp_cell (E.2.1 d) (sL Z a, .inr (.inr (.inr (.inr (fun q => (sR (stR Z a j.toNatClampNeg t) a q).map w.1)))))
  rw [vp_cell_q, arrV_store]
  congr 1
  funext q
  by_cases hq : q = j.toNatClampNeg
  · subst hq
    rw [stR_s]
    simp [updV, va_rf]
  · rw [stR_k hq]
    simp [updV, hq]
end XO
/-! several cells at once -/
theorem wsX_add {E : XE} {w : XW} {Z Z' : XS} {X X' : XD} {k : Nat} (hn : sn Z' = sn Z + k) (ho : ∀ i, i < sn Z → ceOf E w Z' X' i = ceOf E w Z X i) : wsX E w Z' X' = wsX E w Z X ++ (List.range k).map (fun i => (w.1 (sn Z + i), ceOf E w Z' X' (sn Z + i))) := by
  unfold wsX
  rw [hn, List.range_add, List.map_append, List.map_map]
  congr 1
  apply List.map_congr_left
  intro i hi
  rw [ho i (List.mem_range.mp hi)]
theorem PH.newN {E : XE} {w : XW} {z k : Nat} {Z Z' : XS} {X X' : XD} {H H1 : Heap} (hP : PH E w z Z X H) (hn : sn Z' = sn Z + k) (hw : ∀ i, w.1 (sn Z + i) = z + i) (hb : E.2.2.1 ≤ z) (ho : ∀ i, i < sn Z → ceOf E w Z' X' i = ceOf E w Z X i) (he : ∀ i, i < k → va_at E.1 xCl (z + i, ceOf E w Z' X' (sn Z + i)) H1) (hs : H1.size = H.size + k) (hk : ∀ q : Nat, q < H.size → H1[q]? = H[q]?) : PH E w (z + k) Z' X' H1 := by
  have hz := hP.2.2
  unfold PH
  rw [wsX_add hn ho]
  have at' : ∀ (j : Nat) (q : Nat × va_E), ((List.range k).map (fun i => ((w.1 (sn Z + i), ceOf E w Z' X' (sn Z + i)) : Nat × va_E)))[j]? = some q → j < k ∧ q = (z + j, ceOf E w Z' X' (sn Z + j)) := by
    intro j q hq
    have hl : j < k := by
      have := (List.getElem?_eq_some_iff.mp hq).1
      simpa using this
    rw [List.getElem?_map, List.getElem?_range hl] at hq
    cases hq
    exact ⟨hl, by show (w.1 (sn Z + j), ceOf E w Z' X' (sn Z + j)) = _; rw [hw]⟩
  have h1 : va_P E.1 xCl ((wsX E w Z X ++ w.2) ++ (List.range k).map (fun i => (w.1 (sn Z + i), ceOf E w Z' X' (sn Z + i)))) H1 := (hP.1.kept (fun k q hq => hk q.1 (hP.1 k q hq).lt)).app (fun j q hq => by
    obtain ⟨hl, rfl⟩ := at' j q hq
    exact he j hl)
  have h2 : va_D (A0 E) ((wsX E w Z X ++ w.2) ++ (List.range k).map (fun i => (w.1 (sn Z + i), ceOf E w Z' X' (sn Z + i)))) := hP.2.1.app ⟨fun i j x y hi hj hxy => by
    obtain ⟨-, rfl⟩ := at' i x hi
    obtain ⟨-, rfl⟩ := at' j y hj
    have : z + i = z + j := hxy
    omega, fun j q hq => by
    obtain ⟨-, rfl⟩ := at' j q hq
    exact Nat.le_trans hb (Nat.le_add_right _ _)⟩ (fun i j x y hi hj hxy => by
    have := (hP.1 i x hi).lt
    obtain ⟨-, rfl⟩ := at' j y hj
    have hxy : x.1 = z + j := hxy
    omega)
  exact ⟨va_P.swap h1, va_D.swap h2, by rw [hs, hz]⟩
theorem ww_mna {p : Program} {l : Launch} {e : Env} {R : Room} {s : State} {m : MethodId} {args : Array Value} {below : List Frame} {meth : Method} {c : Code} {nL : Nat} {Q : State → Prop} {E : XE} {w : XW} {cells slots : Nat} {Z Z' : XS} {pc : Nat} {lv : List (Nat × Value)} {rest : List Value} {X X' : XD} {cc : ByteArray} {own : String} (h : CX p s m args meth c E cc nL own) {idx n N K : Nat} {x y : Int32} (hT : CT w Z) (hn : sn Z = n) (hx : ¬ x < 0) (hy : ¬ y < 0) (hN : x.toNatClampNeg = N) (hK : y.toNatClampNeg = K) (hNb : N ≤ 1000 ∧ K ≤ 1000) (hZ : newM n Z N K = Z') (hX : zM X n N = X') (w1 : Cond.classLink own idx ("[" ++ (FieldType.array .long).toString) ∈ xtb) (w2 : Cond.arrayClass .long ∈ xtb) (hd : decode cc pc = .ok (.multianewarray idx 2, 4)) (hcells : cells + (1 + N) ≤ R.cells) (hslots : slots + (N + N * K) ≤ R.slots)
    (kk : WW p l e R s m args below meth c nL Q E w (cells + 1 + N) (slots + N + N * K) (w.1 (sn Z')) Z' (pc + 4) lv (.ref (w.1 n) :: rest) X') : WW p l e R s m args below meth c nL Q E w cells slots (w.1 (sn Z)) Z pc lv (.int y :: .int x :: rest) X := by
  subst hn
  subst hZ
  subst hX
  intro H locs ls hP hS hl
  have hra := (h.2.2.2.2.2.1.2 14 _ (xTys_at (by decide) (by decide))).2
  have hra2 := (h.2.2.2.2.2.1.2 19 _ (xTys_at (by decide) (by decide))).2
  refine x_mna (ty := .long) (cy := E.2.1 14) (z := (K, .inr (.inl (fun _ => 0)))) h.1 h.2.1 h.2.2.2.1 (h.2.2.2.2.1 _ w1) h.2.2.2.2.2.2.2.2.2.2.2.2.2.2.2.2 (h.2.2.2.2.1 _ w2) hra hx hy hN hK (by omega) (by show K * 8 ≤ _; omega) (by omega) rfl rfl hcells hslots (fun c => by rw [vp_cell_l, ← arrV_new]; rfl) hd fun cA1 H1 z1 e1 e2 o1 hnm => ?_
  have hcA : cA1 = E.2.1 19 := Option.some.inj (hnm.symm.trans hra2)
  subst hcA
  have hz := hP.2.2
  have hb := PH.newN (k := 1 + N) (Z' := newM (sn Z) Z N K) (X' := zM X (sn Z) N) hP (by show sn Z + 1 + N = _; omega) hT (x_base h hP hS) (fun i hi => ce_lt (by show (if i = sn Z then 19 else if sn Z < i ∧ i ≤ sn Z + N then 14 else sK Z i) = _; rw [if_neg (by omega), if_neg (by omega)]) (by show (if i = sn Z then N else if sn Z < i ∧ i ≤ sn Z + N then K else sL Z i) = _; rw [if_neg (by omega), if_neg (by omega)]) (if_neg (Nat.ne_of_lt hi)) rfl (if_neg (by omega))) (fun i hi => by
    rcases Nat.eq_zero_or_pos i with h0 | h0
    · subst h0
      have k1 : sK (newM (sn Z) Z N K) (sn Z + 0) = 19 := if_pos rfl
      have k2 : sL (newM (sn Z) Z N K) (sn Z) = N := if_pos rfl
      have k3 : sR (newM (sn Z) Z N K) (sn Z) = fun j => if j < N then some (sn Z + 1 + j) else none := if_pos rfl
      rw [ce_a k1 (by decide)]
      show H1[w.1 (sn Z)]? = some (vp_cell (E.2.1 19) (arOf w (newM (sn Z) Z N K) (zM X (sn Z) N) 19 (sn Z)))
      rw [← hz, e1]
      unfold arOf
      rw [if_neg (by decide), if_neg (by decide), k2, k3]
      congr 7
      funext j
      by_cases hj : j < N
      · simp only [hj, if_true, Option.map_some]
        congr 1
        have := hT (1 + j)
        rw [← Nat.add_assoc] at this
        rw [hz, this]
        omega
      · simp only [hj, if_false, Option.map_none]
    · have k1 : sK (newM (sn Z) Z N K) (sn Z + i) = 14 := by
        show (if sn Z + i = sn Z then 19 else if sn Z < sn Z + i ∧ sn Z + i ≤ sn Z + N then 14 else sK Z (sn Z + i)) = 14
        rw [if_neg (by omega), if_pos (by omega)]
      have k2 : sL (newM (sn Z) Z N K) (sn Z + i) = K := by
        show (if sn Z + i = sn Z then N else if sn Z < sn Z + i ∧ sn Z + i ≤ sn Z + N then K else sL Z (sn Z + i)) = K
        rw [if_neg (by omega), if_pos (by omega)]
      have k3 : (zM X (sn Z) N).2 (sn Z + i) = fun _ => 0 := if_pos (by omega)
      rw [ce_a k1 (by decide)]
      show H1[w.1 (sn Z) + i]? = some (vp_cell (E.2.1 14) (sL (newM (sn Z) Z N K) (sn Z + i), .inr (.inl ((zM X (sn Z) N).2 (sn Z + i)))))
      rw [k2, k3, ← e2 (i - 1) (by omega), hz]
      congr 1
      omega) (by rw [z1]; omega) o1
  rw [show w.1 (sn Z) + (1 + N) = w.1 (sn (newM (sn Z) Z N K)) by rw [hT.at (k := 1 + N) (Z' := newM (sn Z) Z N K) (by show sn Z + 1 + N = _; omega)]] at hb
  rw [show H.size = w.1 (sn Z) from hz]
  exact kk H1 locs ls hb (va_S.new hS (by omega) o1) hl
