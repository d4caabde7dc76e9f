/-! the typed heap: shape XS (how many cells, kinds, lengths, references), data XD (ints, longs) -/
abbrev XD : Type := (Nat → Nat → Int32) × (Nat → Nat → Int64)
abbrev XS : Type := Nat × (Nat → Nat) × (Nat → Nat) × (Nat → Nat → Option Nat)
def sn (Z : XS) : Nat := Z.1
def sK (Z : XS) : Nat → Nat := Z.2.1
def sL (Z : XS) : Nat → Nat := Z.2.2.1
def sR (Z : XS) : Nat → Nat → Option Nat := Z.2.2.2
def up2 {α : Type} (f : Nat → Nat → α) (i k : Nat) (v : α) : Nat → Nat → α := fun b j => if b = i ∧ j = k then v else f b j
def wI (X : XD) (i k : Nat) (v : Int32) : XD := (up2 X.1 i k v, X.2)
def wJ (X : XD) (i k : Nat) (v : Int64) : XD := (X.1, up2 X.2 i k v)
/-- the run's own: tables, array classes, where the world begins, where the String constants lie -/
abbrev XE : Type := va_G × (Nat → ClassId) × Nat × ((Nat → Nat) × (Nat → Nat))
/-- a world: its addresses, and the cells beside it -/
abbrev XW : Type := (Nat → Nat) × va_W
def A0 (E : XE) : Nat → Prop := fun q => E.2.2.1 ≤ q
def fvT (w : XW) (Z : XS) (X : XD) (ty : FieldType) (i k : Nat) : Value := match ty with
  | .int => .int (X.1 i k)
  | .boolean => .int (X.1 i k)
  | .long => .long (X.2 i k)
  | _ => va_rf ((sR Z i k).map w.1)
def fsOf (w : XW) (Z : XS) (X : XD) (c i : Nat) : List Value := (List.range (XN c)).map (fun k => fvT w Z X (XY c k) i k)
def arOf (w : XW) (Z : XS) (X : XD) (d i : Nat) : vp_A := if d = 14 then (sL Z i, .inr (.inl (X.2 i))) else if d = 13 ∨ d = 15 then (sL Z i, .inl (X.1 i)) else (sL Z i, .inr (.inr (.inr (.inr (fun j => (sR Z i j).map w.1)))))
def ceOf (E : XE) (w : XW) (Z : XS) (X : XD) (i : Nat) : va_E := if sK Z i < 13 then .inr (sK Z i, fsOf w Z X (sK Z i) i) else .inl (E.2.1 (sK Z i), arOf w Z X (sK Z i) i)
def wsX (E : XE) (w : XW) (Z : XS) (X : XD) : va_W := (List.range (sn Z)).map (fun i => (w.1 i, ceOf E w Z X i))
def PH (E : XE) (w : XW) (z : Nat) (Z : XS) (X : XD) (H : Heap) : Prop := va_P E.1 xCl (wsX E w Z X ++ w.2) H ∧ va_D (A0 E) (wsX E w Z X ++ w.2) ∧ H.size = z
def xTy : Nat → FieldType := fun d => match d with
  | 13 => .int
  | 14 => .long
  | 15 => .boolean
  | 16 => .object "FootKeeper$Ground"
  | 17 => .object "FootKeeper$Shooter"
  | 18 => .object "FootKeeper$Table"
  | _ => .array .long
def xTys (E : XE) : List (ClassId × FieldType) := (List.range 20).map (fun d => if d < 13 then (E.2.1 13, xTy 13) else (E.2.1 d, xTy d))
theorem xTys_at {E : XE} {d : Nat} (h : 13 ≤ d) (h2 : d < 20) : (xTys E)[d]? = some (E.2.1 d, xTy d) := by
  simp [xTys, h2, Nat.not_lt.mpr h]
def xLen : List Nat := [2, 4, 4, 5, 4, 6, 3]
def xByt : List (List Int32) := [[105, 110], [115, 97, 118, 101], [108, 101, 102, 116], [114, 105, 103, 104, 116], [115, 116, 97, 121], [112, 107, 115, 110, 103, 97], [60, 61, 62]]
def xEnt : Nat → Nat := fun i => match i with
  | 0 => 87
  | 1 => 89
  | 2 => 91
  | 3 => 93
  | 4 => 95
  | 5 => 117
  | _ => 122
def xTx : Nat → String := fun i => match i with
  | 0 => "in"
  | 1 => "save"
  | 2 => "left"
  | 3 => "right"
  | 4 => "stay"
  | 5 => "pksnga"
  | _ => "<=>"
def isSh (c : Nat) : Prop := c = 0 ∨ c = 2 ∨ c = 4 ∨ c = 5 ∨ c = 7 ∨ c = 8 ∨ c = 10
/-- kinds under others (not themselves) -/
def subX (c d : Nat) : Bool := (d == 4 && c != 4) || (c == 0 && d == 8) || (c == 2 && d == 5) || (c == 7 && d == 10)
def xAO2 (t : FieldType) (U : State) : Prop := (Cond.arrayOver (.array t)).before #[] U = true
theorem xAO2.moved {t : FieldType} {u U : State} (hvm : u.vm.Alike U.vm) (h : xAO2 t u) : xAO2 t U := by
  obtain ⟨comp, c, k, h1, h2, h3, h4, h5⟩ := arrayOverA_spec h
  obtain ⟨k', hk', he⟩ := hvm.2.2 _ _ h3
  have hi : (U.vm.classes.findIdx? fun (x : Class) => match x.kind with | .array component _ => component == comp | _ => false) = some c := by
    have hb : u.vm.bare = U.vm.bare := by first | exact hvm.bare_eq | exact hvm.bare_eq.symm
    have e1 := va_idx_bare u.vm comp
    have e2 := va_idx_bare U.vm comp
    rw [hb] at e1
    exact (e2.symm.trans e1).trans h2
  have hkind : k'.kind = .array comp (.array t) := by rw [he]; exact h4
  have f1 : U.vm.findClass (FieldType.array t).toString = some comp := by rw [hvm.findClass]; exact h1
  have f2 : U.vm.findClass ("[" ++ (FieldType.array t).toString) = some c := by rw [hvm.findClass]; exact h5
  unfold xAO2 Cond.before Cond.holds
  simp only [Cond.value]
  rw [f1, Option.bind_some]
  refine (congrArg (fun o : Option Nat => (o.bind (fun c => (U.vm.classes[c]?).map fun (k : Class) => match k.kind with | .array _ ty => decide (ty = FieldType.array t) && decide (U.vm.findClass ("[" ++ (FieldType.array t).toString) = some c) | _ => false) == some true)) hi).trans ?_
  simp [hk', hkind, f2]
def ES (E : XE) (U : State) (H : Heap) : Prop := vk_S 7 xLen xByt E.2.2.2.1 E.2.2.2.2 (A0 E) U H ∧ va_Z "java/lang/String" "COMPACT_STRINGS" "Z" (.int 1) (A0 E) U H ∧ (∀ i : Nat, i < 7 → vk_R "FootKeeper$Ground" (xEnt i) (xTx i) (E.2.2.2.1 i) U) ∧ va_Zq "jdk/internal/util/Preconditions" "SIOOBE_FORMATTER" "Ljava/util/function/BiFunction;" (A0 E) U H ∧ (∀ c d : Nat, isSh c → isSh d → c ≠ d → if subX c d = true then va_Nw (.castable (XR c) (XR d)) U else va_Nc (XR c) (XR d) U) ∧ va_AO "FootKeeper$Shooter" U ∧ va_AO "FootKeeper$Ground" U ∧ va_AO "FootKeeper$Table" U ∧ xAO2 .long U
def XPre (E : XE) (w : XW) (z : Nat) (Z : XS) (X : XD) (U : State) : Prop := PH E w z Z X U.heap ∧ va_K E.1 xCl (xTys E) U ∧ ES E U U.heap ∧ E.2.2.1 ≤ U.heap.size
def XQ (E : XE) (w : XW) (z : Nat) (Z : XS) (X : XD) (rv : Option Value) : Array Value → State → Outcome → State → Prop := fun _ st oc t => (oc = .returned rv ∧ PH E w z Z X t.heap) ∧ va_F (A0 E) st t
/-- a contract: from the world X to the world X', with the answer rv -/
def Ct (l : Launch) (E : XE) (w : XW) (y : MethodName) (ws : List Cond) (rm : Room) (mc ms : Nat) (av : List Value) (z z' : Nat) (Z Z' : XS) (X X' : XD) (rv : Option Value) : Prop :=
  Met l y ws rm (va_Pc av (XPre E w z Z X)) (XQ E w z' Z' X' rv) mc ms (A0 E)
def rmX (k mc ms : Nat) : Room := { frames := k, cells := mc, slots := ms, locals := 60 * k }
/-! the world as a list -/
theorem wsX_len (E : XE) (w : XW) (Z : XS) (X : XD) : (wsX E w Z X).length = sn Z := by simp [wsX]
theorem ws_get {E : XE} {w : XW} {Z : XS} {X : XD} {i : Nat} (h : i < sn Z) : (wsX E w Z X ++ w.2)[i]? = some (w.1 i, ceOf E w Z X i) := by
  rw [List.getElem?_append_left (by rw [wsX_len]; exact h)]
  simp [wsX, h]
theorem ws_set {E : XE} {w : XW} {Z Z' : XS} {X X' : XD} {i : Nat} {e : va_E} (h : i < sn Z) (hz : sn Z' = sn Z) (he : ceOf E w Z' X' i = e) (ho : ∀ j, j ≠ i → ceOf E w Z' X' j = ceOf E w Z X j) : (wsX E w Z X ++ w.2).set i (w.1 i, e) = wsX E w Z' X' ++ w.2 := by
  apply List.ext_getElem?
  intro j
  by_cases hj : j = i
  · subst hj
    rw [List.getElem?_set_self (by rw [List.length_append, wsX_len]; omega), ws_get (by rw [hz]; exact h), he]
  · rw [List.getElem?_set_ne (Ne.symm hj)]
    by_cases hl : j < sn Z
    · rw [ws_get hl, ws_get (by rw [hz]; exact hl), ho j hj]
    · rw [List.getElem?_append_right (by rw [wsX_len]; omega), List.getElem?_append_right (by rw [wsX_len, hz]; omega), wsX_len, wsX_len, hz]
theorem ce_o {E : XE} {w : XW} {Z : XS} {X : XD} {i c : Nat} (h : sK Z i = c) (hc : c < 13) : ceOf E w Z X i = .inr (c, fsOf w Z X c i) := by
  subst h
  exact if_pos hc
theorem ce_a {E : XE} {w : XW} {Z : XS} {X : XD} {i d : Nat} (h : sK Z i = d) (hd : 13 ≤ d) : ceOf E w Z X i = .inl (E.2.1 d, arOf w Z X d i) := by
  subst h
  exact if_neg (Nat.not_lt.mpr hd)
theorem fs_get {w : XW} {Z : XS} {X : XD} {c i k : Nat} (h : k < XN c) : (fsOf w Z X c i)[k]? = some (fvT w Z X (XY c k) i k) := by simp [fsOf, h]
theorem fs_len {w : XW} {Z : XS} {X : XD} {c i : Nat} : (fsOf w Z X c i).length = XN c := by simp [fsOf]
theorem fs_set {w : XW} {Z Z' : XS} {X X' : XD} {c i k : Nat} {v : Value} (hv : fvT w Z' X' (XY c k) i k = v) (ho : ∀ j, j ≠ k → fvT w Z' X' (XY c j) i j = fvT w Z X (XY c j) i j) : (fsOf w Z X c i).set k v = fsOf w Z' X' c i := by
  apply List.ext_getElem?
  intro j
  by_cases hk : j < XN c
  · by_cases hj : j = k
    · subst hj
      rw [List.getElem?_set_self (by rw [fs_len]; exact hk), fs_get hk, hv]
    · rw [List.getElem?_set_ne (Ne.symm hj), fs_get hk, fs_get hk, ho j hj]
  · rw [List.getElem?_eq_none (by rw [List.length_set, fs_len]; omega), List.getElem?_eq_none (by rw [fs_len]; omega)]
theorem up2_s {α : Type} {f : Nat → Nat → α} {i k : Nat} {v : α} : up2 f i k v i k = v := by simp [up2]
theorem up2_a {α : Type} {f : Nat → Nat → α} {i k j : Nat} {v : α} (b : Nat) (h : b ≠ i) : up2 f i k v b j = f b j := by simp [up2, h]
theorem up2_k {α : Type} {f : Nat → Nat → α} {i k j : Nat} {v : α} (b : Nat) (h : j ≠ k) : up2 f i k v b j = f b j := by simp [up2, h]
theorem up2_row {α : Type} {f : Nat → Nat → α} {i k : Nat} {v : α} {b : Nat} (h : b ≠ i) : up2 f i k v b = f b := by funext j; simp [up2, h]
theorem fv_wI {w : XW} {Z : XS} {X : XD} {i k : Nat} {v : Int32} {ty : FieldType} {b j : Nat} (h : ¬ (b = i ∧ j = k)) : fvT w Z (wI X i k v) ty b j = fvT w Z X ty b j := by
  unfold fvT wI up2
  cases ty <;> simp [h]
theorem ce_wI {E : XE} {w : XW} {Z : XS} {X : XD} {i k : Nat} {v : Int32} {j : Nat} (h : j ≠ i) : ceOf E w Z (wI X i k v) j = ceOf E w Z X j := by
  have h1 : fsOf w Z (wI X i k v) (sK Z j) j = fsOf w Z X (sK Z j) j := by
    unfold fsOf
    apply List.map_congr_left
    intro q _
    exact fv_wI (fun z => h z.1)
  have h2 : arOf w Z (wI X i k v) (sK Z j) j = arOf w Z X (sK Z j) j := by
    unfold arOf
    rw [show (wI X i k v).1 j = X.1 j from up2_row h, show (wI X i k v).2 = X.2 from rfl]
  unfold ceOf
  rw [h1, h2]
theorem ce_wJ {E : XE} {w : XW} {Z : XS} {X : XD} {i k : Nat} {v : Int64} {j : Nat} (h : j ≠ i) : ceOf E w Z (wJ X i k v) j = ceOf E w Z X j := by
  have h1 : fsOf w Z (wJ X i k v) (sK Z j) j = fsOf w Z X (sK Z j) j := by
    unfold fsOf
    apply List.map_congr_left
    intro q _
    unfold fvT wJ up2
    cases XY (sK Z j) q <;> simp [h]
  have h2 : arOf w Z (wJ X i k v) (sK Z j) j = arOf w Z X (sK Z j) j := by
    unfold arOf
    rw [show (wJ X i k v).2 j = X.2 j from up2_row h, show (wJ X i k v).1 = X.1 from rfl]
  unfold ceOf
  rw [h1, h2]
/-! what a reference is known to be -/
def KK (Z : XS) (i c : Nat) : Prop := i < sn Z ∧ sK Z i = c
def KA (Z : XS) (i c n : Nat) : Prop := i < sn Z ∧ sK Z i = c ∧ sL Z i = n
def KS (Z : XS) (i : Nat) : Prop := i < sn Z ∧ isSh (sK Z i)
/-! the programs' own words -/
def gin {α : Type} (i : Int32) (n : Nat) (x : Option α) : Option α := if i < 0 ∨ n ≤ i.toNatClampNeg then none else x
theorem gin_i {α : Type} {i : Int32} {n : Nat} {x : Option α} {y : α} (h : gin i n x = some y) : vp_in i n ∧ x = some y := by
  unfold gin at h
  split at h
  · cases h
  · exact ⟨by assumption, h⟩
def gnz {α : Type} (i : Int32) (x : Option α) : Option α := if i = 0 then none else x
theorem gnz_i {α : Type} {i : Int32} {x : Option α} {y : α} (h : gnz i x = some y) : ¬ i = 0 ∧ x = some y := by
  unfold gnz at h
  split at h
  · cases h
  · exact ⟨by assumption, h⟩
def gnzl {α : Type} (i : Int64) (x : Option α) : Option α := if i = 0 then none else x
theorem gnzl_i {α : Type} {i : Int64} {x : Option α} {y : α} (h : gnzl i x = some y) : ¬ i = 0 ∧ x = some y := by
  unfold gnzl at h
  split at h
  · cases h
  · exact ⟨by assumption, h⟩
def bnd {α β : Type} (x : Option α) (k : α → Option β) : Option β := match x with
  | none => none
  | some a => k a
theorem bnd_i {α β : Type} {x : Option α} {k : α → Option β} {y : β} (h : bnd x k = some y) : ∃ q, x = some q ∧ k q = some y := by
  cases x with
  | none => cases h
  | some q => exact ⟨q, rfl, h⟩
def bnw {α β : Type} (x : Option (α × XD)) (k : α → XD → Option β) : Option β := match x with
  | none => none
  | some q => k q.1 q.2
theorem bnw_i {α β : Type} {x : Option (α × XD)} {k : α → XD → Option β} {y : β} (h : bnw x k = some y) : ∃ q X, x = some (q, X) ∧ k q X = some y := by
  cases x with
  | none => cases h
  | some q => exact ⟨q.1, q.2, rfl, h⟩
def nm {α β : Type} (x : α) (k : α → β) : β := k x
theorem ite_t {α : Type} {c : Prop} {d : Decidable c} {x y : Option α} {z : α} (h : @ite _ c d x y = some z) (hc : c) : x = some z := by rw [if_pos hc] at h; exact h
theorem ite_f {α : Type} {c : Prop} {d : Decidable c} {x y : Option α} {z : α} (h : @ite _ c d x y = some z) (hc : ¬ c) : y = some z := by rw [if_neg hc] at h; exact h
/-! the judgement -/
def CX (p : Program) (s : State) (m : MethodId) (args : Array Value) (meth : Method) (c : Code) (E : XE) (cc : ByteArray) (nL : Nat) (own : String) : Prop :=
  p.tables.exec = Jvm.exec ∧ c.code = cc ∧ c.maxLocals = nL ∧ s.vm.findClass own = some m.cls ∧ (∀ w ∈ xtb, w.before args s = true) ∧ va_K E.1 xCl (xTys E) s ∧ meth.locks = false ∧ E.2.2.1 ≤ s.heap.size ∧ ES E s s.heap
def WW (p : Program) (l : Launch) (e : Env) (R : Room) (s : State) (m : MethodId) (args : Array Value) (below : List Frame) (meth : Method) (c : Code) (nL : Nat) (Q : State → Prop) (E : XE) (w : XW) (cells slots z : Nat) (Z : XS) (pc : Nat) (lv : List (Nat × Value)) (st : List Value) (X : XD) : Prop :=
  ∀ (H : Heap) (locs : List Loc) (ls : Array Slot), PH E w z Z X H → va_S (A0 E) s.heap H locs → lv_has ls nL lv → W p l e R s m args below meth c H locs cells slots Q (F0 m pc ls st)
section XR
variable {p : Program} {l : Launch} {e : Env} {R : Room} {s : State} {m : MethodId} {args : Array Value} {below : List Frame} {meth : Method} {c : Code} {nL : Nat} {Q : State → Prop} {E : XE} {w : XW} {cells slots z : Nat} {Z : XS} {pc : Nat} {lv : List (Nat × Value)} {rest : List Value} {X : XD} {cc : ByteArray} {own : String}

theorem ww_iconst (h : CX p s m args meth c E cc nL own) {n : Int} {v : Int32} (hd : decode cc pc = .ok (.iconst n, 1)) (hv : Int32.ofInt n = v) (k : WW p l e R s m args below meth c nL Q E w cells slots z Z (pc + 1) lv (.int v :: rest) X) : WW p l e R s m args below meth c nL Q E w cells slots z Z pc lv (rest) X := fun H locs ls hP hS hl => lv_iconst h.1 h.2.1 hd hv (k H locs ls hP hS hl)
theorem ww_bipush (h : CX p s m args meth c E cc nL own) {n : Int} {v : Int32} (hd : decode cc pc = .ok (.bipush n, 2)) (hv : (Int8.ofInt n).toInt32 = v) (k : WW p l e R s m args below meth c nL Q E w cells slots z Z (pc + 2) lv (.int v :: rest) X) : WW p l e R s m args below meth c nL Q E w cells slots z Z pc lv (rest) X := fun H locs ls hP hS hl => lv_bipush h.1 h.2.1 hd hv (k H locs ls hP hS hl)
theorem ww_sipush (h : CX p s m args meth c E cc nL own) {n : Int} {v : Int32} (hd : decode cc pc = .ok (.sipush n, 3)) (hv : (Int16.ofInt n).toInt32 = v) (k : WW p l e R s m args below meth c nL Q E w cells slots z Z (pc + 3) lv (.int v :: rest) X) : WW p l e R s m args below meth c nL Q E w cells slots z Z pc lv (rest) X := fun H locs ls hP hS hl => lv_sipush h.1 h.2.1 hd hv (k H locs ls hP hS hl)
theorem ww_lconst (h : CX p s m args meth c E cc nL own) {n : Fin 2} {v : Int64} (hd : decode cc pc = .ok (.lconst n, 1)) (hv : Int64.ofNat (n : Nat) = v) (k : WW p l e R s m args below meth c nL Q E w cells slots z Z (pc + 1) lv (.long v :: rest) X) : WW p l e R s m args below meth c nL Q E w cells slots z Z pc lv (rest) X := fun H locs ls hP hS hl => lv_lconst h.1 h.2.1 hd hv (k H locs ls hP hS hl)
theorem ww_null (h : CX p s m args meth c E cc nL own)  (hd : decode cc pc = .ok (.aconst_null, 1)) (k : WW p l e R s m args below meth c nL Q E w cells slots z Z (pc + 1) lv (.null :: rest) X) : WW p l e R s m args below meth c nL Q E w cells slots z Z pc lv (rest) X := fun H locs ls hP hS hl => lv_null h.1 h.2.1 hd (k H locs ls hP hS hl)
theorem ww_iload_n (h : CX p s m args meth c E cc nL own) {i : Fin 4} {x : Int32} (hd : decode cc pc = .ok (.iload_n i, 1)) (q : Nat) (hq : lv[q]? = some ((i : Nat), .int x)) (k : WW p l e R s m args below meth c nL Q E w cells slots z Z (pc + 1) lv (.int x :: rest) X) : WW p l e R s m args below meth c nL Q E w cells slots z Z pc lv (rest) X := fun H locs ls hP hS hl => lv_iload_n h.1 h.2.1 hd rfl (lv_at hl q hq) (k H locs ls hP hS hl)
theorem ww_iload (h : CX p s m args meth c E cc nL own) {i : Nat} {x : Int32} (hd : decode cc pc = .ok (.iload i, 2)) (q : Nat) (hq : lv[q]? = some (i, .int x)) (k : WW p l e R s m args below meth c nL Q E w cells slots z Z (pc + 2) lv (.int x :: rest) X) : WW p l e R s m args below meth c nL Q E w cells slots z Z pc lv (rest) X := fun H locs ls hP hS hl => lv_iload h.1 h.2.1 hd (lv_at hl q hq) (k H locs ls hP hS hl)
theorem ww_istore_n (h : CX p s m args meth c E cc nL own) {j : Fin 4} {i : Nat} {x : Int32} (lv' : List (Nat × Value)) (hd : decode cc pc = .ok (.istore_n j, 1)) (hj : (j : Nat) = i) (hn : i < nL) (hl0 : (i, Value.int x) :: lv.filter (fun q => !(q.1 == i) && !(q.1 + 1 == i && q.2.category == 2)) = lv') (k : WW p l e R s m args below meth c nL Q E w cells slots z Z (pc + 1) lv' rest X) : WW p l e R s m args below meth c nL Q E w cells slots z Z pc lv (.int x :: rest) X := fun H locs ls hP hS hl => lv_istore_n h.1 h.2.1 hd hj hl hn hl0 (fun ls2 hl2 => k H locs ls2 hP hS hl2)
theorem ww_istore (h : CX p s m args meth c E cc nL own) {i : Nat} {x : Int32} (lv' : List (Nat × Value)) (hd : decode cc pc = .ok (.istore i, 2))  (hn : i < nL) (hl0 : (i, Value.int x) :: lv.filter (fun q => !(q.1 == i) && !(q.1 + 1 == i && q.2.category == 2)) = lv') (k : WW p l e R s m args below meth c nL Q E w cells slots z Z (pc + 2) lv' rest X) : WW p l e R s m args below meth c nL Q E w cells slots z Z pc lv (.int x :: rest) X := fun H locs ls hP hS hl => lv_istore h.1 h.2.1 hd  hl hn hl0 (fun ls2 hl2 => k H locs ls2 hP hS hl2)
theorem ww_lload_n (h : CX p s m args meth c E cc nL own) {i : Fin 4} {x : Int64} (hd : decode cc pc = .ok (.lload_n i, 1)) (q : Nat) (hq : lv[q]? = some ((i : Nat), .long x)) (k : WW p l e R s m args below meth c nL Q E w cells slots z Z (pc + 1) lv (.long x :: rest) X) : WW p l e R s m args below meth c nL Q E w cells slots z Z pc lv (rest) X := fun H locs ls hP hS hl => lv_lload_n h.1 h.2.1 hd rfl (lv_at hl q hq) (k H locs ls hP hS hl)
theorem ww_lload (h : CX p s m args meth c E cc nL own) {i : Nat} {x : Int64} (hd : decode cc pc = .ok (.lload i, 2)) (q : Nat) (hq : lv[q]? = some (i, .long x)) (k : WW p l e R s m args below meth c nL Q E w cells slots z Z (pc + 2) lv (.long x :: rest) X) : WW p l e R s m args below meth c nL Q E w cells slots z Z pc lv (rest) X := fun H locs ls hP hS hl => lv_lload h.1 h.2.1 hd (lv_at hl q hq) (k H locs ls hP hS hl)
theorem ww_lstore_n (h : CX p s m args meth c E cc nL own) {j : Fin 4} {i : Nat} {x : Int64} (lv' : List (Nat × Value)) (hd : decode cc pc = .ok (.lstore_n j, 1)) (hj : (j : Nat) = i) (hn : i + 1 < nL) (hl0 : (i, Value.long x) :: lv.filter (fun q => !(q.1 == i) && (!(q.1 == i + 1) && !(q.1 + 1 == i && q.2.category == 2))) = lv') (k : WW p l e R s m args below meth c nL Q E w cells slots z Z (pc + 1) lv' rest X) : WW p l e R s m args below meth c nL Q E w cells slots z Z pc lv (.long x :: rest) X := fun H locs ls hP hS hl => lv_lstore_n h.1 h.2.1 hd hj hl hn hl0 (fun ls2 hl2 => k H locs ls2 hP hS hl2)
theorem ww_lstore (h : CX p s m args meth c E cc nL own) {i : Nat} {x : Int64} (lv' : List (Nat × Value)) (hd : decode cc pc = .ok (.lstore i, 2))  (hn : i + 1 < nL) (hl0 : (i, Value.long x) :: lv.filter (fun q => !(q.1 == i) && (!(q.1 == i + 1) && !(q.1 + 1 == i && q.2.category == 2))) = lv') (k : WW p l e R s m args below meth c nL Q E w cells slots z Z (pc + 2) lv' rest X) : WW p l e R s m args below meth c nL Q E w cells slots z Z pc lv (.long x :: rest) X := fun H locs ls hP hS hl => lv_lstore h.1 h.2.1 hd  hl hn hl0 (fun ls2 hl2 => k H locs ls2 hP hS hl2)
theorem ww_aload_n (h : CX p s m args meth c E cc nL own) {i : Fin 4} {x : Nat} (hd : decode cc pc = .ok (.aload_n i, 1)) (q : Nat) (hq : lv[q]? = some ((i : Nat), .ref x)) (k : WW p l e R s m args below meth c nL Q E w cells slots z Z (pc + 1) lv (.ref x :: rest) X) : WW p l e R s m args below meth c nL Q E w cells slots z Z pc lv (rest) X := fun H locs ls hP hS hl => lv_aload_n h.1 h.2.1 hd rfl (lv_at hl q hq) (k H locs ls hP hS hl)
theorem ww_aload (h : CX p s m args meth c E cc nL own) {i : Nat} {x : Nat} (hd : decode cc pc = .ok (.aload i, 2)) (q : Nat) (hq : lv[q]? = some (i, .ref x)) (k : WW p l e R s m args below meth c nL Q E w cells slots z Z (pc + 2) lv (.ref x :: rest) X) : WW p l e R s m args below meth c nL Q E w cells slots z Z pc lv (rest) X := fun H locs ls hP hS hl => lv_aload h.1 h.2.1 hd (lv_at hl q hq) (k H locs ls hP hS hl)
theorem ww_astore_n (h : CX p s m args meth c E cc nL own) {j : Fin 4} {i : Nat} {x : Nat} (lv' : List (Nat × Value)) (hd : decode cc pc = .ok (.astore_n j, 1)) (hj : (j : Nat) = i) (hn : i < nL) (hl0 : (i, Value.ref x) :: lv.filter (fun q => !(q.1 == i) && !(q.1 + 1 == i && q.2.category == 2)) = lv') (k : WW p l e R s m args below meth c nL Q E w cells slots z Z (pc + 1) lv' rest X) : WW p l e R s m args below meth c nL Q E w cells slots z Z pc lv (.ref x :: rest) X := fun H locs ls hP hS hl => lv_astore_n h.1 h.2.1 hd hj hl hn hl0 (fun ls2 hl2 => k H locs ls2 hP hS hl2)
theorem ww_astore (h : CX p s m args meth c E cc nL own) {i : Nat} {x : Nat} (lv' : List (Nat × Value)) (hd : decode cc pc = .ok (.astore i, 2))  (hn : i < nL) (hl0 : (i, Value.ref x) :: lv.filter (fun q => !(q.1 == i) && !(q.1 + 1 == i && q.2.category == 2)) = lv') (k : WW p l e R s m args below meth c nL Q E w cells slots z Z (pc + 2) lv' rest X) : WW p l e R s m args below meth c nL Q E w cells slots z Z pc lv (.ref x :: rest) X := fun H locs ls hP hS hl => lv_astore h.1 h.2.1 hd  hl hn hl0 (fun ls2 hl2 => k H locs ls2 hP hS hl2)
theorem ww_iinc (h : CX p s m args meth c E cc nL own) {i : Nat} {n : Int} {x : Int32} (v : Int32) (lv' : List (Nat × Value)) (hd : decode cc pc = .ok (.iinc i n, 3)) (q : Nat) (hq : lv[q]? = some (i, .int x)) (hv : x + Int32.ofInt n = v) (hn : i < nL) (hl0 : (i, Value.int v) :: lv.filter (fun q => !(q.1 == i) && !(q.1 + 1 == i && q.2.category == 2)) = lv') (k : WW p l e R s m args below meth c nL Q E w cells slots z Z (pc + 3) lv' rest X) : WW p l e R s m args below meth c nL Q E w cells slots z Z pc lv rest X := fun H locs ls hP hS hl => lv_iinc h.1 h.2.1 hd hl hq hv hn hl0 (fun ls2 hl2 => k H locs ls2 hP hS hl2)
theorem ww_iadd (h : CX p s m args meth c E cc nL own) {x y : Int32} (hd : decode cc pc = .ok (.iadd, 1)) (k : WW p l e R s m args below meth c nL Q E w cells slots z Z (pc + 1) lv (.int (x + y) :: rest) X) : WW p l e R s m args below meth c nL Q E w cells slots z Z pc lv (.int y :: .int x :: rest) X := fun H locs ls hP hS hl => lv_iadd h.1 h.2.1 hd (k H locs ls hP hS hl)
theorem ww_isub (h : CX p s m args meth c E cc nL own) {x y : Int32} (hd : decode cc pc = .ok (.isub, 1)) (k : WW p l e R s m args below meth c nL Q E w cells slots z Z (pc + 1) lv (.int (x - y) :: rest) X) : WW p l e R s m args below meth c nL Q E w cells slots z Z pc lv (.int y :: .int x :: rest) X := fun H locs ls hP hS hl => lv_isub h.1 h.2.1 hd (k H locs ls hP hS hl)
theorem ww_imul (h : CX p s m args meth c E cc nL own) {x y : Int32} (hd : decode cc pc = .ok (.imul, 1)) (k : WW p l e R s m args below meth c nL Q E w cells slots z Z (pc + 1) lv (.int (x * y) :: rest) X) : WW p l e R s m args below meth c nL Q E w cells slots z Z pc lv (.int y :: .int x :: rest) X := fun H locs ls hP hS hl => lv_imul h.1 h.2.1 hd (k H locs ls hP hS hl)
theorem ww_iand (h : CX p s m args meth c E cc nL own) {x y : Int32} (hd : decode cc pc = .ok (.iand, 1)) (k : WW p l e R s m args below meth c nL Q E w cells slots z Z (pc + 1) lv (.int (x &&& y) :: rest) X) : WW p l e R s m args below meth c nL Q E w cells slots z Z pc lv (.int y :: .int x :: rest) X := fun H locs ls hP hS hl => lv_iand h.1 h.2.1 hd (k H locs ls hP hS hl)
theorem ww_ior (h : CX p s m args meth c E cc nL own) {x y : Int32} (hd : decode cc pc = .ok (.ior, 1)) (k : WW p l e R s m args below meth c nL Q E w cells slots z Z (pc + 1) lv (.int (x ||| y) :: rest) X) : WW p l e R s m args below meth c nL Q E w cells slots z Z pc lv (.int y :: .int x :: rest) X := fun H locs ls hP hS hl => lv_ior h.1 h.2.1 hd (k H locs ls hP hS hl)
theorem ww_ixor (h : CX p s m args meth c E cc nL own) {x y : Int32} (hd : decode cc pc = .ok (.ixor, 1)) (k : WW p l e R s m args below meth c nL Q E w cells slots z Z (pc + 1) lv (.int (x ^^^ y) :: rest) X) : WW p l e R s m args below meth c nL Q E w cells slots z Z pc lv (.int y :: .int x :: rest) X := fun H locs ls hP hS hl => lv_ixor h.1 h.2.1 hd (k H locs ls hP hS hl)
theorem ww_ishl (h : CX p s m args meth c E cc nL own) {x y : Int32} (hd : decode cc pc = .ok (.ishl, 1)) (k : WW p l e R s m args below meth c nL Q E w cells slots z Z (pc + 1) lv (.int (x <<< (y &&& 31)) :: rest) X) : WW p l e R s m args below meth c nL Q E w cells slots z Z pc lv (.int y :: .int x :: rest) X := fun H locs ls hP hS hl => lv_ishl h.1 h.2.1 hd (k H locs ls hP hS hl)
theorem ww_ishr (h : CX p s m args meth c E cc nL own) {x y : Int32} (hd : decode cc pc = .ok (.ishr, 1)) (k : WW p l e R s m args below meth c nL Q E w cells slots z Z (pc + 1) lv (.int (x >>> (y &&& 31)) :: rest) X) : WW p l e R s m args below meth c nL Q E w cells slots z Z pc lv (.int y :: .int x :: rest) X := fun H locs ls hP hS hl => lv_ishr h.1 h.2.1 hd (k H locs ls hP hS hl)
theorem ww_idiv (h : CX p s m args meth c E cc nL own) {x y : Int32} (hd : decode cc pc = .ok (.idiv, 1)) (hz : ¬ y = 0) (k : WW p l e R s m args below meth c nL Q E w cells slots z Z (pc + 1) lv (.int (x / y) :: rest) X) : WW p l e R s m args below meth c nL Q E w cells slots z Z pc lv (.int y :: .int x :: rest) X := fun H locs ls hP hS hl => lv_idiv h.1 h.2.1 hd hz (k H locs ls hP hS hl)
theorem ww_irem (h : CX p s m args meth c E cc nL own) {x y : Int32} (hd : decode cc pc = .ok (.irem, 1)) (hz : ¬ y = 0) (k : WW p l e R s m args below meth c nL Q E w cells slots z Z (pc + 1) lv (.int (x - x / y * y) :: rest) X) : WW p l e R s m args below meth c nL Q E w cells slots z Z pc lv (.int y :: .int x :: rest) X := fun H locs ls hP hS hl => lv_irem h.1 h.2.1 hd hz (k H locs ls hP hS hl)
theorem ww_ineg (h : CX p s m args meth c E cc nL own) {x : Int32} (hd : decode cc pc = .ok (.ineg, 1)) (k : WW p l e R s m args below meth c nL Q E w cells slots z Z (pc + 1) lv (.int (-x) :: rest) X) : WW p l e R s m args below meth c nL Q E w cells slots z Z pc lv (.int x :: rest) X := fun H locs ls hP hS hl => lv_ineg h.1 h.2.1 hd (k H locs ls hP hS hl)
theorem ww_ladd (h : CX p s m args meth c E cc nL own) {x y : Int64} (hd : decode cc pc = .ok (.ladd, 1)) (k : WW p l e R s m args below meth c nL Q E w cells slots z Z (pc + 1) lv (.long (x + y) :: rest) X) : WW p l e R s m args below meth c nL Q E w cells slots z Z pc lv (.long y :: .long x :: rest) X := fun H locs ls hP hS hl => lv_ladd h.1 h.2.1 hd (k H locs ls hP hS hl)
theorem ww_lsub (h : CX p s m args meth c E cc nL own) {x y : Int64} (hd : decode cc pc = .ok (.lsub, 1)) (k : WW p l e R s m args below meth c nL Q E w cells slots z Z (pc + 1) lv (.long (x - y) :: rest) X) : WW p l e R s m args below meth c nL Q E w cells slots z Z pc lv (.long y :: .long x :: rest) X := fun H locs ls hP hS hl => lv_lsub h.1 h.2.1 hd (k H locs ls hP hS hl)
theorem ww_lmul (h : CX p s m args meth c E cc nL own) {x y : Int64} (hd : decode cc pc = .ok (.lmul, 1)) (k : WW p l e R s m args below meth c nL Q E w cells slots z Z (pc + 1) lv (.long (x * y) :: rest) X) : WW p l e R s m args below meth c nL Q E w cells slots z Z pc lv (.long y :: .long x :: rest) X := fun H locs ls hP hS hl => lv_lmul h.1 h.2.1 hd (k H locs ls hP hS hl)
theorem ww_land (h : CX p s m args meth c E cc nL own) {x y : Int64} (hd : decode cc pc = .ok (.land, 1)) (k : WW p l e R s m args below meth c nL Q E w cells slots z Z (pc + 1) lv (.long (x &&& y) :: rest) X) : WW p l e R s m args below meth c nL Q E w cells slots z Z pc lv (.long y :: .long x :: rest) X := fun H locs ls hP hS hl => lv_land h.1 h.2.1 hd (k H locs ls hP hS hl)
theorem ww_lor (h : CX p s m args meth c E cc nL own) {x y : Int64} (hd : decode cc pc = .ok (.lor, 1)) (k : WW p l e R s m args below meth c nL Q E w cells slots z Z (pc + 1) lv (.long (x ||| y) :: rest) X) : WW p l e R s m args below meth c nL Q E w cells slots z Z pc lv (.long y :: .long x :: rest) X := fun H locs ls hP hS hl => lv_lor h.1 h.2.1 hd (k H locs ls hP hS hl)
theorem ww_lxor (h : CX p s m args meth c E cc nL own) {x y : Int64} (hd : decode cc pc = .ok (.lxor, 1)) (k : WW p l e R s m args below meth c nL Q E w cells slots z Z (pc + 1) lv (.long (x ^^^ y) :: rest) X) : WW p l e R s m args below meth c nL Q E w cells slots z Z pc lv (.long y :: .long x :: rest) X := fun H locs ls hP hS hl => lv_lxor h.1 h.2.1 hd (k H locs ls hP hS hl)
theorem ww_ldiv (h : CX p s m args meth c E cc nL own) {x y : Int64} (hd : decode cc pc = .ok (.ldiv, 1)) (hz : ¬ y = 0) (k : WW p l e R s m args below meth c nL Q E w cells slots z Z (pc + 1) lv (.long (x / y) :: rest) X) : WW p l e R s m args below meth c nL Q E w cells slots z Z pc lv (.long y :: .long x :: rest) X := fun H locs ls hP hS hl => lv_ldiv h.1 h.2.1 hd hz (k H locs ls hP hS hl)
theorem ww_lrem (h : CX p s m args meth c E cc nL own) {x y : Int64} (hd : decode cc pc = .ok (.lrem, 1)) (hz : ¬ y = 0) (k : WW p l e R s m args below meth c nL Q E w cells slots z Z (pc + 1) lv (.long (x - x / y * y) :: rest) X) : WW p l e R s m args below meth c nL Q E w cells slots z Z pc lv (.long y :: .long x :: rest) X := fun H locs ls hP hS hl => lv_lrem h.1 h.2.1 hd hz (k H locs ls hP hS hl)
theorem ww_i2l (h : CX p s m args meth c E cc nL own) {x : Int32} (hd : decode cc pc = .ok (.i2l, 1)) (k : WW p l e R s m args below meth c nL Q E w cells slots z Z (pc + 1) lv (.long x.toInt64 :: rest) X) : WW p l e R s m args below meth c nL Q E w cells slots z Z pc lv (.int x :: rest) X := fun H locs ls hP hS hl => lv_i2l h.1 h.2.1 hd rfl (k H locs ls hP hS hl)
theorem ww_l2i (h : CX p s m args meth c E cc nL own) {x : Int64} (hd : decode cc pc = .ok (.l2i, 1)) (k : WW p l e R s m args below meth c nL Q E w cells slots z Z (pc + 1) lv (.int x.toInt32 :: rest) X) : WW p l e R s m args below meth c nL Q E w cells slots z Z pc lv (.long x :: rest) X := fun H locs ls hP hS hl => lv_l2i h.1 h.2.1 hd rfl (k H locs ls hP hS hl)
theorem ww_i2b (h : CX p s m args meth c E cc nL own) {x : Int32} (hd : decode cc pc = .ok (.i2b, 1)) (k : WW p l e R s m args below meth c nL Q E w cells slots z Z (pc + 1) lv (.int x.toInt8.toInt32 :: rest) X) : WW p l e R s m args below meth c nL Q E w cells slots z Z pc lv (.int x :: rest) X := fun H locs ls hP hS hl => lv_i2b h.1 h.2.1 hd rfl (k H locs ls hP hS hl)
theorem ww_i2s (h : CX p s m args meth c E cc nL own) {x : Int32} (hd : decode cc pc = .ok (.i2s, 1)) (k : WW p l e R s m args below meth c nL Q E w cells slots z Z (pc + 1) lv (.int x.toInt16.toInt32 :: rest) X) : WW p l e R s m args below meth c nL Q E w cells slots z Z pc lv (.int x :: rest) X := fun H locs ls hP hS hl => lv_i2s h.1 h.2.1 hd rfl (k H locs ls hP hS hl)
theorem ww_i2c (h : CX p s m args meth c E cc nL own) {x : Int32} (hd : decode cc pc = .ok (.i2c, 1)) (k : WW p l e R s m args below meth c nL Q E w cells slots z Z (pc + 1) lv (.int (x.toUInt32 % 65536).toInt32 :: rest) X) : WW p l e R s m args below meth c nL Q E w cells slots z Z pc lv (.int x :: rest) X := fun H locs ls hP hS hl => lv_i2c h.1 h.2.1 hd rfl (k H locs ls hP hS hl)
theorem ww_lushr (h : CX p s m args meth c E cc nL own) {x : Int64} {y : Int32} (hd : decode cc pc = .ok (.lushr, 1)) (k : WW p l e R s m args below meth c nL Q E w cells slots z Z (pc + 1) lv (.long ((x.toUInt64 >>> (y.toInt64.toUInt64 &&& Int64.toUInt64 63)).toInt64) :: rest) X) : WW p l e R s m args below meth c nL Q E w cells slots z Z pc lv (.int y :: .long x :: rest) X := fun H locs ls hP hS hl => lv_lushr h.1 h.2.1 hd rfl (k H locs ls hP hS hl)
theorem ww_lshl (h : CX p s m args meth c E cc nL own) {x : Int64} {y : Int32} (hd : decode cc pc = .ok (.lshl, 1)) (k : WW p l e R s m args below meth c nL Q E w cells slots z Z (pc + 1) lv (.long (x <<< (y.toInt64 &&& 63)) :: rest) X) : WW p l e R s m args below meth c nL Q E w cells slots z Z pc lv (.int y :: .long x :: rest) X := fun H locs ls hP hS hl => lv_lshl h.1 h.2.1 hd rfl (k H locs ls hP hS hl)
theorem ww_lcmp (h : CX p s m args meth c E cc nL own) {x y : Int64} (hd : decode cc pc = .ok (.lcmp, 1)) (k : WW p l e R s m args below meth c nL Q E w cells slots z Z (pc + 1) lv (.int (lg_cmp x y) :: rest) X) : WW p l e R s m args below meth c nL Q E w cells slots z Z pc lv (.long y :: .long x :: rest) X := fun H locs ls hP hS hl => W.lcmp h.1 h.2.1 hd (k H locs ls hP hS hl)
theorem ww_dup (h : CX p s m args meth c E cc nL own) {va : Value} (hd : decode cc pc = .ok (.dup, 1)) (hv : va.category = 1) (k : WW p l e R s m args below meth c nL Q E w cells slots z Z (pc + 1) lv (va :: va :: rest) X) : WW p l e R s m args below meth c nL Q E w cells slots z Z pc lv (va :: rest) X := fun H locs ls hP hS hl => lv_dup h.1 h.2.1 hd hv (k H locs ls hP hS hl)
theorem ww_pop (h : CX p s m args meth c E cc nL own) {va : Value} (hd : decode cc pc = .ok (.pop, 1)) (hv : va.category = 1) (k : WW p l e R s m args below meth c nL Q E w cells slots z Z (pc + 1) lv (rest) X) : WW p l e R s m args below meth c nL Q E w cells slots z Z pc lv (va :: rest) X := fun H locs ls hP hS hl => lv_pop h.1 h.2.1 hd hv (k H locs ls hP hS hl)
theorem ww_pop2 (h : CX p s m args meth c E cc nL own) {va : Value} (hd : decode cc pc = .ok (.pop2, 1)) (hv : va.category = 2) (k : WW p l e R s m args below meth c nL Q E w cells slots z Z (pc + 1) lv (rest) X) : WW p l e R s m args below meth c nL Q E w cells slots z Z pc lv (va :: rest) X := fun H locs ls hP hS hl => lv_pop2_2 h.1 h.2.1 hd hv (k H locs ls hP hS hl)
theorem ww_dup_x1 (h : CX p s m args meth c E cc nL own) {va vb : Value} (hd : decode cc pc = .ok (.dup_x1, 1)) (hv : va.category = 1) (hw : vb.category = 1) (k : WW p l e R s m args below meth c nL Q E w cells slots z Z (pc + 1) lv (va :: vb :: va :: rest) X) : WW p l e R s m args below meth c nL Q E w cells slots z Z pc lv (va :: vb :: rest) X := fun H locs ls hP hS hl => lv_dup_x1 h.1 h.2.1 hd hv hw (k H locs ls hP hS hl)
theorem ww_dup_x2 (h : CX p s m args meth c E cc nL own) {va vb vd : Value} (hd : decode cc pc = .ok (.dup_x2, 1)) (hv : va.category = 1) (hw : vb.category = 1) (hx : vd.category = 1) (k : WW p l e R s m args below meth c nL Q E w cells slots z Z (pc + 1) lv (va :: vb :: vd :: va :: rest) X) : WW p l e R s m args below meth c nL Q E w cells slots z Z pc lv (va :: vb :: vd :: rest) X := fun H locs ls hP hS hl => lv_dup_x2 h.1 h.2.1 hd hv hw hx (k H locs ls hP hS hl)
theorem ww_dup2_11 (h : CX p s m args meth c E cc nL own) {va vb : Value} (hd : decode cc pc = .ok (.dup2, 1)) (hv : va.category = 1) (hw : vb.category = 1) (k : WW p l e R s m args below meth c nL Q E w cells slots z Z (pc + 1) lv (va :: vb :: va :: vb :: rest) X) : WW p l e R s m args below meth c nL Q E w cells slots z Z pc lv (va :: vb :: rest) X := fun H locs ls hP hS hl => lv_dup2_11 h.1 h.2.1 hd hv hw (k H locs ls hP hS hl)
theorem ww_ldc (h : CX p s m args meth c E cc nL own) {i : Nat} {v : Int32} (hd : decode cc pc = .ok (.ldc i, 2)) (hw : Cond.constant own i v ∈ xtb) (k : WW p l e R s m args below meth c nL Q E w cells slots z Z (pc + 2) lv (.int v :: rest) X) : WW p l e R s m args below meth c nL Q E w cells slots z Z pc lv (rest) X := fun H locs ls hP hS hl => lv_ldc h.1 h.2.1 h.2.2.2.1 (h.2.2.2.2.1 _ hw) hd (k H locs ls hP hS hl)
theorem ww_ldc2 (h : CX p s m args meth c E cc nL own) {i : Nat} {v : Int64} (hd : decode cc pc = .ok (.ldc2_w i, 3)) (hw : Cond.constantLong own i v ∈ xtb) (k : WW p l e R s m args below meth c nL Q E w cells slots z Z (pc + 3) lv (.long v :: rest) X) : WW p l e R s m args below meth c nL Q E w cells slots z Z pc lv (rest) X := fun H locs ls hP hS hl => lv_ldc2 h.1 h.2.1 h.2.2.2.1 (h.2.2.2.2.1 _ hw) hd (k H locs ls hP hS hl)
theorem ww_if_eq (h : CX p s m args meth c E cc nL own) {x : Int32} {off : Int} {d : Decidable (x = 0)} {α : Type} {f1 f2 : Option α} {r : α} (hf : @ite _ (x = 0) d f1 f2 = some r) (tgt : Nat) (hd : decode cc pc = .ok (.ifCond .eq off, 3)) (ht : (pc : Int) + off = (tgt : Int)) (kt : f1 = some r → WW p l e R s m args below meth c nL Q E w cells slots z Z tgt lv rest X) (kf : f2 = some r → WW p l e R s m args below meth c nL Q E w cells slots z Z (pc + 3) lv rest X) : WW p l e R s m args below meth c nL Q E w cells slots z Z pc lv (.int x :: rest) X := fun H locs ls hP hS hl => lv_if_eq h.1 h.2.1 hd ht (fun q => kt (ite_t hf q) H locs ls hP hS hl) (fun q => kf (ite_f hf q) H locs ls hP hS hl)
theorem ww_icmp_eq (h : CX p s m args meth c E cc nL own) {x y : Int32} {off : Int} {d : Decidable (x = y)} {α : Type} {f1 f2 : Option α} {r : α} (hf : @ite _ (x = y) d f1 f2 = some r) (tgt : Nat) (hd : decode cc pc = .ok (.if_icmp .eq off, 3)) (ht : (pc : Int) + off = (tgt : Int)) (kt : f1 = some r → WW p l e R s m args below meth c nL Q E w cells slots z Z tgt lv rest X) (kf : f2 = some r → WW p l e R s m args below meth c nL Q E w cells slots z Z (pc + 3) lv rest X) : WW p l e R s m args below meth c nL Q E w cells slots z Z pc lv (.int y :: .int x :: rest) X := fun H locs ls hP hS hl => lv_icmp_eq h.1 h.2.1 hd ht (fun q => kt (ite_t hf q) H locs ls hP hS hl) (fun q => kf (ite_f hf q) H locs ls hP hS hl)
theorem ww_if_ne (h : CX p s m args meth c E cc nL own) {x : Int32} {off : Int} {d : Decidable (x = 0)} {α : Type} {f1 f2 : Option α} {r : α} (hf : @ite _ (x = 0) d f2 f1 = some r) (tgt : Nat) (hd : decode cc pc = .ok (.ifCond .ne off, 3)) (ht : (pc : Int) + off = (tgt : Int)) (kt : f1 = some r → WW p l e R s m args below meth c nL Q E w cells slots z Z tgt lv rest X) (kf : f2 = some r → WW p l e R s m args below meth c nL Q E w cells slots z Z (pc + 3) lv rest X) : WW p l e R s m args below meth c nL Q E w cells slots z Z pc lv (.int x :: rest) X := fun H locs ls hP hS hl => lv_if_ne h.1 h.2.1 hd ht (fun q => kt (ite_f hf q) H locs ls hP hS hl) (fun q => kf (ite_t hf q) H locs ls hP hS hl)
theorem ww_icmp_ne (h : CX p s m args meth c E cc nL own) {x y : Int32} {off : Int} {d : Decidable (x = y)} {α : Type} {f1 f2 : Option α} {r : α} (hf : @ite _ (x = y) d f2 f1 = some r) (tgt : Nat) (hd : decode cc pc = .ok (.if_icmp .ne off, 3)) (ht : (pc : Int) + off = (tgt : Int)) (kt : f1 = some r → WW p l e R s m args below meth c nL Q E w cells slots z Z tgt lv rest X) (kf : f2 = some r → WW p l e R s m args below meth c nL Q E w cells slots z Z (pc + 3) lv rest X) : WW p l e R s m args below meth c nL Q E w cells slots z Z pc lv (.int y :: .int x :: rest) X := fun H locs ls hP hS hl => lv_icmp_ne h.1 h.2.1 hd ht (fun q => kt (ite_f hf q) H locs ls hP hS hl) (fun q => kf (ite_t hf q) H locs ls hP hS hl)
theorem ww_if_lt (h : CX p s m args meth c E cc nL own) {x : Int32} {off : Int} {d : Decidable (x < 0)} {α : Type} {f1 f2 : Option α} {r : α} (hf : @ite _ (x < 0) d f1 f2 = some r) (tgt : Nat) (hd : decode cc pc = .ok (.ifCond .lt off, 3)) (ht : (pc : Int) + off = (tgt : Int)) (kt : f1 = some r → WW p l e R s m args below meth c nL Q E w cells slots z Z tgt lv rest X) (kf : f2 = some r → WW p l e R s m args below meth c nL Q E w cells slots z Z (pc + 3) lv rest X) : WW p l e R s m args below meth c nL Q E w cells slots z Z pc lv (.int x :: rest) X := fun H locs ls hP hS hl => lv_if_lt h.1 h.2.1 hd ht (fun q => kt (ite_t hf q) H locs ls hP hS hl) (fun q => kf (ite_f hf q) H locs ls hP hS hl)
theorem ww_icmp_lt (h : CX p s m args meth c E cc nL own) {x y : Int32} {off : Int} {d : Decidable (x < y)} {α : Type} {f1 f2 : Option α} {r : α} (hf : @ite _ (x < y) d f1 f2 = some r) (tgt : Nat) (hd : decode cc pc = .ok (.if_icmp .lt off, 3)) (ht : (pc : Int) + off = (tgt : Int)) (kt : f1 = some r → WW p l e R s m args below meth c nL Q E w cells slots z Z tgt lv rest X) (kf : f2 = some r → WW p l e R s m args below meth c nL Q E w cells slots z Z (pc + 3) lv rest X) : WW p l e R s m args below meth c nL Q E w cells slots z Z pc lv (.int y :: .int x :: rest) X := fun H locs ls hP hS hl => lv_icmp_lt h.1 h.2.1 hd ht (fun q => kt (ite_t hf q) H locs ls hP hS hl) (fun q => kf (ite_f hf q) H locs ls hP hS hl)
theorem ww_if_ge (h : CX p s m args meth c E cc nL own) {x : Int32} {off : Int} {d : Decidable (0 ≤ x)} {α : Type} {f1 f2 : Option α} {r : α} (hf : @ite _ (0 ≤ x) d f1 f2 = some r) (tgt : Nat) (hd : decode cc pc = .ok (.ifCond .ge off, 3)) (ht : (pc : Int) + off = (tgt : Int)) (kt : f1 = some r → WW p l e R s m args below meth c nL Q E w cells slots z Z tgt lv rest X) (kf : f2 = some r → WW p l e R s m args below meth c nL Q E w cells slots z Z (pc + 3) lv rest X) : WW p l e R s m args below meth c nL Q E w cells slots z Z pc lv (.int x :: rest) X := fun H locs ls hP hS hl => lv_if_ge h.1 h.2.1 hd ht (fun q => kt (ite_t hf q) H locs ls hP hS hl) (fun q => kf (ite_f hf q) H locs ls hP hS hl)
theorem ww_icmp_ge (h : CX p s m args meth c E cc nL own) {x y : Int32} {off : Int} {d : Decidable (y ≤ x)} {α : Type} {f1 f2 : Option α} {r : α} (hf : @ite _ (y ≤ x) d f1 f2 = some r) (tgt : Nat) (hd : decode cc pc = .ok (.if_icmp .ge off, 3)) (ht : (pc : Int) + off = (tgt : Int)) (kt : f1 = some r → WW p l e R s m args below meth c nL Q E w cells slots z Z tgt lv rest X) (kf : f2 = some r → WW p l e R s m args below meth c nL Q E w cells slots z Z (pc + 3) lv rest X) : WW p l e R s m args below meth c nL Q E w cells slots z Z pc lv (.int y :: .int x :: rest) X := fun H locs ls hP hS hl => lv_icmp_ge h.1 h.2.1 hd ht (fun q => kt (ite_t hf q) H locs ls hP hS hl) (fun q => kf (ite_f hf q) H locs ls hP hS hl)
theorem ww_if_gt (h : CX p s m args meth c E cc nL own) {x : Int32} {off : Int} {d : Decidable (0 < x)} {α : Type} {f1 f2 : Option α} {r : α} (hf : @ite _ (0 < x) d f1 f2 = some r) (tgt : Nat) (hd : decode cc pc = .ok (.ifCond .gt off, 3)) (ht : (pc : Int) + off = (tgt : Int)) (kt : f1 = some r → WW p l e R s m args below meth c nL Q E w cells slots z Z tgt lv rest X) (kf : f2 = some r → WW p l e R s m args below meth c nL Q E w cells slots z Z (pc + 3) lv rest X) : WW p l e R s m args below meth c nL Q E w cells slots z Z pc lv (.int x :: rest) X := fun H locs ls hP hS hl => lv_if_gt h.1 h.2.1 hd ht (fun q => kt (ite_t hf q) H locs ls hP hS hl) (fun q => kf (ite_f hf q) H locs ls hP hS hl)
theorem ww_icmp_gt (h : CX p s m args meth c E cc nL own) {x y : Int32} {off : Int} {d : Decidable (y < x)} {α : Type} {f1 f2 : Option α} {r : α} (hf : @ite _ (y < x) d f1 f2 = some r) (tgt : Nat) (hd : decode cc pc = .ok (.if_icmp .gt off, 3)) (ht : (pc : Int) + off = (tgt : Int)) (kt : f1 = some r → WW p l e R s m args below meth c nL Q E w cells slots z Z tgt lv rest X) (kf : f2 = some r → WW p l e R s m args below meth c nL Q E w cells slots z Z (pc + 3) lv rest X) : WW p l e R s m args below meth c nL Q E w cells slots z Z pc lv (.int y :: .int x :: rest) X := fun H locs ls hP hS hl => lv_icmp_gt h.1 h.2.1 hd ht (fun q => kt (ite_t hf q) H locs ls hP hS hl) (fun q => kf (ite_f hf q) H locs ls hP hS hl)
theorem ww_if_le (h : CX p s m args meth c E cc nL own) {x : Int32} {off : Int} {d : Decidable (x ≤ 0)} {α : Type} {f1 f2 : Option α} {r : α} (hf : @ite _ (x ≤ 0) d f1 f2 = some r) (tgt : Nat) (hd : decode cc pc = .ok (.ifCond .le off, 3)) (ht : (pc : Int) + off = (tgt : Int)) (kt : f1 = some r → WW p l e R s m args below meth c nL Q E w cells slots z Z tgt lv rest X) (kf : f2 = some r → WW p l e R s m args below meth c nL Q E w cells slots z Z (pc + 3) lv rest X) : WW p l e R s m args below meth c nL Q E w cells slots z Z pc lv (.int x :: rest) X := fun H locs ls hP hS hl => lv_if_le h.1 h.2.1 hd ht (fun q => kt (ite_t hf q) H locs ls hP hS hl) (fun q => kf (ite_f hf q) H locs ls hP hS hl)
theorem ww_icmp_le (h : CX p s m args meth c E cc nL own) {x y : Int32} {off : Int} {d : Decidable (x ≤ y)} {α : Type} {f1 f2 : Option α} {r : α} (hf : @ite _ (x ≤ y) d f1 f2 = some r) (tgt : Nat) (hd : decode cc pc = .ok (.if_icmp .le off, 3)) (ht : (pc : Int) + off = (tgt : Int)) (kt : f1 = some r → WW p l e R s m args below meth c nL Q E w cells slots z Z tgt lv rest X) (kf : f2 = some r → WW p l e R s m args below meth c nL Q E w cells slots z Z (pc + 3) lv rest X) : WW p l e R s m args below meth c nL Q E w cells slots z Z pc lv (.int y :: .int x :: rest) X := fun H locs ls hP hS hl => lv_icmp_le h.1 h.2.1 hd ht (fun q => kt (ite_t hf q) H locs ls hP hS hl) (fun q => kf (ite_f hf q) H locs ls hP hS hl)
theorem ww_goto (h : CX p s m args meth c E cc nL own) {off : Int} (tgt : Nat) (hd : decode cc pc = .ok (.goto off, 3)) (ht : (pc : Int) + off = (tgt : Int)) (k : WW p l e R s m args below meth c nL Q E w cells slots z Z tgt lv rest X) : WW p l e R s m args below meth c nL Q E w cells slots z Z pc lv rest X := fun H locs ls hP hS hl => lv_goto h.1 h.2.1 hd ht (k H locs ls hP hS hl)
theorem ww_ifnull (h : CX p s m args meth c E cc nL own) {x : Nat} {off : Int} (hd : decode cc pc = .ok (.ifnull off, 3)) (k : WW p l e R s m args below meth c nL Q E w cells slots z Z (pc + 3) lv (rest) X) : WW p l e R s m args below meth c nL Q E w cells slots z Z pc lv (.ref x :: rest) X := fun H locs ls hP hS hl => lv_ifnull h.1 h.2.1 hd (k H locs ls hP hS hl)
theorem ww_ifnonnullN (h : CX p s m args meth c E cc nL own) {off : Int} (hd : decode cc pc = .ok (.ifnonnull off, 3)) (k : WW p l e R s m args below meth c nL Q E w cells slots z Z (pc + 3) lv (rest) X) : WW p l e R s m args below meth c nL Q E w cells slots z Z pc lv (.null :: rest) X := fun H locs ls hP hS hl => lv_ifnonnullN h.1 h.2.1 hd (k H locs ls hP hS hl)
theorem ww_ifnonnull (h : CX p s m args meth c E cc nL own) {x : Nat} {off : Int} (tgt : Nat) (hd : decode cc pc = .ok (.ifnonnull off, 3)) (ht : (pc : Int) + off = (tgt : Int)) (k : WW p l e R s m args below meth c nL Q E w cells slots z Z tgt lv rest X) : WW p l e R s m args below meth c nL Q E w cells slots z Z pc lv (.ref x :: rest) X := fun H locs ls hP hS hl => lv_ifnonnull h.1 h.2.1 hd ht (k H locs ls hP hS hl)
theorem ww_ifnullN (h : CX p s m args meth c E cc nL own) {off : Int} (tgt : Nat) (hd : decode cc pc = .ok (.ifnull off, 3)) (ht : (pc : Int) + off = (tgt : Int)) (k : WW p l e R s m args below meth c nL Q E w cells slots z Z tgt lv rest X) : WW p l e R s m args below meth c nL Q E w cells slots z Z pc lv (.null :: rest) X := fun H locs ls hP hS hl => lv_ifnullN h.1 h.2.1 hd ht (k H locs ls hP hS hl)
theorem ww_tableOut (h : CX p s m args meth c E cc nL own) {dflt lo hi : Int} {offs : Array Int} {len : Nat} {x : Int32} (tgt : Nat) (hd : decode cc pc = .ok (.tableswitch dflt lo hi offs, len)) (hx : x.toInt < lo ∨ hi < x.toInt) (ht : (pc : Int) + dflt = (tgt : Int)) (k : WW p l e R s m args below meth c nL Q E w cells slots z Z tgt lv rest X) : WW p l e R s m args below meth c nL Q E w cells slots z Z pc lv (.int x :: rest) X := fun H locs ls hP hS hl => lv_tableOut h.1 h.2.1 hd hx ht (k H locs ls hP hS hl)
theorem ww_tableIn (h : CX p s m args meth c E cc nL own) {dflt lo hi : Int} {offs : Array Int} {len : Nat} {x : Int32} {off : Int} (tgt : Nat) (hd : decode cc pc = .ok (.tableswitch dflt lo hi offs, len)) (v : Int32) (hx : x = v) (h1 : ¬ v.toInt < lo) (h2 : ¬ hi < v.toInt) (ho : offs[(v.toInt - lo).toNat]? = some off) (ht : (pc : Int) + off = (tgt : Int)) (k : WW p l e R s m args below meth c nL Q E w cells slots z Z tgt lv rest X) : WW p l e R s m args below meth c nL Q E w cells slots z Z pc lv (.int x :: rest) X := by
  subst hx
  exact fun H locs ls hP hS hl => lv_tableIn h.1 h.2.1 hd h1 h2 ho ht (k H locs ls hP hS hl)
theorem ww_lookup (h : CX p s m args meth c E cc nL own) {dflt : Int} {ps : Array (Int × Int)} {len : Nat} {x : Int32} {off : Int} (tgt : Nat) (hd : decode cc pc = .ok (.lookupswitch dflt ps, len)) (hp : (ps.toList.zip (ps.toList.drop 1)).all (fun (a, next) => a.1 < next.1) = true) (ho : Op.lookupswitch.offset ps.toList dflt x.toInt = off) (ht : (pc : Int) + off = (tgt : Int)) (k : WW p l e R s m args below meth c nL Q E w cells slots z Z tgt lv rest X) : WW p l e R s m args below meth c nL Q E w cells slots z Z pc lv (.int x :: rest) X := fun H locs ls hP hS hl => lv_lookup h.1 h.2.1 hd hp ho ht (k H locs ls hP hS hl)
/-- a value's name -/
theorem ww_nmi {x y : Int32} (e2 : x = y) (k : WW p l e R s m args below meth c nL Q E w cells slots z Z pc lv (.int x :: rest) X) : WW p l e R s m args below meth c nL Q E w cells slots z Z pc lv (.int y :: rest) X := e2 ▸ k
theorem ww_nml {x y : Int64} (e2 : x = y) (k : WW p l e R s m args below meth c nL Q E w cells slots z Z pc lv (.long x :: rest) X) : WW p l e R s m args below meth c nL Q E w cells slots z Z pc lv (.long y :: rest) X := e2 ▸ k
/-- fewer locals -/
theorem ww_sub {lv' : List (Nat × Value)} (ks : List Nat) (hk : lv_pick lv ks = lv') (k : WW p l e R s m args below meth c nL Q E w cells slots z Z pc lv' rest X) : WW p l e R s m args below meth c nL Q E w cells slots z Z pc lv rest X := fun H locs ls hP hS hl => k H locs ls hP hS (lv_sub hl ks hk)
theorem ww_widen {k n : Nat} (h1 : cells ≤ k) (h2 : slots ≤ n) (kk : WW p l e R s m args below meth c nL Q E w k n z Z pc lv rest X) : WW p l e R s m args below meth c nL Q E w cells slots z Z pc lv rest X := fun H locs ls hP hS hl => W.widen h1 h2 (kk H locs ls hP hS hl)
end XR

