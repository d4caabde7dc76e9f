/-! the two systems side by side -/
set_option maxHeartbeats 40000000
set_option maxRecDepth 100000
def adC (b0 : Nat) : Nat → Nat := fun i => if i < 157 then b0 + i else b0 + 43 + i
def adM (b0 : Nat) : Nat → Nat := fun i => b0 + 157 + i
def wC (E : XE) (Xm : XD) : XW := (adC E.2.2.1, wsX E (adM E.2.2.1, []) mZE Xm)
def wM (E : XE) (Zc : XS) (Xc : XD) : XW := (adM E.2.2.1, wsX E (adC E.2.2.1, []) Zc Xc)
theorem adC_n {b0 n : Nat} (h : 157 ≤ n) : adC b0 n = b0 + 43 + n := if_neg (Nat.not_lt.mpr h)
section LAW
variable {p : Program} {l : Launch} {e : Env} {R : Room} {s : State} {m : MethodId} {args : Array Value} {below : List Frame} {meth : Method} {c : Code} {nL : Nat} {Q : State → Prop} {E : XE} {cells slots z z' : Nat} {Z Z' : XS} {pc : Nat} {lv : List (Nat × Value)} {rest : List Value} {X X' : XD} {cc : ByteArray} {own : String}
theorem ww_re {w w' : XW} (hPH : ∀ H : Heap, PH E w z Z X H → PH E w' z' Z' X' H) (k : WW p l e R s m args below meth c nL Q E w' cells slots z' Z' pc lv rest X') : WW p l e R s m args below meth c nL Q E w cells slots z Z pc lv rest X := fun H locs ls hP hS hl => k H locs ls (hPH H hP) hS hl
theorem ph_swap {a b : Nat → Nat} {H : Heap} (h : PH E (a, wsX E (b, []) Z' X') z Z X H) : PH E (b, wsX E (a, []) Z X) z Z' X' H := by
  obtain ⟨h1, h2, h3⟩ := h
  have e1 : va_P E.1 xCl (([] ++ wsX E (a, []) Z X) ++ wsX E (b, []) Z' X') H := h1
  have e2 : va_D (A0 E) (([] ++ wsX E (a, []) Z X) ++ wsX E (b, []) Z' X') := h2
  exact ⟨va_P.swap e1, va_D.swap e2, h3⟩
/-- from the class to the reference, and back -/
theorem ww_toM {Zc : XS} {Xc Xm : XD} (k : WW p l e R s m args below meth c nL Q E (wM E Zc Xc) cells slots z mZE pc lv rest Xm) : WW p l e R s m args below meth c nL Q E (wC E Xm) cells slots z Zc pc lv rest Xc := ww_re (fun _ h => ph_swap h) k
theorem ww_toC {Zc : XS} {Xc Xm : XD} (k : WW p l e R s m args below meth c nL Q E (wC E Xm) cells slots z Zc pc lv rest Xc) : WW p l e R s m args below meth c nL Q E (wM E Zc Xc) cells slots z mZE pc lv rest Xm := ww_re (fun _ h => ph_swap h) k
theorem ww_sld {w : XW} (h : CX p s m args meth c E cc nL own) {b N : Nat} {xs : Nat → Int32} (hE : E.2.2.1 = s.heap.size) (hX : va_X b N xs s s.heap) (hbl : b < s.heap.size) {i : Int32} (hin : vp_in i N) (hd : decode cc pc = .ok (.iaload, 1)) (kk : WW p l e R s m args below meth c nL Q E w cells slots z Z (pc + 1) lv (.int (xs i.toNatClampNeg) :: rest) X) : WW p l e R s m args below meth c nL Q E w cells slots z Z pc lv (.int i :: .ref b :: rest) X := fun H locs ls hP hS hl =>
  va_sld h.1 h.2.1 hX hbl (fun q => by have q : E.2.2.1 ≤ b := q; omega) hS hin hd (kk H locs ls hP hS hl)
theorem ww_slen {w : XW} (h : CX p s m args meth c E cc nL own) {b N : Nat} {xs : Nat → Int32} (hE : E.2.2.1 = s.heap.size) (hX : va_X b N xs s s.heap) (hbl : b < s.heap.size) (hd : decode cc pc = .ok (.arraylength, 1)) (kk : WW p l e R s m args below meth c nL Q E w cells slots z Z (pc + 1) lv (.int (Int32.ofNat N) :: rest) X) : WW p l e R s m args below meth c nL Q E w cells slots z Z pc lv (.ref b :: rest) X := fun H locs ls hP hS hl =>
  va_slen h.1 h.2.1 hX hbl (fun q => by have q : E.2.2.1 ≤ b := q; omega) hS hd (kk H locs ls hP hS hl)
end LAW
def lwlv (E : XE) (b : Nat) (i : Int32) : List (Nat × Value) := [(3, .int i), (2, .ref (adM E.2.2.1 0)), (1, .ref (adC E.2.2.1 0)), (0, .ref b)]
theorem lcmp_rr {x : Int64} : lg_cmp x x = 0 := by unfold lg_cmp; simp
set_option maxHeartbeats 40000000 in
set_option maxRecDepth 100000 in
theorem law_0 {p : Program} {l : Launch} {e : Env} {s : State} {m : MethodId} {args : Array Value} {below : List Frame} {meth : Method} {c : Code} {Q : State → Prop} {E : XE} (hC : CX p s m args meth c E cL_law 4 "FootKeeperLaw") (hE : E.2.2.1 = s.heap.size) {b N : Nat} {xs : Nat → Int32} (hX : va_X b N xs s s.heap) (hbl : b < s.heap.size) {i3 : Int32} (hv1 : vp_in (i3 + 1) N) (hv2 : vp_in (i3 + 2) N) {cells slots : Nat} (hf : cells + 1 ≤ room_1.cells ∧ slots + 2 ≤ room_1.slots) {Zc Zc1 : XS} {Xc Xm Xc1 Xm1 : XD} (hL : LayC Zc) (hT : CT (wC E Xm) Zc) {r : Int32} (h1 : gShoot Zc (xs (i3 + 1).toNatClampNeg) (xs (i3 + 2).toNatClampNeg) Xc = some (r, Zc1, Xc1)) (h2 : fX12_shooter (xs (i3 + 1).toNatClampNeg) (xs (i3 + 2).toNatClampNeg) Xm = some (r, Xm1))
    (kk : WW p l e room_1 s m args below meth c 4 Q E (wC E Xm1) (cells + 1) (slots + 2) (adC E.2.2.1 (sn Zc1)) Zc1 1322 (lwlv E b i3) [] Xc1) : WW p l e room_1 s m args below meth c 4 Q E (wC E Xm) cells slots (adC E.2.2.1 (sn Zc)) Zc 196 (lwlv E b i3) [] Xc := by
  refine ww_aload_n (pc := 196) hC dL_law_196 2 rfl ?_
  refine ww_aload_n (pc := 197) hC dL_law_197 3 rfl ?_
  refine ww_iload_n (pc := 198) hC dL_law_198 0 rfl ?_
  refine ww_iconst (pc := 199) hC (v := (1 : Int32)) dL_law_199 (by decide) ?_
  refine ww_iadd (pc := 200) hC dL_law_200 ?_
  refine ww_sld (pc := 201) hC hE hX hbl hv1 dL_law_201 ?_
  refine ww_aload_n (pc := 202) hC dL_law_202 3 rfl ?_
  refine ww_iload_n (pc := 203) hC dL_law_203 0 rfl ?_
  refine ww_iconst (pc := 204) hC (v := (2 : Int32)) dL_law_204 (by decide) ?_
  refine ww_iadd (pc := 205) hC dL_law_205 ?_
  refine ww_sld (pc := 206) hC hE hX hbl hv2 dL_law_206 ?_
  refine ww_callV (pc := 207) hC [.int (xs (i3 + 1).toNatClampNeg), .int (xs (i3 + 2).toNatClampNeg)] (mc := 1) (ms := 2) (Z' := Zc1) (X' := Xc1) (rv := some (.int r)) (show 0 < sn Zc from hL.1.1) hL.1.2 (by decide) (ceX11_shooter hT hL h1) ql_L_13 qi_X11_shooter qs_X11_X11_shooter qn_X11 qc_X11_shooter rfl ⟨by decide, by decide, rfl⟩ rfl ⟨Nat.le_of_ble_eq_true rfl, Nat.le_of_ble_eq_true rfl⟩ (by decide) (rest := []) (Nat.le_of_ble_eq_true rfl) dL_law_207 hf rfl ?_
  refine ww_toM ?_
  refine ww_aload_n (pc := 210) hC dL_law_210 1 rfl ?_
  refine ww_aload_n (pc := 211) hC dL_law_211 3 rfl ?_
  refine ww_iload_n (pc := 212) hC dL_law_212 0 rfl ?_
  refine ww_iconst (pc := 213) hC (v := (1 : Int32)) dL_law_213 (by decide) ?_
  refine ww_iadd (pc := 214) hC dL_law_214 ?_
  refine ww_sld (pc := 215) hC hE hX hbl hv1 dL_law_215 ?_
  refine ww_aload_n (pc := 216) hC dL_law_216 3 rfl ?_
  refine ww_iload_n (pc := 217) hC dL_law_217 0 rfl ?_
  refine ww_iconst (pc := 218) hC (v := (2 : Int32)) dL_law_218 (by decide) ?_
  refine ww_iadd (pc := 219) hC dL_law_219 ?_
  refine ww_sld (pc := 220) hC hE hX hbl hv2 dL_law_220 ?_
  refine ww_callVi (pc := 221) hC [.int (xs (i3 + 1).toNatClampNeg), .int (xs (i3 + 2).toNatClampNeg)] (X' := Xm1) layM0.1.1 layM0.1.2 (by decide) (ceX12_shooter layM0 h2) ql_L_17 qi_X12_shooter qs_X12_X12_shooter qn_X12 qc_X12_shooter rfl ⟨by decide, by decide, rfl⟩ rfl ⟨Nat.le_of_ble_eq_true rfl, Nat.le_of_ble_eq_true rfl⟩ (by decide) (rest := [.int r]) (Nat.le_of_ble_eq_true rfl) dL_law_221 hf rfl ?_
  refine ww_toC ?_
  refine ww_icmp_eq (pc := 224) hC (d := Classical.propDecidable _) (α := Unit) (f1 := some ()) (f2 := none) (r := ()) (if_pos rfl) 1322 dL_law_224 (by decide) (fun _ => ?_) (fun q => by cases q)
  exact kk
set_option maxHeartbeats 40000000 in
set_option maxRecDepth 100000 in
theorem law_1 {p : Program} {l : Launch} {e : Env} {s : State} {m : MethodId} {args : Array Value} {below : List Frame} {meth : Method} {c : Code} {Q : State → Prop} {E : XE} (hC : CX p s m args meth c E cL_law 4 "FootKeeperLaw") (hE : E.2.2.1 = s.heap.size) {b N : Nat} {xs : Nat → Int32} (hX : va_X b N xs s s.heap) (hbl : b < s.heap.size) {i3 : Int32} (hv1 : vp_in (i3 + 1) N) (hv2 : vp_in (i3 + 2) N) {cells slots : Nat} (hf : cells ≤ room_1.cells ∧ slots ≤ room_1.slots) {Zc : XS} {Xc Xm Xc1 Xm1 : XD} (hL : LayC Zc) {r : Int32} (h1 : fX11_of Zc (xs (i3 + 1).toNatClampNeg) (xs (i3 + 2).toNatClampNeg) Xc = some (r, Xc1)) (h2 : fX12_of (xs (i3 + 1).toNatClampNeg) (xs (i3 + 2).toNatClampNeg) Xm = some (r, Xm1))
    (kk : WW p l e room_1 s m args below meth c 4 Q E (wC E Xm1) cells slots (adC E.2.2.1 (sn Zc)) Zc 1322 (lwlv E b i3) [] Xc1) : WW p l e room_1 s m args below meth c 4 Q E (wC E Xm) cells slots (adC E.2.2.1 (sn Zc)) Zc 229 (lwlv E b i3) [] Xc := by
  refine ww_aload_n (pc := 229) hC dL_law_229 2 rfl ?_
  refine ww_aload_n (pc := 230) hC dL_law_230 3 rfl ?_
  refine ww_iload_n (pc := 231) hC dL_law_231 0 rfl ?_
  refine ww_iconst (pc := 232) hC (v := (1 : Int32)) dL_law_232 (by decide) ?_
  refine ww_iadd (pc := 233) hC dL_law_233 ?_
  refine ww_sld (pc := 234) hC hE hX hbl hv1 dL_law_234 ?_
  refine ww_aload_n (pc := 235) hC dL_law_235 3 rfl ?_
  refine ww_iload_n (pc := 236) hC dL_law_236 0 rfl ?_
  refine ww_iconst (pc := 237) hC (v := (2 : Int32)) dL_law_237 (by decide) ?_
  refine ww_iadd (pc := 238) hC dL_law_238 ?_
  refine ww_sld (pc := 239) hC hE hX hbl hv2 dL_law_239 ?_
  refine ww_callVi (pc := 240) hC [.int (xs (i3 + 1).toNatClampNeg), .int (xs (i3 + 2).toNatClampNeg)] (X' := Xc1) hL.1.1 hL.1.2 (by decide) (ceX11_of hL h1) ql_L_18 qi_X11_of qs_X11_X11_of qn_X11 qc_X11_of rfl ⟨by decide, by decide, rfl⟩ rfl ⟨Nat.le_of_ble_eq_true rfl, Nat.le_of_ble_eq_true rfl⟩ (by decide) (rest := []) (Nat.le_of_ble_eq_true rfl) dL_law_240 hf rfl ?_
  refine ww_toM ?_
  refine ww_aload_n (pc := 243) hC dL_law_243 1 rfl ?_
  refine ww_aload_n (pc := 244) hC dL_law_244 3 rfl ?_
  refine ww_iload_n (pc := 245) hC dL_law_245 0 rfl ?_
  refine ww_iconst (pc := 246) hC (v := (1 : Int32)) dL_law_246 (by decide) ?_
  refine ww_iadd (pc := 247) hC dL_law_247 ?_
  refine ww_sld (pc := 248) hC hE hX hbl hv1 dL_law_248 ?_
  refine ww_aload_n (pc := 249) hC dL_law_249 3 rfl ?_
  refine ww_iload_n (pc := 250) hC dL_law_250 0 rfl ?_
  refine ww_iconst (pc := 251) hC (v := (2 : Int32)) dL_law_251 (by decide) ?_
  refine ww_iadd (pc := 252) hC dL_law_252 ?_
  refine ww_sld (pc := 253) hC hE hX hbl hv2 dL_law_253 ?_
  refine ww_callVi (pc := 254) hC [.int (xs (i3 + 1).toNatClampNeg), .int (xs (i3 + 2).toNatClampNeg)] (X' := Xm1) layM0.1.1 layM0.1.2 (by decide) (ceX12_of layM0 h2) ql_L_21 qi_X12_of qs_X12_X12_of qn_X12 qc_X12_of rfl ⟨by decide, by decide, rfl⟩ rfl ⟨Nat.le_of_ble_eq_true rfl, Nat.le_of_ble_eq_true rfl⟩ (by decide) (rest := [.int r]) (Nat.le_of_ble_eq_true rfl) dL_law_254 hf rfl ?_
  refine ww_toC ?_
  refine ww_icmp_eq (pc := 257) hC (d := Classical.propDecidable _) (α := Unit) (f1 := some ()) (f2 := none) (r := ()) (if_pos rfl) 1322 dL_law_257 (by decide) (fun _ => ?_) (fun q => by cases q)
  exact kk
set_option maxHeartbeats 40000000 in
set_option maxRecDepth 100000 in
theorem law_2 {p : Program} {l : Launch} {e : Env} {s : State} {m : MethodId} {args : Array Value} {below : List Frame} {meth : Method} {c : Code} {Q : State → Prop} {E : XE} (hC : CX p s m args meth c E cL_law 4 "FootKeeperLaw") (hE : E.2.2.1 = s.heap.size) {b N : Nat} {xs : Nat → Int32} (hX : va_X b N xs s s.heap) (hbl : b < s.heap.size) {i3 : Int32} (hv1 : vp_in (i3 + 1) N) (hv2 : vp_in (i3 + 2) N) {cells slots : Nat} (hf : cells ≤ room_1.cells ∧ slots ≤ room_1.slots) {Zc : XS} {Xc Xm Xc1 Xm1 : XD} (hL : LayC Zc) {r : Int32} (h1 : fX11_last Zc (xs (i3 + 1).toNatClampNeg) (xs (i3 + 2).toNatClampNeg) Xc = some (r, Xc1)) (h2 : fX12_last (xs (i3 + 1).toNatClampNeg) (xs (i3 + 2).toNatClampNeg) Xm = some (r, Xm1))
    (kk : WW p l e room_1 s m args below meth c 4 Q E (wC E Xm1) cells slots (adC E.2.2.1 (sn Zc)) Zc 1322 (lwlv E b i3) [] Xc1) : WW p l e room_1 s m args below meth c 4 Q E (wC E Xm) cells slots (adC E.2.2.1 (sn Zc)) Zc 262 (lwlv E b i3) [] Xc := by
  refine ww_aload_n (pc := 262) hC dL_law_262 2 rfl ?_
  refine ww_aload_n (pc := 263) hC dL_law_263 3 rfl ?_
  refine ww_iload_n (pc := 264) hC dL_law_264 0 rfl ?_
  refine ww_iconst (pc := 265) hC (v := (1 : Int32)) dL_law_265 (by decide) ?_
  refine ww_iadd (pc := 266) hC dL_law_266 ?_
  refine ww_sld (pc := 267) hC hE hX hbl hv1 dL_law_267 ?_
  refine ww_aload_n (pc := 268) hC dL_law_268 3 rfl ?_
  refine ww_iload_n (pc := 269) hC dL_law_269 0 rfl ?_
  refine ww_iconst (pc := 270) hC (v := (2 : Int32)) dL_law_270 (by decide) ?_
  refine ww_iadd (pc := 271) hC dL_law_271 ?_
  refine ww_sld (pc := 272) hC hE hX hbl hv2 dL_law_272 ?_
  refine ww_callVi (pc := 273) hC [.int (xs (i3 + 1).toNatClampNeg), .int (xs (i3 + 2).toNatClampNeg)] (X' := Xc1) hL.1.1 hL.1.2 (by decide) (ceX11_last hL h1) ql_L_22 qi_X11_last qs_X11_X11_last qn_X11 qc_X11_last rfl ⟨by decide, by decide, rfl⟩ rfl ⟨Nat.le_of_ble_eq_true rfl, Nat.le_of_ble_eq_true rfl⟩ (by decide) (rest := []) (Nat.le_of_ble_eq_true rfl) dL_law_273 hf rfl ?_
  refine ww_toM ?_
  refine ww_aload_n (pc := 276) hC dL_law_276 1 rfl ?_
  refine ww_aload_n (pc := 277) hC dL_law_277 3 rfl ?_
  refine ww_iload_n (pc := 278) hC dL_law_278 0 rfl ?_
  refine ww_iconst (pc := 279) hC (v := (1 : Int32)) dL_law_279 (by decide) ?_
  refine ww_iadd (pc := 280) hC dL_law_280 ?_
  refine ww_sld (pc := 281) hC hE hX hbl hv1 dL_law_281 ?_
  refine ww_aload_n (pc := 282) hC dL_law_282 3 rfl ?_
  refine ww_iload_n (pc := 283) hC dL_law_283 0 rfl ?_
  refine ww_iconst (pc := 284) hC (v := (2 : Int32)) dL_law_284 (by decide) ?_
  refine ww_iadd (pc := 285) hC dL_law_285 ?_
  refine ww_sld (pc := 286) hC hE hX hbl hv2 dL_law_286 ?_
  refine ww_callVi (pc := 287) hC [.int (xs (i3 + 1).toNatClampNeg), .int (xs (i3 + 2).toNatClampNeg)] (X' := Xm1) layM0.1.1 layM0.1.2 (by decide) (ceX12_last layM0 h2) ql_L_25 qi_X12_last qs_X12_X12_last qn_X12 qc_X12_last rfl ⟨by decide, by decide, rfl⟩ rfl ⟨Nat.le_of_ble_eq_true rfl, Nat.le_of_ble_eq_true rfl⟩ (by decide) (rest := [.int r]) (Nat.le_of_ble_eq_true rfl) dL_law_287 hf rfl ?_
  refine ww_toC ?_
  refine ww_icmp_eq (pc := 290) hC (d := Classical.propDecidable _) (α := Unit) (f1 := some ()) (f2 := none) (r := ()) (if_pos rfl) 1322 dL_law_290 (by decide) (fun _ => ?_) (fun q => by cases q)
  exact kk
set_option maxHeartbeats 40000000 in
set_option maxRecDepth 100000 in
theorem law_3 {p : Program} {l : Launch} {e : Env} {s : State} {m : MethodId} {args : Array Value} {below : List Frame} {meth : Method} {c : Code} {Q : State → Prop} {E : XE} (hC : CX p s m args meth c E cL_law 4 "FootKeeperLaw") (hE : E.2.2.1 = s.heap.size) {b N : Nat} {xs : Nat → Int32} (hX : va_X b N xs s s.heap) (hbl : b < s.heap.size) {i3 : Int32} (hv1 : vp_in (i3 + 1) N) (hv2 : vp_in (i3 + 2) N) (hv3 : vp_in (i3 + 3) N) {cells slots : Nat} (hf : cells ≤ room_1.cells ∧ slots ≤ room_1.slots) {Zc : XS} {Xc Xm Xc1 Xm1 : XD} (hL : LayC Zc) {r : Int32} (h1 : fX11_row Zc (xs (i3 + 1).toNatClampNeg) (xs (i3 + 2).toNatClampNeg) (xs (i3 + 3).toNatClampNeg) Xc = some (r, Xc1)) (h2 : fX12_row (xs (i3 + 1).toNatClampNeg) (xs (i3 + 2).toNatClampNeg) (xs (i3 + 3).toNatClampNeg) Xm = some (r, Xm1))
    (kk : WW p l e room_1 s m args below meth c 4 Q E (wC E Xm1) cells slots (adC E.2.2.1 (sn Zc)) Zc 1322 (lwlv E b i3) [] Xc1) : WW p l e room_1 s m args below meth c 4 Q E (wC E Xm) cells slots (adC E.2.2.1 (sn Zc)) Zc 295 (lwlv E b i3) [] Xc := by
  refine ww_aload_n (pc := 295) hC dL_law_295 2 rfl ?_
  refine ww_aload_n (pc := 296) hC dL_law_296 3 rfl ?_
  refine ww_iload_n (pc := 297) hC dL_law_297 0 rfl ?_
  refine ww_iconst (pc := 298) hC (v := (1 : Int32)) dL_law_298 (by decide) ?_
  refine ww_iadd (pc := 299) hC dL_law_299 ?_
  refine ww_sld (pc := 300) hC hE hX hbl hv1 dL_law_300 ?_
  refine ww_aload_n (pc := 301) hC dL_law_301 3 rfl ?_
  refine ww_iload_n (pc := 302) hC dL_law_302 0 rfl ?_
  refine ww_iconst (pc := 303) hC (v := (2 : Int32)) dL_law_303 (by decide) ?_
  refine ww_iadd (pc := 304) hC dL_law_304 ?_
  refine ww_sld (pc := 305) hC hE hX hbl hv2 dL_law_305 ?_
  refine ww_aload_n (pc := 306) hC dL_law_306 3 rfl ?_
  refine ww_iload_n (pc := 307) hC dL_law_307 0 rfl ?_
  refine ww_iconst (pc := 308) hC (v := (3 : Int32)) dL_law_308 (by decide) ?_
  refine ww_iadd (pc := 309) hC dL_law_309 ?_
  refine ww_sld (pc := 310) hC hE hX hbl hv3 dL_law_310 ?_
  refine ww_callVi (pc := 311) hC [.int (xs (i3 + 1).toNatClampNeg), .int (xs (i3 + 2).toNatClampNeg), .int (xs (i3 + 3).toNatClampNeg)] (X' := Xc1) hL.1.1 hL.1.2 (by decide) (ceX11_row hL h1) ql_L_26 qi_X11_row qs_X11_X11_row qn_X11 qc_X11_row rfl ⟨by decide, by decide, rfl⟩ rfl ⟨Nat.le_of_ble_eq_true rfl, Nat.le_of_ble_eq_true rfl⟩ (by decide) (rest := []) (Nat.le_of_ble_eq_true rfl) dL_law_311 hf rfl ?_
  refine ww_toM ?_
  refine ww_aload_n (pc := 314) hC dL_law_314 1 rfl ?_
  refine ww_aload_n (pc := 315) hC dL_law_315 3 rfl ?_
  refine ww_iload_n (pc := 316) hC dL_law_316 0 rfl ?_
  refine ww_iconst (pc := 317) hC (v := (1 : Int32)) dL_law_317 (by decide) ?_
  refine ww_iadd (pc := 318) hC dL_law_318 ?_
  refine ww_sld (pc := 319) hC hE hX hbl hv1 dL_law_319 ?_
  refine ww_aload_n (pc := 320) hC dL_law_320 3 rfl ?_
  refine ww_iload_n (pc := 321) hC dL_law_321 0 rfl ?_
  refine ww_iconst (pc := 322) hC (v := (2 : Int32)) dL_law_322 (by decide) ?_
  refine ww_iadd (pc := 323) hC dL_law_323 ?_
  refine ww_sld (pc := 324) hC hE hX hbl hv2 dL_law_324 ?_
  refine ww_aload_n (pc := 325) hC dL_law_325 3 rfl ?_
  refine ww_iload_n (pc := 326) hC dL_law_326 0 rfl ?_
  refine ww_iconst (pc := 327) hC (v := (3 : Int32)) dL_law_327 (by decide) ?_
  refine ww_iadd (pc := 328) hC dL_law_328 ?_
  refine ww_sld (pc := 329) hC hE hX hbl hv3 dL_law_329 ?_
  refine ww_callVi (pc := 330) hC [.int (xs (i3 + 1).toNatClampNeg), .int (xs (i3 + 2).toNatClampNeg), .int (xs (i3 + 3).toNatClampNeg)] (X' := Xm1) layM0.1.1 layM0.1.2 (by decide) (ceX12_row layM0 h2) ql_L_30 qi_X12_row qs_X12_X12_row qn_X12 qc_X12_row rfl ⟨by decide, by decide, rfl⟩ rfl ⟨Nat.le_of_ble_eq_true rfl, Nat.le_of_ble_eq_true rfl⟩ (by decide) (rest := [.int r]) (Nat.le_of_ble_eq_true rfl) dL_law_330 hf rfl ?_
  refine ww_toC ?_
  refine ww_icmp_eq (pc := 333) hC (d := Classical.propDecidable _) (α := Unit) (f1 := some ()) (f2 := none) (r := ()) (if_pos rfl) 1322 dL_law_333 (by decide) (fun _ => ?_) (fun q => by cases q)
  exact kk
set_option maxHeartbeats 40000000 in
set_option maxRecDepth 100000 in
theorem law_4 {p : Program} {l : Launch} {e : Env} {s : State} {m : MethodId} {args : Array Value} {below : List Frame} {meth : Method} {c : Code} {Q : State → Prop} {E : XE} (hC : CX p s m args meth c E cL_law 4 "FootKeeperLaw") (hE : E.2.2.1 = s.heap.size) {b N : Nat} {xs : Nat → Int32} (hX : va_X b N xs s s.heap) (hbl : b < s.heap.size) {i3 : Int32} (hv1 : vp_in (i3 + 1) N) {cells slots : Nat} (hf : cells ≤ room_1.cells ∧ slots ≤ room_1.slots) {Zc : XS} {Xc Xm Xc1 Xm1 : XD} (hL : LayC Zc) {r : Int32} (h1 : fX11_feed Zc (xs (i3 + 1).toNatClampNeg) Xc = some (r, Xc1)) (h2 : fX12_feed (xs (i3 + 1).toNatClampNeg) Xm = some (r, Xm1))
    (kk : WW p l e room_1 s m args below meth c 4 Q E (wC E Xm1) cells slots (adC E.2.2.1 (sn Zc)) Zc 1322 (lwlv E b i3) [] Xc1) : WW p l e room_1 s m args below meth c 4 Q E (wC E Xm) cells slots (adC E.2.2.1 (sn Zc)) Zc 338 (lwlv E b i3) [] Xc := by
  refine ww_aload_n (pc := 338) hC dL_law_338 2 rfl ?_
  refine ww_aload_n (pc := 339) hC dL_law_339 3 rfl ?_
  refine ww_iload_n (pc := 340) hC dL_law_340 0 rfl ?_
  refine ww_iconst (pc := 341) hC (v := (1 : Int32)) dL_law_341 (by decide) ?_
  refine ww_iadd (pc := 342) hC dL_law_342 ?_
  refine ww_sld (pc := 343) hC hE hX hbl hv1 dL_law_343 ?_
  refine ww_callVi (pc := 344) hC [.int (xs (i3 + 1).toNatClampNeg)] (X' := Xc1) hL.1.1 hL.1.2 (by decide) (ceX11_feed hL h1) ql_L_31 qi_X11_feed qs_X11_X11_feed qn_X11 qc_X11_feed rfl ⟨by decide, by decide, rfl⟩ rfl ⟨Nat.le_of_ble_eq_true rfl, Nat.le_of_ble_eq_true rfl⟩ (by decide) (rest := []) (Nat.le_of_ble_eq_true rfl) dL_law_344 hf rfl ?_
  refine ww_toM ?_
  refine ww_aload_n (pc := 347) hC dL_law_347 1 rfl ?_
  refine ww_aload_n (pc := 348) hC dL_law_348 3 rfl ?_
  refine ww_iload_n (pc := 349) hC dL_law_349 0 rfl ?_
  refine ww_iconst (pc := 350) hC (v := (1 : Int32)) dL_law_350 (by decide) ?_
  refine ww_iadd (pc := 351) hC dL_law_351 ?_
  refine ww_sld (pc := 352) hC hE hX hbl hv1 dL_law_352 ?_
  refine ww_callVi (pc := 353) hC [.int (xs (i3 + 1).toNatClampNeg)] (X' := Xm1) layM0.1.1 layM0.1.2 (by decide) (ceX12_feed layM0 h2) ql_L_35 qi_X12_feed qs_X12_X12_feed qn_X12 qc_X12_feed rfl ⟨by decide, by decide, rfl⟩ rfl ⟨Nat.le_of_ble_eq_true rfl, Nat.le_of_ble_eq_true rfl⟩ (by decide) (rest := [.int r]) (Nat.le_of_ble_eq_true rfl) dL_law_353 hf rfl ?_
  refine ww_toC ?_
  refine ww_icmp_eq (pc := 356) hC (d := Classical.propDecidable _) (α := Unit) (f1 := some ()) (f2 := none) (r := ()) (if_pos rfl) 1322 dL_law_356 (by decide) (fun _ => ?_) (fun q => by cases q)
  exact kk
set_option maxHeartbeats 40000000 in
set_option maxRecDepth 100000 in
theorem law_5 {p : Program} {l : Launch} {e : Env} {s : State} {m : MethodId} {args : Array Value} {below : List Frame} {meth : Method} {c : Code} {Q : State → Prop} {E : XE} (hC : CX p s m args meth c E cL_law 4 "FootKeeperLaw") (hE : E.2.2.1 = s.heap.size) {b N : Nat} {xs : Nat → Int32} (hX : va_X b N xs s s.heap) (hbl : b < s.heap.size) {i3 : Int32}  {cells slots : Nat} (hf : cells ≤ room_1.cells ∧ slots ≤ room_1.slots) {Zc : XS} {Xc Xm Xc1 Xm1 : XD} (hL : LayC Zc) {r : Int32} (h1 : fX11_ground Zc  Xc = some (r, Xc1)) (h2 : fX12_ground  Xm = some (r, Xm1))
    (kk : WW p l e room_1 s m args below meth c 4 Q E (wC E Xm1) cells slots (adC E.2.2.1 (sn Zc)) Zc 1322 (lwlv E b i3) [] Xc1) : WW p l e room_1 s m args below meth c 4 Q E (wC E Xm) cells slots (adC E.2.2.1 (sn Zc)) Zc 361 (lwlv E b i3) [] Xc := by
  refine ww_aload_n (pc := 361) hC dL_law_361 2 rfl ?_
  refine ww_callVi (pc := 362) hC [] (X' := Xc1) hL.1.1 hL.1.2 (by decide) (ceX11_ground hL h1) ql_L_36 qi_X11_ground qs_X11_X11_ground qn_X11 qc_X11_ground rfl ⟨by decide, by decide, rfl⟩ rfl ⟨Nat.le_of_ble_eq_true rfl, Nat.le_of_ble_eq_true rfl⟩ (by decide) (rest := []) (Nat.le_of_ble_eq_true rfl) dL_law_362 hf rfl ?_
  refine ww_toM ?_
  refine ww_aload_n (pc := 365) hC dL_law_365 1 rfl ?_
  refine ww_callVi (pc := 366) hC [] (X' := Xm1) layM0.1.1 layM0.1.2 (by decide) (ceX12_ground layM0 h2) ql_L_40 qi_X12_ground qs_X12_X12_ground qn_X12 qc_X12_ground rfl ⟨by decide, by decide, rfl⟩ rfl ⟨Nat.le_of_ble_eq_true rfl, Nat.le_of_ble_eq_true rfl⟩ (by decide) (rest := [.int r]) (Nat.le_of_ble_eq_true rfl) dL_law_366 hf rfl ?_
  refine ww_toC ?_
  refine ww_icmp_eq (pc := 369) hC (d := Classical.propDecidable _) (α := Unit) (f1 := some ()) (f2 := none) (r := ()) (if_pos rfl) 1322 dL_law_369 (by decide) (fun _ => ?_) (fun q => by cases q)
  exact kk
set_option maxHeartbeats 40000000 in
set_option maxRecDepth 100000 in
theorem law_6 {p : Program} {l : Launch} {e : Env} {s : State} {m : MethodId} {args : Array Value} {below : List Frame} {meth : Method} {c : Code} {Q : State → Prop} {E : XE} (hC : CX p s m args meth c E cL_law 4 "FootKeeperLaw") (hE : E.2.2.1 = s.heap.size) {b N : Nat} {xs : Nat → Int32} (hX : va_X b N xs s s.heap) (hbl : b < s.heap.size) {i3 : Int32} (hv1 : vp_in (i3 + 1) N) {cells slots : Nat} (hf : cells ≤ room_1.cells ∧ slots ≤ room_1.slots) {Zc : XS} {Xc Xm : XD} (hL : LayC Zc) {r : Int32} (h1 : fX11_told Zc (xs (i3 + 1).toNatClampNeg) Xc = some r) (h2 : fX12_told (xs (i3 + 1).toNatClampNeg) Xm = some r)
    (kk : WW p l e room_1 s m args below meth c 4 Q E (wC E Xm) cells slots (adC E.2.2.1 (sn Zc)) Zc 1322 (lwlv E b i3) [] Xc) : WW p l e room_1 s m args below meth c 4 Q E (wC E Xm) cells slots (adC E.2.2.1 (sn Zc)) Zc 374 (lwlv E b i3) [] Xc := by
  refine ww_aload_n (pc := 374) hC dL_law_374 2 rfl ?_
  refine ww_aload_n (pc := 375) hC dL_law_375 3 rfl ?_
  refine ww_iload_n (pc := 376) hC dL_law_376 0 rfl ?_
  refine ww_iconst (pc := 377) hC (v := (1 : Int32)) dL_law_377 (by decide) ?_
  refine ww_iadd (pc := 378) hC dL_law_378 ?_
  refine ww_sld (pc := 379) hC hE hX hbl hv1 dL_law_379 ?_
  refine ww_callVi (pc := 380) hC [.int (xs (i3 + 1).toNatClampNeg)] (X' := Xc) hL.1.1 hL.1.2 (by decide) (ceX11_told hL h1) ql_L_41 qi_X11_told qs_X11_X11_told qn_X11 qc_X11_told rfl ⟨by decide, by decide, rfl⟩ rfl ⟨Nat.le_of_ble_eq_true rfl, Nat.le_of_ble_eq_true rfl⟩ (by decide) (rest := []) (Nat.le_of_ble_eq_true rfl) dL_law_380 hf rfl ?_
  refine ww_toM ?_
  refine ww_aload_n (pc := 383) hC dL_law_383 1 rfl ?_
  refine ww_aload_n (pc := 384) hC dL_law_384 3 rfl ?_
  refine ww_iload_n (pc := 385) hC dL_law_385 0 rfl ?_
  refine ww_iconst (pc := 386) hC (v := (1 : Int32)) dL_law_386 (by decide) ?_
  refine ww_iadd (pc := 387) hC dL_law_387 ?_
  refine ww_sld (pc := 388) hC hE hX hbl hv1 dL_law_388 ?_
  refine ww_callVi (pc := 389) hC [.int (xs (i3 + 1).toNatClampNeg)] (X' := Xm) layM0.1.1 layM0.1.2 (by decide) (ceX12_told layM0 h2) ql_L_44 qi_X12_told qs_X12_X12_told qn_X12 qc_X12_told rfl ⟨by decide, by decide, rfl⟩ rfl ⟨Nat.le_of_ble_eq_true rfl, Nat.le_of_ble_eq_true rfl⟩ (by decide) (rest := [.int r]) (Nat.le_of_ble_eq_true rfl) dL_law_389 hf rfl ?_
  refine ww_toC ?_
  refine ww_icmp_eq (pc := 392) hC (d := Classical.propDecidable _) (α := Unit) (f1 := some ()) (f2 := none) (r := ()) (if_pos rfl) 1322 dL_law_392 (by decide) (fun _ => ?_) (fun q => by cases q)
  exact kk
set_option maxHeartbeats 40000000 in
set_option maxRecDepth 100000 in
theorem law_7 {p : Program} {l : Launch} {e : Env} {s : State} {m : MethodId} {args : Array Value} {below : List Frame} {meth : Method} {c : Code} {Q : State → Prop} {E : XE} (hC : CX p s m args meth c E cL_law 4 "FootKeeperLaw") (hE : E.2.2.1 = s.heap.size) {b N : Nat} {xs : Nat → Int32} (hX : va_X b N xs s s.heap) (hbl : b < s.heap.size) {i3 : Int32} (hv1 : vp_in (i3 + 1) N) (hv2 : vp_in (i3 + 2) N) (hv3 : vp_in (i3 + 3) N) {cells slots : Nat} (hf : cells ≤ room_1.cells ∧ slots ≤ room_1.slots) {Zc : XS} {Xc Xm Xc1 Xm1 : XD} (hL : LayC Zc) {r : Int32} (h1 : fX11_chance Zc (xs (i3 + 1).toNatClampNeg) (xs (i3 + 2).toNatClampNeg) (xs (i3 + 3).toNatClampNeg) Xc = some (r, Xc1)) (h2 : fX12_chance (xs (i3 + 1).toNatClampNeg) (xs (i3 + 2).toNatClampNeg) (xs (i3 + 3).toNatClampNeg) Xm = some (r, Xm1))
    (kk : WW p l e room_1 s m args below meth c 4 Q E (wC E Xm1) cells slots (adC E.2.2.1 (sn Zc)) Zc 1322 (lwlv E b i3) [] Xc1) : WW p l e room_1 s m args below meth c 4 Q E (wC E Xm) cells slots (adC E.2.2.1 (sn Zc)) Zc 397 (lwlv E b i3) [] Xc := by
  refine ww_aload_n (pc := 397) hC dL_law_397 2 rfl ?_
  refine ww_aload_n (pc := 398) hC dL_law_398 3 rfl ?_
  refine ww_iload_n (pc := 399) hC dL_law_399 0 rfl ?_
  refine ww_iconst (pc := 400) hC (v := (1 : Int32)) dL_law_400 (by decide) ?_
  refine ww_iadd (pc := 401) hC dL_law_401 ?_
  refine ww_sld (pc := 402) hC hE hX hbl hv1 dL_law_402 ?_
  refine ww_aload_n (pc := 403) hC dL_law_403 3 rfl ?_
  refine ww_iload_n (pc := 404) hC dL_law_404 0 rfl ?_
  refine ww_iconst (pc := 405) hC (v := (2 : Int32)) dL_law_405 (by decide) ?_
  refine ww_iadd (pc := 406) hC dL_law_406 ?_
  refine ww_sld (pc := 407) hC hE hX hbl hv2 dL_law_407 ?_
  refine ww_aload_n (pc := 408) hC dL_law_408 3 rfl ?_
  refine ww_iload_n (pc := 409) hC dL_law_409 0 rfl ?_
  refine ww_iconst (pc := 410) hC (v := (3 : Int32)) dL_law_410 (by decide) ?_
  refine ww_iadd (pc := 411) hC dL_law_411 ?_
  refine ww_sld (pc := 412) hC hE hX hbl hv3 dL_law_412 ?_
  refine ww_callVi (pc := 413) hC [.int (xs (i3 + 1).toNatClampNeg), .int (xs (i3 + 2).toNatClampNeg), .int (xs (i3 + 3).toNatClampNeg)] (X' := Xc1) hL.1.1 hL.1.2 (by decide) (ceX11_chance hL h1) ql_L_45 qi_X11_chance qs_X11_X11_chance qn_X11 qc_X11_chance rfl ⟨by decide, by decide, rfl⟩ rfl ⟨Nat.le_of_ble_eq_true rfl, Nat.le_of_ble_eq_true rfl⟩ (by decide) (rest := []) (Nat.le_of_ble_eq_true rfl) dL_law_413 hf rfl ?_
  refine ww_toM ?_
  refine ww_aload_n (pc := 416) hC dL_law_416 1 rfl ?_
  refine ww_aload_n (pc := 417) hC dL_law_417 3 rfl ?_
  refine ww_iload_n (pc := 418) hC dL_law_418 0 rfl ?_
  refine ww_iconst (pc := 419) hC (v := (1 : Int32)) dL_law_419 (by decide) ?_
  refine ww_iadd (pc := 420) hC dL_law_420 ?_
  refine ww_sld (pc := 421) hC hE hX hbl hv1 dL_law_421 ?_
  refine ww_aload_n (pc := 422) hC dL_law_422 3 rfl ?_
  refine ww_iload_n (pc := 423) hC dL_law_423 0 rfl ?_
  refine ww_iconst (pc := 424) hC (v := (2 : Int32)) dL_law_424 (by decide) ?_
  refine ww_iadd (pc := 425) hC dL_law_425 ?_
  refine ww_sld (pc := 426) hC hE hX hbl hv2 dL_law_426 ?_
  refine ww_aload_n (pc := 427) hC dL_law_427 3 rfl ?_
  refine ww_iload_n (pc := 428) hC dL_law_428 0 rfl ?_
  refine ww_iconst (pc := 429) hC (v := (3 : Int32)) dL_law_429 (by decide) ?_
  refine ww_iadd (pc := 430) hC dL_law_430 ?_
  refine ww_sld (pc := 431) hC hE hX hbl hv3 dL_law_431 ?_
  refine ww_callVi (pc := 432) hC [.int (xs (i3 + 1).toNatClampNeg), .int (xs (i3 + 2).toNatClampNeg), .int (xs (i3 + 3).toNatClampNeg)] (X' := Xm1) layM0.1.1 layM0.1.2 (by decide) (ceX12_chance layM0 h2) ql_L_48 qi_X12_chance qs_X12_X12_chance qn_X12 qc_X12_chance rfl ⟨by decide, by decide, rfl⟩ rfl ⟨Nat.le_of_ble_eq_true rfl, Nat.le_of_ble_eq_true rfl⟩ (by decide) (rest := [.int r]) (Nat.le_of_ble_eq_true rfl) dL_law_432 hf rfl ?_
  refine ww_toC ?_
  refine ww_icmp_eq (pc := 435) hC (d := Classical.propDecidable _) (α := Unit) (f1 := some ()) (f2 := none) (r := ()) (if_pos rfl) 1322 dL_law_435 (by decide) (fun _ => ?_) (fun q => by cases q)
  exact kk
set_option maxHeartbeats 40000000 in
set_option maxRecDepth 100000 in
theorem law_8 {p : Program} {l : Launch} {e : Env} {s : State} {m : MethodId} {args : Array Value} {below : List Frame} {meth : Method} {c : Code} {Q : State → Prop} {E : XE} (hC : CX p s m args meth c E cL_law 4 "FootKeeperLaw") (hE : E.2.2.1 = s.heap.size) {b N : Nat} {xs : Nat → Int32} (hX : va_X b N xs s s.heap) (hbl : b < s.heap.size) {i3 : Int32} (hv1 : vp_in (i3 + 1) N) (hv2 : vp_in (i3 + 2) N) {cells slots : Nat} (hf : cells ≤ room_1.cells ∧ slots ≤ room_1.slots) {Zc : XS} {Xc Xm Xc1 Xm1 : XD} (hL : LayC Zc) {r : Int32} (h1 : fX11_shoot Zc (xs (i3 + 1).toNatClampNeg) (xs (i3 + 2).toNatClampNeg) Xc = some (r, Xc1)) (h2 : fX12_shoot (xs (i3 + 1).toNatClampNeg) (xs (i3 + 2).toNatClampNeg) Xm = some (r, Xm1))
    (kk : WW p l e room_1 s m args below meth c 4 Q E (wC E Xm1) cells slots (adC E.2.2.1 (sn Zc)) Zc 1322 (lwlv E b i3) [] Xc1) : WW p l e room_1 s m args below meth c 4 Q E (wC E Xm) cells slots (adC E.2.2.1 (sn Zc)) Zc 440 (lwlv E b i3) [] Xc := by
  refine ww_aload_n (pc := 440) hC dL_law_440 2 rfl ?_
  refine ww_aload_n (pc := 441) hC dL_law_441 3 rfl ?_
  refine ww_iload_n (pc := 442) hC dL_law_442 0 rfl ?_
  refine ww_iconst (pc := 443) hC (v := (1 : Int32)) dL_law_443 (by decide) ?_
  refine ww_iadd (pc := 444) hC dL_law_444 ?_
  refine ww_sld (pc := 445) hC hE hX hbl hv1 dL_law_445 ?_
  refine ww_aload_n (pc := 446) hC dL_law_446 3 rfl ?_
  refine ww_iload_n (pc := 447) hC dL_law_447 0 rfl ?_
  refine ww_iconst (pc := 448) hC (v := (2 : Int32)) dL_law_448 (by decide) ?_
  refine ww_iadd (pc := 449) hC dL_law_449 ?_
  refine ww_sld (pc := 450) hC hE hX hbl hv2 dL_law_450 ?_
  refine ww_callVi (pc := 451) hC [.int (xs (i3 + 1).toNatClampNeg), .int (xs (i3 + 2).toNatClampNeg)] (X' := Xc1) hL.1.1 hL.1.2 (by decide) (ceX11_shoot hL h1) ql_L_49 qi_X11_shoot qs_X11_X11_shoot qn_X11 qc_X11_shoot rfl ⟨by decide, by decide, rfl⟩ rfl ⟨Nat.le_of_ble_eq_true rfl, Nat.le_of_ble_eq_true rfl⟩ (by decide) (rest := []) (Nat.le_of_ble_eq_true rfl) dL_law_451 hf rfl ?_
  refine ww_toM ?_
  refine ww_aload_n (pc := 454) hC dL_law_454 1 rfl ?_
  refine ww_aload_n (pc := 455) hC dL_law_455 3 rfl ?_
  refine ww_iload_n (pc := 456) hC dL_law_456 0 rfl ?_
  refine ww_iconst (pc := 457) hC (v := (1 : Int32)) dL_law_457 (by decide) ?_
  refine ww_iadd (pc := 458) hC dL_law_458 ?_
  refine ww_sld (pc := 459) hC hE hX hbl hv1 dL_law_459 ?_
  refine ww_aload_n (pc := 460) hC dL_law_460 3 rfl ?_
  refine ww_iload_n (pc := 461) hC dL_law_461 0 rfl ?_
  refine ww_iconst (pc := 462) hC (v := (2 : Int32)) dL_law_462 (by decide) ?_
  refine ww_iadd (pc := 463) hC dL_law_463 ?_
  refine ww_sld (pc := 464) hC hE hX hbl hv2 dL_law_464 ?_
  refine ww_callVi (pc := 465) hC [.int (xs (i3 + 1).toNatClampNeg), .int (xs (i3 + 2).toNatClampNeg)] (X' := Xm1) layM0.1.1 layM0.1.2 (by decide) (ceX12_shoot layM0 h2) ql_L_52 qi_X12_shoot qs_X12_X12_shoot qn_X12 qc_X12_shoot rfl ⟨by decide, by decide, rfl⟩ rfl ⟨Nat.le_of_ble_eq_true rfl, Nat.le_of_ble_eq_true rfl⟩ (by decide) (rest := [.int r]) (Nat.le_of_ble_eq_true rfl) dL_law_465 hf rfl ?_
  refine ww_toC ?_
  refine ww_icmp_eq (pc := 468) hC (d := Classical.propDecidable _) (α := Unit) (f1 := some ()) (f2 := none) (r := ()) (if_pos rfl) 1322 dL_law_468 (by decide) (fun _ => ?_) (fun q => by cases q)
  exact kk
set_option maxHeartbeats 40000000 in
set_option maxRecDepth 100000 in
theorem law_9 {p : Program} {l : Launch} {e : Env} {s : State} {m : MethodId} {args : Array Value} {below : List Frame} {meth : Method} {c : Code} {Q : State → Prop} {E : XE} (hC : CX p s m args meth c E cL_law 4 "FootKeeperLaw") (hE : E.2.2.1 = s.heap.size) {b N : Nat} {xs : Nat → Int32} (hX : va_X b N xs s s.heap) (hbl : b < s.heap.size) {i3 : Int32}  {cells slots : Nat} (hf : cells ≤ room_1.cells ∧ slots ≤ room_1.slots) {Zc : XS} {Xc Xm Xc1 Xm1 : XD} (hL : LayC Zc) {r : Int32} (h1 : fX11_anew Zc  Xc = some (r, Xc1)) (h2 : fX12_anew  Xm = some (r, Xm1))
    (kk : WW p l e room_1 s m args below meth c 4 Q E (wC E Xm1) cells slots (adC E.2.2.1 (sn Zc)) Zc 1322 (lwlv E b i3) [] Xc1) : WW p l e room_1 s m args below meth c 4 Q E (wC E Xm) cells slots (adC E.2.2.1 (sn Zc)) Zc 473 (lwlv E b i3) [] Xc := by
  refine ww_aload_n (pc := 473) hC dL_law_473 2 rfl ?_
  refine ww_callVi (pc := 474) hC [] (X' := Xc1) hL.1.1 hL.1.2 (by decide) (ceX11_anew hL h1) ql_L_53 qi_X11_anew qs_X11_X11_anew qn_X11 qc_X11_anew rfl ⟨by decide, by decide, rfl⟩ rfl ⟨Nat.le_of_ble_eq_true rfl, Nat.le_of_ble_eq_true rfl⟩ (by decide) (rest := []) (Nat.le_of_ble_eq_true rfl) dL_law_474 hf rfl ?_
  refine ww_toM ?_
  refine ww_aload_n (pc := 477) hC dL_law_477 1 rfl ?_
  refine ww_callVi (pc := 478) hC [] (X' := Xm1) layM0.1.1 layM0.1.2 (by decide) (ceX12_anew layM0 h2) ql_L_56 qi_X12_anew qs_X12_X12_anew qn_X12 qc_X12_anew rfl ⟨by decide, by decide, rfl⟩ rfl ⟨Nat.le_of_ble_eq_true rfl, Nat.le_of_ble_eq_true rfl⟩ (by decide) (rest := [.int r]) (Nat.le_of_ble_eq_true rfl) dL_law_478 hf rfl ?_
  refine ww_toC ?_
  refine ww_icmp_eq (pc := 481) hC (d := Classical.propDecidable _) (α := Unit) (f1 := some ()) (f2 := none) (r := ()) (if_pos rfl) 1322 dL_law_481 (by decide) (fun _ => ?_) (fun q => by cases q)
  exact kk
set_option maxHeartbeats 40000000 in
set_option maxRecDepth 100000 in
theorem law_10 {p : Program} {l : Launch} {e : Env} {s : State} {m : MethodId} {args : Array Value} {below : List Frame} {meth : Method} {c : Code} {Q : State → Prop} {E : XE} (hC : CX p s m args meth c E cL_law 4 "FootKeeperLaw") (hE : E.2.2.1 = s.heap.size) {b N : Nat} {xs : Nat → Int32} (hX : va_X b N xs s s.heap) (hbl : b < s.heap.size) {i3 : Int32} (hv1 : vp_in (i3 + 1) N) (hv2 : vp_in (i3 + 2) N) {cells slots : Nat} (hf : cells ≤ room_1.cells ∧ slots ≤ room_1.slots) {Zc : XS} {Xc Xm Xc1 Xm1 : XD} (hL : LayC Zc) {r : Int32} (h1 : fX11_best Zc (xs (i3 + 1).toNatClampNeg) (xs (i3 + 2).toNatClampNeg) Xc = some (r, Xc1)) (h2 : fX12_best (xs (i3 + 1).toNatClampNeg) (xs (i3 + 2).toNatClampNeg) Xm = some (r, Xm1))
    (kk : WW p l e room_1 s m args below meth c 4 Q E (wC E Xm1) cells slots (adC E.2.2.1 (sn Zc)) Zc 1322 (lwlv E b i3) [] Xc1) : WW p l e room_1 s m args below meth c 4 Q E (wC E Xm) cells slots (adC E.2.2.1 (sn Zc)) Zc 486 (lwlv E b i3) [] Xc := by
  refine ww_aload_n (pc := 486) hC dL_law_486 2 rfl ?_
  refine ww_aload_n (pc := 487) hC dL_law_487 3 rfl ?_
  refine ww_iload_n (pc := 488) hC dL_law_488 0 rfl ?_
  refine ww_iconst (pc := 489) hC (v := (1 : Int32)) dL_law_489 (by decide) ?_
  refine ww_iadd (pc := 490) hC dL_law_490 ?_
  refine ww_sld (pc := 491) hC hE hX hbl hv1 dL_law_491 ?_
  refine ww_aload_n (pc := 492) hC dL_law_492 3 rfl ?_
  refine ww_iload_n (pc := 493) hC dL_law_493 0 rfl ?_
  refine ww_iconst (pc := 494) hC (v := (2 : Int32)) dL_law_494 (by decide) ?_
  refine ww_iadd (pc := 495) hC dL_law_495 ?_
  refine ww_sld (pc := 496) hC hE hX hbl hv2 dL_law_496 ?_
  refine ww_callVi (pc := 497) hC [.int (xs (i3 + 1).toNatClampNeg), .int (xs (i3 + 2).toNatClampNeg)] (X' := Xc1) hL.1.1 hL.1.2 (by decide) (ceX11_best hL h1) ql_L_57 qi_X11_best qs_X11_X11_best qn_X11 qc_X11_best rfl ⟨by decide, by decide, rfl⟩ rfl ⟨Nat.le_of_ble_eq_true rfl, Nat.le_of_ble_eq_true rfl⟩ (by decide) (rest := []) (Nat.le_of_ble_eq_true rfl) dL_law_497 hf rfl ?_
  refine ww_toM ?_
  refine ww_aload_n (pc := 500) hC dL_law_500 1 rfl ?_
  refine ww_aload_n (pc := 501) hC dL_law_501 3 rfl ?_
  refine ww_iload_n (pc := 502) hC dL_law_502 0 rfl ?_
  refine ww_iconst (pc := 503) hC (v := (1 : Int32)) dL_law_503 (by decide) ?_
  refine ww_iadd (pc := 504) hC dL_law_504 ?_
  refine ww_sld (pc := 505) hC hE hX hbl hv1 dL_law_505 ?_
  refine ww_aload_n (pc := 506) hC dL_law_506 3 rfl ?_
  refine ww_iload_n (pc := 507) hC dL_law_507 0 rfl ?_
  refine ww_iconst (pc := 508) hC (v := (2 : Int32)) dL_law_508 (by decide) ?_
  refine ww_iadd (pc := 509) hC dL_law_509 ?_
  refine ww_sld (pc := 510) hC hE hX hbl hv2 dL_law_510 ?_
  refine ww_callVi (pc := 511) hC [.int (xs (i3 + 1).toNatClampNeg), .int (xs (i3 + 2).toNatClampNeg)] (X' := Xm1) layM0.1.1 layM0.1.2 (by decide) (ceX12_best layM0 h2) ql_L_60 qi_X12_best qs_X12_X12_best qn_X12 qc_X12_best rfl ⟨by decide, by decide, rfl⟩ rfl ⟨Nat.le_of_ble_eq_true rfl, Nat.le_of_ble_eq_true rfl⟩ (by decide) (rest := [.int r]) (Nat.le_of_ble_eq_true rfl) dL_law_511 hf rfl ?_
  refine ww_toC ?_
  refine ww_icmp_eq (pc := 514) hC (d := Classical.propDecidable _) (α := Unit) (f1 := some ()) (f2 := none) (r := ()) (if_pos rfl) 1322 dL_law_514 (by decide) (fun _ => ?_) (fun q => by cases q)
  exact kk
set_option maxHeartbeats 40000000 in
set_option maxRecDepth 100000 in
theorem law_11 {p : Program} {l : Launch} {e : Env} {s : State} {m : MethodId} {args : Array Value} {below : List Frame} {meth : Method} {c : Code} {Q : State → Prop} {E : XE} (hC : CX p s m args meth c E cL_law 4 "FootKeeperLaw") (hE : E.2.2.1 = s.heap.size) {b N : Nat} {xs : Nat → Int32} (hX : va_X b N xs s s.heap) (hbl : b < s.heap.size) {i3 : Int32} (hv1 : vp_in (i3 + 1) N) (hv2 : vp_in (i3 + 2) N) {cells slots : Nat} (hf : cells ≤ room_1.cells ∧ slots ≤ room_1.slots) {Zc : XS} {Xc Xm Xc1 Xm1 : XD} (hL : LayC Zc) {r : Int32} (h1 : fX11_mix Zc (xs (i3 + 1).toNatClampNeg) (xs (i3 + 2).toNatClampNeg) Xc = some (r, Xc1)) (h2 : fX12_mix (xs (i3 + 1).toNatClampNeg) (xs (i3 + 2).toNatClampNeg) Xm = some (r, Xm1))
    (kk : WW p l e room_1 s m args below meth c 4 Q E (wC E Xm1) cells slots (adC E.2.2.1 (sn Zc)) Zc 1322 (lwlv E b i3) [] Xc1) : WW p l e room_1 s m args below meth c 4 Q E (wC E Xm) cells slots (adC E.2.2.1 (sn Zc)) Zc 519 (lwlv E b i3) [] Xc := by
  refine ww_aload_n (pc := 519) hC dL_law_519 2 rfl ?_
  refine ww_aload_n (pc := 520) hC dL_law_520 3 rfl ?_
  refine ww_iload_n (pc := 521) hC dL_law_521 0 rfl ?_
  refine ww_iconst (pc := 522) hC (v := (1 : Int32)) dL_law_522 (by decide) ?_
  refine ww_iadd (pc := 523) hC dL_law_523 ?_
  refine ww_sld (pc := 524) hC hE hX hbl hv1 dL_law_524 ?_
  refine ww_aload_n (pc := 525) hC dL_law_525 3 rfl ?_
  refine ww_iload_n (pc := 526) hC dL_law_526 0 rfl ?_
  refine ww_iconst (pc := 527) hC (v := (2 : Int32)) dL_law_527 (by decide) ?_
  refine ww_iadd (pc := 528) hC dL_law_528 ?_
  refine ww_sld (pc := 529) hC hE hX hbl hv2 dL_law_529 ?_
  refine ww_callVi (pc := 530) hC [.int (xs (i3 + 1).toNatClampNeg), .int (xs (i3 + 2).toNatClampNeg)] (X' := Xc1) hL.1.1 hL.1.2 (by decide) (ceX11_mix hL h1) ql_L_61 qi_X11_mix qs_X11_X11_mix qn_X11 qc_X11_mix rfl ⟨by decide, by decide, rfl⟩ rfl ⟨Nat.le_of_ble_eq_true rfl, Nat.le_of_ble_eq_true rfl⟩ (by decide) (rest := []) (Nat.le_of_ble_eq_true rfl) dL_law_530 hf rfl ?_
  refine ww_toM ?_
  refine ww_aload_n (pc := 533) hC dL_law_533 1 rfl ?_
  refine ww_aload_n (pc := 534) hC dL_law_534 3 rfl ?_
  refine ww_iload_n (pc := 535) hC dL_law_535 0 rfl ?_
  refine ww_iconst (pc := 536) hC (v := (1 : Int32)) dL_law_536 (by decide) ?_
  refine ww_iadd (pc := 537) hC dL_law_537 ?_
  refine ww_sld (pc := 538) hC hE hX hbl hv1 dL_law_538 ?_
  refine ww_aload_n (pc := 539) hC dL_law_539 3 rfl ?_
  refine ww_iload_n (pc := 540) hC dL_law_540 0 rfl ?_
  refine ww_iconst (pc := 541) hC (v := (2 : Int32)) dL_law_541 (by decide) ?_
  refine ww_iadd (pc := 542) hC dL_law_542 ?_
  refine ww_sld (pc := 543) hC hE hX hbl hv2 dL_law_543 ?_
  refine ww_callVi (pc := 544) hC [.int (xs (i3 + 1).toNatClampNeg), .int (xs (i3 + 2).toNatClampNeg)] (X' := Xm1) layM0.1.1 layM0.1.2 (by decide) (ceX12_mix layM0 h2) ql_L_64 qi_X12_mix qs_X12_X12_mix qn_X12 qc_X12_mix rfl ⟨by decide, by decide, rfl⟩ rfl ⟨Nat.le_of_ble_eq_true rfl, Nat.le_of_ble_eq_true rfl⟩ (by decide) (rest := [.int r]) (Nat.le_of_ble_eq_true rfl) dL_law_544 hf rfl ?_
  refine ww_toC ?_
  refine ww_icmp_eq (pc := 547) hC (d := Classical.propDecidable _) (α := Unit) (f1 := some ()) (f2 := none) (r := ()) (if_pos rfl) 1322 dL_law_547 (by decide) (fun _ => ?_) (fun q => by cases q)
  exact kk
set_option maxHeartbeats 40000000 in
set_option maxRecDepth 100000 in
theorem law_12 {p : Program} {l : Launch} {e : Env} {s : State} {m : MethodId} {args : Array Value} {below : List Frame} {meth : Method} {c : Code} {Q : State → Prop} {E : XE} (hC : CX p s m args meth c E cL_law 4 "FootKeeperLaw") (hE : E.2.2.1 = s.heap.size) {b N : Nat} {xs : Nat → Int32} (hX : va_X b N xs s s.heap) (hbl : b < s.heap.size) {i3 : Int32} (hv1 : vp_in (i3 + 1) N) {cells slots : Nat} (hf : cells ≤ room_1.cells ∧ slots ≤ room_1.slots) {Zc : XS} {Xc Xm Xc1 Xm1 : XD} (hL : LayC Zc) {r : Int32} (h1 : fX11_line Zc (xs (i3 + 1).toNatClampNeg) Xc = some (r, Xc1)) (h2 : fX12_line (xs (i3 + 1).toNatClampNeg) Xm = some (r, Xm1))
    (kk : WW p l e room_1 s m args below meth c 4 Q E (wC E Xm1) cells slots (adC E.2.2.1 (sn Zc)) Zc 1322 (lwlv E b i3) [] Xc1) : WW p l e room_1 s m args below meth c 4 Q E (wC E Xm) cells slots (adC E.2.2.1 (sn Zc)) Zc 552 (lwlv E b i3) [] Xc := by
  refine ww_aload_n (pc := 552) hC dL_law_552 2 rfl ?_
  refine ww_aload_n (pc := 553) hC dL_law_553 3 rfl ?_
  refine ww_iload_n (pc := 554) hC dL_law_554 0 rfl ?_
  refine ww_iconst (pc := 555) hC (v := (1 : Int32)) dL_law_555 (by decide) ?_
  refine ww_iadd (pc := 556) hC dL_law_556 ?_
  refine ww_sld (pc := 557) hC hE hX hbl hv1 dL_law_557 ?_
  refine ww_callVi (pc := 558) hC [.int (xs (i3 + 1).toNatClampNeg)] (X' := Xc1) hL.1.1 hL.1.2 (by decide) (ceX11_line hL h1) ql_L_65 qi_X11_line qs_X11_X11_line qn_X11 qc_X11_line rfl ⟨by decide, by decide, rfl⟩ rfl ⟨Nat.le_of_ble_eq_true rfl, Nat.le_of_ble_eq_true rfl⟩ (by decide) (rest := []) (Nat.le_of_ble_eq_true rfl) dL_law_558 hf rfl ?_
  refine ww_toM ?_
  refine ww_aload_n (pc := 561) hC dL_law_561 1 rfl ?_
  refine ww_aload_n (pc := 562) hC dL_law_562 3 rfl ?_
  refine ww_iload_n (pc := 563) hC dL_law_563 0 rfl ?_
  refine ww_iconst (pc := 564) hC (v := (1 : Int32)) dL_law_564 (by decide) ?_
  refine ww_iadd (pc := 565) hC dL_law_565 ?_
  refine ww_sld (pc := 566) hC hE hX hbl hv1 dL_law_566 ?_
  refine ww_callVi (pc := 567) hC [.int (xs (i3 + 1).toNatClampNeg)] (X' := Xm1) layM0.1.1 layM0.1.2 (by decide) (ceX12_line layM0 h2) ql_L_68 qi_X12_line qs_X12_X12_line qn_X12 qc_X12_line rfl ⟨by decide, by decide, rfl⟩ rfl ⟨Nat.le_of_ble_eq_true rfl, Nat.le_of_ble_eq_true rfl⟩ (by decide) (rest := [.int r]) (Nat.le_of_ble_eq_true rfl) dL_law_567 hf rfl ?_
  refine ww_toC ?_
  refine ww_icmp_eq (pc := 570) hC (d := Classical.propDecidable _) (α := Unit) (f1 := some ()) (f2 := none) (r := ()) (if_pos rfl) 1322 dL_law_570 (by decide) (fun _ => ?_) (fun q => by cases q)
  exact kk
set_option maxHeartbeats 40000000 in
set_option maxRecDepth 100000 in
theorem law_13 {p : Program} {l : Launch} {e : Env} {s : State} {m : MethodId} {args : Array Value} {below : List Frame} {meth : Method} {c : Code} {Q : State → Prop} {E : XE} (hC : CX p s m args meth c E cL_law 4 "FootKeeperLaw") (hE : E.2.2.1 = s.heap.size) {b N : Nat} {xs : Nat → Int32} (hX : va_X b N xs s s.heap) (hbl : b < s.heap.size) {i3 : Int32} (hv1 : vp_in (i3 + 1) N) (hv2 : vp_in (i3 + 2) N) {cells slots : Nat} (hf : cells ≤ room_1.cells ∧ slots ≤ room_1.slots) {Zc : XS} {Xc Xm Xc1 Xm1 : XD} (hL : LayC Zc) {r : Int64} (h1 : fX11_likely Zc (xs (i3 + 1).toNatClampNeg) (xs (i3 + 2).toNatClampNeg) Xc = some (r, Xc1)) (h2 : fX12_likely (xs (i3 + 1).toNatClampNeg) (xs (i3 + 2).toNatClampNeg) Xm = some (r, Xm1))
    (kk : WW p l e room_1 s m args below meth c 4 Q E (wC E Xm1) cells slots (adC E.2.2.1 (sn Zc)) Zc 1322 (lwlv E b i3) [] Xc1) : WW p l e room_1 s m args below meth c 4 Q E (wC E Xm) cells slots (adC E.2.2.1 (sn Zc)) Zc 575 (lwlv E b i3) [] Xc := by
  refine ww_aload_n (pc := 575) hC dL_law_575 2 rfl ?_
  refine ww_aload_n (pc := 576) hC dL_law_576 3 rfl ?_
  refine ww_iload_n (pc := 577) hC dL_law_577 0 rfl ?_
  refine ww_iconst (pc := 578) hC (v := (1 : Int32)) dL_law_578 (by decide) ?_
  refine ww_iadd (pc := 579) hC dL_law_579 ?_
  refine ww_sld (pc := 580) hC hE hX hbl hv1 dL_law_580 ?_
  refine ww_aload_n (pc := 581) hC dL_law_581 3 rfl ?_
  refine ww_iload_n (pc := 582) hC dL_law_582 0 rfl ?_
  refine ww_iconst (pc := 583) hC (v := (2 : Int32)) dL_law_583 (by decide) ?_
  refine ww_iadd (pc := 584) hC dL_law_584 ?_
  refine ww_sld (pc := 585) hC hE hX hbl hv2 dL_law_585 ?_
  refine ww_callVl (pc := 586) hC [.int (xs (i3 + 1).toNatClampNeg), .int (xs (i3 + 2).toNatClampNeg)] (X' := Xc1) hL.1.1 hL.1.2 (by decide) (ceX11_likely hL h1) ql_L_69 qi_X11_likely qs_X11_X11_likely qn_X11 qc_X11_likely rfl ⟨by decide, by decide, rfl⟩ rfl ⟨Nat.le_of_ble_eq_true rfl, Nat.le_of_ble_eq_true rfl⟩ (by decide) (rest := []) (Nat.le_of_ble_eq_true rfl) dL_law_586 hf rfl ?_
  refine ww_toM ?_
  refine ww_aload_n (pc := 589) hC dL_law_589 1 rfl ?_
  refine ww_aload_n (pc := 590) hC dL_law_590 3 rfl ?_
  refine ww_iload_n (pc := 591) hC dL_law_591 0 rfl ?_
  refine ww_iconst (pc := 592) hC (v := (1 : Int32)) dL_law_592 (by decide) ?_
  refine ww_iadd (pc := 593) hC dL_law_593 ?_
  refine ww_sld (pc := 594) hC hE hX hbl hv1 dL_law_594 ?_
  refine ww_aload_n (pc := 595) hC dL_law_595 3 rfl ?_
  refine ww_iload_n (pc := 596) hC dL_law_596 0 rfl ?_
  refine ww_iconst (pc := 597) hC (v := (2 : Int32)) dL_law_597 (by decide) ?_
  refine ww_iadd (pc := 598) hC dL_law_598 ?_
  refine ww_sld (pc := 599) hC hE hX hbl hv2 dL_law_599 ?_
  refine ww_callVl (pc := 600) hC [.int (xs (i3 + 1).toNatClampNeg), .int (xs (i3 + 2).toNatClampNeg)] (X' := Xm1) layM0.1.1 layM0.1.2 (by decide) (ceX12_likely layM0 h2) ql_L_73 qi_X12_likely qs_X12_X12_likely qn_X12 qc_X12_likely rfl ⟨by decide, by decide, rfl⟩ rfl ⟨Nat.le_of_ble_eq_true rfl, Nat.le_of_ble_eq_true rfl⟩ (by decide) (rest := [.long r]) (Nat.le_of_ble_eq_true rfl) dL_law_600 hf rfl ?_
  refine ww_toC ?_
  refine ww_lcmp (pc := 603) hC dL_law_603 ?_
  rw [lcmp_rr]
  refine ww_if_eq (pc := 604) hC (d := Classical.propDecidable _) (α := Unit) (f1 := some ()) (f2 := none) (r := ()) (if_pos rfl) 1322 dL_law_604 (by decide) (fun _ => ?_) (fun q => by cases q)
  exact kk
set_option maxHeartbeats 40000000 in
set_option maxRecDepth 100000 in
theorem law_14 {p : Program} {l : Launch} {e : Env} {s : State} {m : MethodId} {args : Array Value} {below : List Frame} {meth : Method} {c : Code} {Q : State → Prop} {E : XE} (hC : CX p s m args meth c E cL_law 4 "FootKeeperLaw") (hE : E.2.2.1 = s.heap.size) {b N : Nat} {xs : Nat → Int32} (hX : va_X b N xs s s.heap) (hbl : b < s.heap.size) {i3 : Int32} (hv1 : vp_in (i3 + 1) N) {cells slots : Nat} (hf : cells ≤ room_1.cells ∧ slots ≤ room_1.slots) {Zc : XS} {Xc Xm Xc1 Xm1 : XD} (hL : LayC Zc) {r : Int32} (h1 : fX11_order Zc (xs (i3 + 1).toNatClampNeg) Xc = some (r, Xc1)) (h2 : fX12_order (xs (i3 + 1).toNatClampNeg) Xm = some (r, Xm1))
    (kk : WW p l e room_1 s m args below meth c 4 Q E (wC E Xm1) cells slots (adC E.2.2.1 (sn Zc)) Zc 1322 (lwlv E b i3) [] Xc1) : WW p l e room_1 s m args below meth c 4 Q E (wC E Xm) cells slots (adC E.2.2.1 (sn Zc)) Zc 609 (lwlv E b i3) [] Xc := by
  refine ww_aload_n (pc := 609) hC dL_law_609 2 rfl ?_
  refine ww_aload_n (pc := 610) hC dL_law_610 3 rfl ?_
  refine ww_iload_n (pc := 611) hC dL_law_611 0 rfl ?_
  refine ww_iconst (pc := 612) hC (v := (1 : Int32)) dL_law_612 (by decide) ?_
  refine ww_iadd (pc := 613) hC dL_law_613 ?_
  refine ww_sld (pc := 614) hC hE hX hbl hv1 dL_law_614 ?_
  refine ww_callVi (pc := 615) hC [.int (xs (i3 + 1).toNatClampNeg)] (X' := Xc1) hL.1.1 hL.1.2 (by decide) (ceX11_order hL h1) ql_L_74 qi_X11_order qs_X11_X11_order qn_X11 qc_X11_order rfl ⟨by decide, by decide, rfl⟩ rfl ⟨Nat.le_of_ble_eq_true rfl, Nat.le_of_ble_eq_true rfl⟩ (by decide) (rest := []) (Nat.le_of_ble_eq_true rfl) dL_law_615 hf rfl ?_
  refine ww_toM ?_
  refine ww_aload_n (pc := 618) hC dL_law_618 1 rfl ?_
  refine ww_aload_n (pc := 619) hC dL_law_619 3 rfl ?_
  refine ww_iload_n (pc := 620) hC dL_law_620 0 rfl ?_
  refine ww_iconst (pc := 621) hC (v := (1 : Int32)) dL_law_621 (by decide) ?_
  refine ww_iadd (pc := 622) hC dL_law_622 ?_
  refine ww_sld (pc := 623) hC hE hX hbl hv1 dL_law_623 ?_
  refine ww_callVi (pc := 624) hC [.int (xs (i3 + 1).toNatClampNeg)] (X' := Xm1) layM0.1.1 layM0.1.2 (by decide) (ceX12_order layM0 h2) ql_L_77 qi_X12_order qs_X12_X12_order qn_X12 qc_X12_order rfl ⟨by decide, by decide, rfl⟩ rfl ⟨Nat.le_of_ble_eq_true rfl, Nat.le_of_ble_eq_true rfl⟩ (by decide) (rest := [.int r]) (Nat.le_of_ble_eq_true rfl) dL_law_624 hf rfl ?_
  refine ww_toC ?_
  refine ww_icmp_eq (pc := 627) hC (d := Classical.propDecidable _) (α := Unit) (f1 := some ()) (f2 := none) (r := ()) (if_pos rfl) 1322 dL_law_627 (by decide) (fun _ => ?_) (fun q => by cases q)
  exact kk
set_option maxHeartbeats 40000000 in
set_option maxRecDepth 100000 in
theorem law_15 {p : Program} {l : Launch} {e : Env} {s : State} {m : MethodId} {args : Array Value} {below : List Frame} {meth : Method} {c : Code} {Q : State → Prop} {E : XE} (hC : CX p s m args meth c E cL_law 4 "FootKeeperLaw") (hE : E.2.2.1 = s.heap.size) {b N : Nat} {xs : Nat → Int32} (hX : va_X b N xs s s.heap) (hbl : b < s.heap.size) {i3 : Int32} (hv1 : vp_in (i3 + 1) N) (hv2 : vp_in (i3 + 2) N) (hv3 : vp_in (i3 + 3) N) {cells slots : Nat} (hf : cells ≤ room_1.cells ∧ slots ≤ room_1.slots) {Zc : XS} {Xc Xm Xc1 Xm1 : XD} (hL : LayC Zc) {r : Int64} (h1 : fX11_win Zc (xs (i3 + 1).toNatClampNeg) (xs (i3 + 2).toNatClampNeg) (xs (i3 + 3).toNatClampNeg) Xc = some (r, Xc1)) (h2 : fX12_win (xs (i3 + 1).toNatClampNeg) (xs (i3 + 2).toNatClampNeg) (xs (i3 + 3).toNatClampNeg) Xm = some (r, Xm1))
    (kk : WW p l e room_1 s m args below meth c 4 Q E (wC E Xm1) cells slots (adC E.2.2.1 (sn Zc)) Zc 1322 (lwlv E b i3) [] Xc1) : WW p l e room_1 s m args below meth c 4 Q E (wC E Xm) cells slots (adC E.2.2.1 (sn Zc)) Zc 632 (lwlv E b i3) [] Xc := by
  refine ww_aload_n (pc := 632) hC dL_law_632 2 rfl ?_
  refine ww_aload_n (pc := 633) hC dL_law_633 3 rfl ?_
  refine ww_iload_n (pc := 634) hC dL_law_634 0 rfl ?_
  refine ww_iconst (pc := 635) hC (v := (1 : Int32)) dL_law_635 (by decide) ?_
  refine ww_iadd (pc := 636) hC dL_law_636 ?_
  refine ww_sld (pc := 637) hC hE hX hbl hv1 dL_law_637 ?_
  refine ww_aload_n (pc := 638) hC dL_law_638 3 rfl ?_
  refine ww_iload_n (pc := 639) hC dL_law_639 0 rfl ?_
  refine ww_iconst (pc := 640) hC (v := (2 : Int32)) dL_law_640 (by decide) ?_
  refine ww_iadd (pc := 641) hC dL_law_641 ?_
  refine ww_sld (pc := 642) hC hE hX hbl hv2 dL_law_642 ?_
  refine ww_aload_n (pc := 643) hC dL_law_643 3 rfl ?_
  refine ww_iload_n (pc := 644) hC dL_law_644 0 rfl ?_
  refine ww_iconst (pc := 645) hC (v := (3 : Int32)) dL_law_645 (by decide) ?_
  refine ww_iadd (pc := 646) hC dL_law_646 ?_
  refine ww_sld (pc := 647) hC hE hX hbl hv3 dL_law_647 ?_
  refine ww_callVl (pc := 648) hC [.int (xs (i3 + 1).toNatClampNeg), .int (xs (i3 + 2).toNatClampNeg), .int (xs (i3 + 3).toNatClampNeg)] (X' := Xc1) hL.1.1 hL.1.2 (by decide) (ceX11_win hL h1) ql_L_78 qi_X11_win qs_X11_X11_win qn_X11 qc_X11_win rfl ⟨by decide, by decide, rfl⟩ rfl ⟨Nat.le_of_ble_eq_true rfl, Nat.le_of_ble_eq_true rfl⟩ (by decide) (rest := []) (Nat.le_of_ble_eq_true rfl) dL_law_648 hf rfl ?_
  refine ww_toM ?_
  refine ww_aload_n (pc := 651) hC dL_law_651 1 rfl ?_
  refine ww_aload_n (pc := 652) hC dL_law_652 3 rfl ?_
  refine ww_iload_n (pc := 653) hC dL_law_653 0 rfl ?_
  refine ww_iconst (pc := 654) hC (v := (1 : Int32)) dL_law_654 (by decide) ?_
  refine ww_iadd (pc := 655) hC dL_law_655 ?_
  refine ww_sld (pc := 656) hC hE hX hbl hv1 dL_law_656 ?_
  refine ww_aload_n (pc := 657) hC dL_law_657 3 rfl ?_
  refine ww_iload_n (pc := 658) hC dL_law_658 0 rfl ?_
  refine ww_iconst (pc := 659) hC (v := (2 : Int32)) dL_law_659 (by decide) ?_
  refine ww_iadd (pc := 660) hC dL_law_660 ?_
  refine ww_sld (pc := 661) hC hE hX hbl hv2 dL_law_661 ?_
  refine ww_aload_n (pc := 662) hC dL_law_662 3 rfl ?_
  refine ww_iload_n (pc := 663) hC dL_law_663 0 rfl ?_
  refine ww_iconst (pc := 664) hC (v := (3 : Int32)) dL_law_664 (by decide) ?_
  refine ww_iadd (pc := 665) hC dL_law_665 ?_
  refine ww_sld (pc := 666) hC hE hX hbl hv3 dL_law_666 ?_
  refine ww_callVl (pc := 667) hC [.int (xs (i3 + 1).toNatClampNeg), .int (xs (i3 + 2).toNatClampNeg), .int (xs (i3 + 3).toNatClampNeg)] (X' := Xm1) layM0.1.1 layM0.1.2 (by decide) (ceX12_win layM0 h2) ql_L_82 qi_X12_win qs_X12_X12_win qn_X12 qc_X12_win rfl ⟨by decide, by decide, rfl⟩ rfl ⟨Nat.le_of_ble_eq_true rfl, Nat.le_of_ble_eq_true rfl⟩ (by decide) (rest := [.long r]) (Nat.le_of_ble_eq_true rfl) dL_law_667 hf rfl ?_
  refine ww_toC ?_
  refine ww_lcmp (pc := 670) hC dL_law_670 ?_
  rw [lcmp_rr]
  refine ww_if_eq (pc := 671) hC (d := Classical.propDecidable _) (α := Unit) (f1 := some ()) (f2 := none) (r := ()) (if_pos rfl) 1322 dL_law_671 (by decide) (fun _ => ?_) (fun q => by cases q)
  exact kk
set_option maxHeartbeats 40000000 in
set_option maxRecDepth 100000 in
theorem law_16 {p : Program} {l : Launch} {e : Env} {s : State} {m : MethodId} {args : Array Value} {below : List Frame} {meth : Method} {c : Code} {Q : State → Prop} {E : XE} (hC : CX p s m args meth c E cL_law 4 "FootKeeperLaw") (hE : E.2.2.1 = s.heap.size) {b N : Nat} {xs : Nat → Int32} (hX : va_X b N xs s s.heap) (hbl : b < s.heap.size) {i3 : Int32} (hv1 : vp_in (i3 + 1) N) {cells slots : Nat} (hf : cells ≤ room_1.cells ∧ slots ≤ room_1.slots) {Zc : XS} {Xc Xm Xc1 Xm1 : XD} (hL : LayC Zc) {r : Int32} (h1 : fX11_worth Zc (xs (i3 + 1).toNatClampNeg) Xc = some (r, Xc1)) (h2 : fX12_worth (xs (i3 + 1).toNatClampNeg) Xm = some (r, Xm1))
    (kk : WW p l e room_1 s m args below meth c 4 Q E (wC E Xm1) cells slots (adC E.2.2.1 (sn Zc)) Zc 1322 (lwlv E b i3) [] Xc1) : WW p l e room_1 s m args below meth c 4 Q E (wC E Xm) cells slots (adC E.2.2.1 (sn Zc)) Zc 676 (lwlv E b i3) [] Xc := by
  refine ww_aload_n (pc := 676) hC dL_law_676 2 rfl ?_
  refine ww_aload_n (pc := 677) hC dL_law_677 3 rfl ?_
  refine ww_iload_n (pc := 678) hC dL_law_678 0 rfl ?_
  refine ww_iconst (pc := 679) hC (v := (1 : Int32)) dL_law_679 (by decide) ?_
  refine ww_iadd (pc := 680) hC dL_law_680 ?_
  refine ww_sld (pc := 681) hC hE hX hbl hv1 dL_law_681 ?_
  refine ww_callVi (pc := 682) hC [.int (xs (i3 + 1).toNatClampNeg)] (X' := Xc1) hL.1.1 hL.1.2 (by decide) (ceX11_worth hL h1) ql_L_83 qi_X11_worth qs_X11_X11_worth qn_X11 qc_X11_worth rfl ⟨by decide, by decide, rfl⟩ rfl ⟨Nat.le_of_ble_eq_true rfl, Nat.le_of_ble_eq_true rfl⟩ (by decide) (rest := []) (Nat.le_of_ble_eq_true rfl) dL_law_682 hf rfl ?_
  refine ww_toM ?_
  refine ww_aload_n (pc := 685) hC dL_law_685 1 rfl ?_
  refine ww_aload_n (pc := 686) hC dL_law_686 3 rfl ?_
  refine ww_iload_n (pc := 687) hC dL_law_687 0 rfl ?_
  refine ww_iconst (pc := 688) hC (v := (1 : Int32)) dL_law_688 (by decide) ?_
  refine ww_iadd (pc := 689) hC dL_law_689 ?_
  refine ww_sld (pc := 690) hC hE hX hbl hv1 dL_law_690 ?_
  refine ww_callVi (pc := 691) hC [.int (xs (i3 + 1).toNatClampNeg)] (X' := Xm1) layM0.1.1 layM0.1.2 (by decide) (ceX12_worth layM0 h2) ql_L_86 qi_X12_worth qs_X12_X12_worth qn_X12 qc_X12_worth rfl ⟨by decide, by decide, rfl⟩ rfl ⟨Nat.le_of_ble_eq_true rfl, Nat.le_of_ble_eq_true rfl⟩ (by decide) (rest := [.int r]) (Nat.le_of_ble_eq_true rfl) dL_law_691 hf rfl ?_
  refine ww_toC ?_
  refine ww_icmp_eq (pc := 694) hC (d := Classical.propDecidable _) (α := Unit) (f1 := some ()) (f2 := none) (r := ()) (if_pos rfl) 1322 dL_law_694 (by decide) (fun _ => ?_) (fun q => by cases q)
  exact kk
set_option maxHeartbeats 40000000 in
set_option maxRecDepth 100000 in
theorem law_17 {p : Program} {l : Launch} {e : Env} {s : State} {m : MethodId} {args : Array Value} {below : List Frame} {meth : Method} {c : Code} {Q : State → Prop} {E : XE} (hC : CX p s m args meth c E cL_law 4 "FootKeeperLaw") (hE : E.2.2.1 = s.heap.size) {b N : Nat} {xs : Nat → Int32} (hX : va_X b N xs s s.heap) (hbl : b < s.heap.size) {i3 : Int32} (hv1 : vp_in (i3 + 1) N) {cells slots : Nat} (hf : cells ≤ room_1.cells ∧ slots ≤ room_1.slots) {Zc : XS} {Xc Xm Xc1 Xm1 : XD} (hL : LayC Zc) {r : Int32} (h1 : fX11_stop Zc (xs (i3 + 1).toNatClampNeg) Xc = some (r, Xc1)) (h2 : fX12_stop (xs (i3 + 1).toNatClampNeg) Xm = some (r, Xm1))
    (kk : WW p l e room_1 s m args below meth c 4 Q E (wC E Xm1) cells slots (adC E.2.2.1 (sn Zc)) Zc 1322 (lwlv E b i3) [] Xc1) : WW p l e room_1 s m args below meth c 4 Q E (wC E Xm) cells slots (adC E.2.2.1 (sn Zc)) Zc 699 (lwlv E b i3) [] Xc := by
  refine ww_aload_n (pc := 699) hC dL_law_699 2 rfl ?_
  refine ww_aload_n (pc := 700) hC dL_law_700 3 rfl ?_
  refine ww_iload_n (pc := 701) hC dL_law_701 0 rfl ?_
  refine ww_iconst (pc := 702) hC (v := (1 : Int32)) dL_law_702 (by decide) ?_
  refine ww_iadd (pc := 703) hC dL_law_703 ?_
  refine ww_sld (pc := 704) hC hE hX hbl hv1 dL_law_704 ?_
  refine ww_callVi (pc := 705) hC [.int (xs (i3 + 1).toNatClampNeg)] (X' := Xc1) hL.1.1 hL.1.2 (by decide) (ceX11_stop hL h1) ql_L_87 qi_X11_stop qs_X11_X11_stop qn_X11 qc_X11_stop rfl ⟨by decide, by decide, rfl⟩ rfl ⟨Nat.le_of_ble_eq_true rfl, Nat.le_of_ble_eq_true rfl⟩ (by decide) (rest := []) (Nat.le_of_ble_eq_true rfl) dL_law_705 hf rfl ?_
  refine ww_toM ?_
  refine ww_aload_n (pc := 708) hC dL_law_708 1 rfl ?_
  refine ww_aload_n (pc := 709) hC dL_law_709 3 rfl ?_
  refine ww_iload_n (pc := 710) hC dL_law_710 0 rfl ?_
  refine ww_iconst (pc := 711) hC (v := (1 : Int32)) dL_law_711 (by decide) ?_
  refine ww_iadd (pc := 712) hC dL_law_712 ?_
  refine ww_sld (pc := 713) hC hE hX hbl hv1 dL_law_713 ?_
  refine ww_callVi (pc := 714) hC [.int (xs (i3 + 1).toNatClampNeg)] (X' := Xm1) layM0.1.1 layM0.1.2 (by decide) (ceX12_stop layM0 h2) ql_L_90 qi_X12_stop qs_X12_X12_stop qn_X12 qc_X12_stop rfl ⟨by decide, by decide, rfl⟩ rfl ⟨Nat.le_of_ble_eq_true rfl, Nat.le_of_ble_eq_true rfl⟩ (by decide) (rest := [.int r]) (Nat.le_of_ble_eq_true rfl) dL_law_714 hf rfl ?_
  refine ww_toC ?_
  refine ww_icmp_eq (pc := 717) hC (d := Classical.propDecidable _) (α := Unit) (f1 := some ()) (f2 := none) (r := ()) (if_pos rfl) 1322 dL_law_717 (by decide) (fun _ => ?_) (fun q => by cases q)
  exact kk
set_option maxHeartbeats 40000000 in
set_option maxRecDepth 100000 in
theorem law_18 {p : Program} {l : Launch} {e : Env} {s : State} {m : MethodId} {args : Array Value} {below : List Frame} {meth : Method} {c : Code} {Q : State → Prop} {E : XE} (hC : CX p s m args meth c E cL_law 4 "FootKeeperLaw") (hE : E.2.2.1 = s.heap.size) {b N : Nat} {xs : Nat → Int32} (hX : va_X b N xs s s.heap) (hbl : b < s.heap.size) {i3 : Int32} (hv1 : vp_in (i3 + 1) N) (hv2 : vp_in (i3 + 2) N) {cells slots : Nat} (hf : cells ≤ room_1.cells ∧ slots ≤ room_1.slots) {Zc : XS} {Xc Xm Xc1 Xm1 : XD} (hL : LayC Zc) {r : Int32} (h1 : fX11_forget Zc (xs (i3 + 1).toNatClampNeg) (xs (i3 + 2).toNatClampNeg) Xc = some (r, Xc1)) (h2 : fX12_forget (xs (i3 + 1).toNatClampNeg) (xs (i3 + 2).toNatClampNeg) Xm = some (r, Xm1))
    (kk : WW p l e room_1 s m args below meth c 4 Q E (wC E Xm1) cells slots (adC E.2.2.1 (sn Zc)) Zc 1322 (lwlv E b i3) [] Xc1) : WW p l e room_1 s m args below meth c 4 Q E (wC E Xm) cells slots (adC E.2.2.1 (sn Zc)) Zc 722 (lwlv E b i3) [] Xc := by
  refine ww_aload_n (pc := 722) hC dL_law_722 2 rfl ?_
  refine ww_aload_n (pc := 723) hC dL_law_723 3 rfl ?_
  refine ww_iload_n (pc := 724) hC dL_law_724 0 rfl ?_
  refine ww_iconst (pc := 725) hC (v := (1 : Int32)) dL_law_725 (by decide) ?_
  refine ww_iadd (pc := 726) hC dL_law_726 ?_
  refine ww_sld (pc := 727) hC hE hX hbl hv1 dL_law_727 ?_
  refine ww_aload_n (pc := 728) hC dL_law_728 3 rfl ?_
  refine ww_iload_n (pc := 729) hC dL_law_729 0 rfl ?_
  refine ww_iconst (pc := 730) hC (v := (2 : Int32)) dL_law_730 (by decide) ?_
  refine ww_iadd (pc := 731) hC dL_law_731 ?_
  refine ww_sld (pc := 732) hC hE hX hbl hv2 dL_law_732 ?_
  refine ww_callVi (pc := 733) hC [.int (xs (i3 + 1).toNatClampNeg), .int (xs (i3 + 2).toNatClampNeg)] (X' := Xc1) hL.1.1 hL.1.2 (by decide) (ceX11_forget hL h1) ql_L_91 qi_X11_forget qs_X11_X11_forget qn_X11 qc_X11_forget rfl ⟨by decide, by decide, rfl⟩ rfl ⟨Nat.le_of_ble_eq_true rfl, Nat.le_of_ble_eq_true rfl⟩ (by decide) (rest := []) (Nat.le_of_ble_eq_true rfl) dL_law_733 hf rfl ?_
  refine ww_toM ?_
  refine ww_aload_n (pc := 736) hC dL_law_736 1 rfl ?_
  refine ww_aload_n (pc := 737) hC dL_law_737 3 rfl ?_
  refine ww_iload_n (pc := 738) hC dL_law_738 0 rfl ?_
  refine ww_iconst (pc := 739) hC (v := (1 : Int32)) dL_law_739 (by decide) ?_
  refine ww_iadd (pc := 740) hC dL_law_740 ?_
  refine ww_sld (pc := 741) hC hE hX hbl hv1 dL_law_741 ?_
  refine ww_aload_n (pc := 742) hC dL_law_742 3 rfl ?_
  refine ww_iload_n (pc := 743) hC dL_law_743 0 rfl ?_
  refine ww_iconst (pc := 744) hC (v := (2 : Int32)) dL_law_744 (by decide) ?_
  refine ww_iadd (pc := 745) hC dL_law_745 ?_
  refine ww_sld (pc := 746) hC hE hX hbl hv2 dL_law_746 ?_
  refine ww_callVi (pc := 747) hC [.int (xs (i3 + 1).toNatClampNeg), .int (xs (i3 + 2).toNatClampNeg)] (X' := Xm1) layM0.1.1 layM0.1.2 (by decide) (ceX12_forget layM0 h2) ql_L_94 qi_X12_forget qs_X12_X12_forget qn_X12 qc_X12_forget rfl ⟨by decide, by decide, rfl⟩ rfl ⟨Nat.le_of_ble_eq_true rfl, Nat.le_of_ble_eq_true rfl⟩ (by decide) (rest := [.int r]) (Nat.le_of_ble_eq_true rfl) dL_law_747 hf rfl ?_
  refine ww_toC ?_
  refine ww_icmp_eq (pc := 750) hC (d := Classical.propDecidable _) (α := Unit) (f1 := some ()) (f2 := none) (r := ()) (if_pos rfl) 1322 dL_law_750 (by decide) (fun _ => ?_) (fun q => by cases q)
  exact kk
set_option maxHeartbeats 40000000 in
set_option maxRecDepth 100000 in
theorem law_19 {p : Program} {l : Launch} {e : Env} {s : State} {m : MethodId} {args : Array Value} {below : List Frame} {meth : Method} {c : Code} {Q : State → Prop} {E : XE} (hC : CX p s m args meth c E cL_law 4 "FootKeeperLaw") (hE : E.2.2.1 = s.heap.size) {b N : Nat} {xs : Nat → Int32} (hX : va_X b N xs s s.heap) (hbl : b < s.heap.size) {i3 : Int32} (hv1 : vp_in (i3 + 1) N) (hv2 : vp_in (i3 + 2) N) {cells slots : Nat} (hf : cells ≤ room_1.cells ∧ slots ≤ room_1.slots) {Zc : XS} {Xc Xm Xc1 Xm1 : XD} (hL : LayC Zc) {r : Int32} (h1 : fX11_caught Zc (xs (i3 + 1).toNatClampNeg) (xs (i3 + 2).toNatClampNeg) Xc = some (r, Xc1)) (h2 : fX12_caught (xs (i3 + 1).toNatClampNeg) (xs (i3 + 2).toNatClampNeg) Xm = some (r, Xm1))
    (kk : WW p l e room_1 s m args below meth c 4 Q E (wC E Xm1) cells slots (adC E.2.2.1 (sn Zc)) Zc 1322 (lwlv E b i3) [] Xc1) : WW p l e room_1 s m args below meth c 4 Q E (wC E Xm) cells slots (adC E.2.2.1 (sn Zc)) Zc 755 (lwlv E b i3) [] Xc := by
  refine ww_aload_n (pc := 755) hC dL_law_755 2 rfl ?_
  refine ww_aload_n (pc := 756) hC dL_law_756 3 rfl ?_
  refine ww_iload_n (pc := 757) hC dL_law_757 0 rfl ?_
  refine ww_iconst (pc := 758) hC (v := (1 : Int32)) dL_law_758 (by decide) ?_
  refine ww_iadd (pc := 759) hC dL_law_759 ?_
  refine ww_sld (pc := 760) hC hE hX hbl hv1 dL_law_760 ?_
  refine ww_aload_n (pc := 761) hC dL_law_761 3 rfl ?_
  refine ww_iload_n (pc := 762) hC dL_law_762 0 rfl ?_
  refine ww_iconst (pc := 763) hC (v := (2 : Int32)) dL_law_763 (by decide) ?_
  refine ww_iadd (pc := 764) hC dL_law_764 ?_
  refine ww_sld (pc := 765) hC hE hX hbl hv2 dL_law_765 ?_
  refine ww_callVi (pc := 766) hC [.int (xs (i3 + 1).toNatClampNeg), .int (xs (i3 + 2).toNatClampNeg)] (X' := Xc1) hL.1.1 hL.1.2 (by decide) (ceX11_caught hL h1) ql_L_95 qi_X11_caught qs_X11_X11_caught qn_X11 qc_X11_caught rfl ⟨by decide, by decide, rfl⟩ rfl ⟨Nat.le_of_ble_eq_true rfl, Nat.le_of_ble_eq_true rfl⟩ (by decide) (rest := []) (Nat.le_of_ble_eq_true rfl) dL_law_766 hf rfl ?_
  refine ww_toM ?_
  refine ww_aload_n (pc := 769) hC dL_law_769 1 rfl ?_
  refine ww_aload_n (pc := 770) hC dL_law_770 3 rfl ?_
  refine ww_iload_n (pc := 771) hC dL_law_771 0 rfl ?_
  refine ww_iconst (pc := 772) hC (v := (1 : Int32)) dL_law_772 (by decide) ?_
  refine ww_iadd (pc := 773) hC dL_law_773 ?_
  refine ww_sld (pc := 774) hC hE hX hbl hv1 dL_law_774 ?_
  refine ww_aload_n (pc := 775) hC dL_law_775 3 rfl ?_
  refine ww_iload_n (pc := 776) hC dL_law_776 0 rfl ?_
  refine ww_iconst (pc := 777) hC (v := (2 : Int32)) dL_law_777 (by decide) ?_
  refine ww_iadd (pc := 778) hC dL_law_778 ?_
  refine ww_sld (pc := 779) hC hE hX hbl hv2 dL_law_779 ?_
  refine ww_callVi (pc := 780) hC [.int (xs (i3 + 1).toNatClampNeg), .int (xs (i3 + 2).toNatClampNeg)] (X' := Xm1) layM0.1.1 layM0.1.2 (by decide) (ceX12_caught layM0 h2) ql_L_98 qi_X12_caught qs_X12_X12_caught qn_X12 qc_X12_caught rfl ⟨by decide, by decide, rfl⟩ rfl ⟨Nat.le_of_ble_eq_true rfl, Nat.le_of_ble_eq_true rfl⟩ (by decide) (rest := [.int r]) (Nat.le_of_ble_eq_true rfl) dL_law_780 hf rfl ?_
  refine ww_toC ?_
  refine ww_icmp_eq (pc := 783) hC (d := Classical.propDecidable _) (α := Unit) (f1 := some ()) (f2 := none) (r := ()) (if_pos rfl) 1322 dL_law_783 (by decide) (fun _ => ?_) (fun q => by cases q)
  exact kk
set_option maxHeartbeats 40000000 in
set_option maxRecDepth 100000 in
theorem law_20 {p : Program} {l : Launch} {e : Env} {s : State} {m : MethodId} {args : Array Value} {below : List Frame} {meth : Method} {c : Code} {Q : State → Prop} {E : XE} (hC : CX p s m args meth c E cL_law 4 "FootKeeperLaw") (hE : E.2.2.1 = s.heap.size) {b N : Nat} {xs : Nat → Int32} (hX : va_X b N xs s s.heap) (hbl : b < s.heap.size) {i3 : Int32} (hv1 : vp_in (i3 + 1) N) {cells slots : Nat} (hf : cells ≤ room_1.cells ∧ slots ≤ room_1.slots) {Zc : XS} {Xc Xm Xc1 Xm1 : XD} (hL : LayC Zc) {r : Int32} (h1 : fX11_see Zc (xs (i3 + 1).toNatClampNeg) Xc = some (r, Xc1)) (h2 : fX12_see (xs (i3 + 1).toNatClampNeg) Xm = some (r, Xm1))
    (kk : WW p l e room_1 s m args below meth c 4 Q E (wC E Xm1) cells slots (adC E.2.2.1 (sn Zc)) Zc 1322 (lwlv E b i3) [] Xc1) : WW p l e room_1 s m args below meth c 4 Q E (wC E Xm) cells slots (adC E.2.2.1 (sn Zc)) Zc 788 (lwlv E b i3) [] Xc := by
  refine ww_aload_n (pc := 788) hC dL_law_788 2 rfl ?_
  refine ww_aload_n (pc := 789) hC dL_law_789 3 rfl ?_
  refine ww_iload_n (pc := 790) hC dL_law_790 0 rfl ?_
  refine ww_iconst (pc := 791) hC (v := (1 : Int32)) dL_law_791 (by decide) ?_
  refine ww_iadd (pc := 792) hC dL_law_792 ?_
  refine ww_sld (pc := 793) hC hE hX hbl hv1 dL_law_793 ?_
  refine ww_callVi (pc := 794) hC [.int (xs (i3 + 1).toNatClampNeg)] (X' := Xc1) hL.1.1 hL.1.2 (by decide) (ceX11_see hL h1) ql_L_99 qi_X11_see qs_X11_X11_see qn_X11 qc_X11_see rfl ⟨by decide, by decide, rfl⟩ rfl ⟨Nat.le_of_ble_eq_true rfl, Nat.le_of_ble_eq_true rfl⟩ (by decide) (rest := []) (Nat.le_of_ble_eq_true rfl) dL_law_794 hf rfl ?_
  refine ww_toM ?_
  refine ww_aload_n (pc := 797) hC dL_law_797 1 rfl ?_
  refine ww_aload_n (pc := 798) hC dL_law_798 3 rfl ?_
  refine ww_iload_n (pc := 799) hC dL_law_799 0 rfl ?_
  refine ww_iconst (pc := 800) hC (v := (1 : Int32)) dL_law_800 (by decide) ?_
  refine ww_iadd (pc := 801) hC dL_law_801 ?_
  refine ww_sld (pc := 802) hC hE hX hbl hv1 dL_law_802 ?_
  refine ww_callVi (pc := 803) hC [.int (xs (i3 + 1).toNatClampNeg)] (X' := Xm1) layM0.1.1 layM0.1.2 (by decide) (ceX12_see layM0 h2) ql_L_102 qi_X12_see qs_X12_X12_see qn_X12 qc_X12_see rfl ⟨by decide, by decide, rfl⟩ rfl ⟨Nat.le_of_ble_eq_true rfl, Nat.le_of_ble_eq_true rfl⟩ (by decide) (rest := [.int r]) (Nat.le_of_ble_eq_true rfl) dL_law_803 hf rfl ?_
  refine ww_toC ?_
  refine ww_icmp_eq (pc := 806) hC (d := Classical.propDecidable _) (α := Unit) (f1 := some ()) (f2 := none) (r := ()) (if_pos rfl) 1322 dL_law_806 (by decide) (fun _ => ?_) (fun q => by cases q)
  exact kk
set_option maxHeartbeats 40000000 in
set_option maxRecDepth 100000 in
theorem law_21 {p : Program} {l : Launch} {e : Env} {s : State} {m : MethodId} {args : Array Value} {below : List Frame} {meth : Method} {c : Code} {Q : State → Prop} {E : XE} (hC : CX p s m args meth c E cL_law 4 "FootKeeperLaw") (hE : E.2.2.1 = s.heap.size) {b N : Nat} {xs : Nat → Int32} (hX : va_X b N xs s s.heap) (hbl : b < s.heap.size) {i3 : Int32}  {cells slots : Nat} (hf : cells ≤ room_1.cells ∧ slots ≤ room_1.slots) {Zc : XS} {Xc Xm Xc1 Xm1 : XD} (hL : LayC Zc) {r : Int32} (h1 : fX11_who Zc  Xc = some (r, Xc1)) (h2 : fX12_who  Xm = some (r, Xm1))
    (kk : WW p l e room_1 s m args below meth c 4 Q E (wC E Xm1) cells slots (adC E.2.2.1 (sn Zc)) Zc 1322 (lwlv E b i3) [] Xc1) : WW p l e room_1 s m args below meth c 4 Q E (wC E Xm) cells slots (adC E.2.2.1 (sn Zc)) Zc 811 (lwlv E b i3) [] Xc := by
  refine ww_aload_n (pc := 811) hC dL_law_811 2 rfl ?_
  refine ww_callVi (pc := 812) hC [] (X' := Xc1) hL.1.1 hL.1.2 (by decide) (ceX11_who hL h1) ql_L_103 qi_X11_who qs_X11_X11_who qn_X11 qc_X11_who rfl ⟨by decide, by decide, rfl⟩ rfl ⟨Nat.le_of_ble_eq_true rfl, Nat.le_of_ble_eq_true rfl⟩ (by decide) (rest := []) (Nat.le_of_ble_eq_true rfl) dL_law_812 hf rfl ?_
  refine ww_toM ?_
  refine ww_aload_n (pc := 815) hC dL_law_815 1 rfl ?_
  refine ww_callVi (pc := 816) hC [] (X' := Xm1) layM0.1.1 layM0.1.2 (by decide) (ceX12_who layM0 h2) ql_L_106 qi_X12_who qs_X12_X12_who qn_X12 qc_X12_who rfl ⟨by decide, by decide, rfl⟩ rfl ⟨Nat.le_of_ble_eq_true rfl, Nat.le_of_ble_eq_true rfl⟩ (by decide) (rest := [.int r]) (Nat.le_of_ble_eq_true rfl) dL_law_816 hf rfl ?_
  refine ww_toC ?_
  refine ww_icmp_eq (pc := 819) hC (d := Classical.propDecidable _) (α := Unit) (f1 := some ()) (f2 := none) (r := ()) (if_pos rfl) 1322 dL_law_819 (by decide) (fun _ => ?_) (fun q => by cases q)
  exact kk
set_option maxHeartbeats 40000000 in
set_option maxRecDepth 100000 in
theorem law_22 {p : Program} {l : Launch} {e : Env} {s : State} {m : MethodId} {args : Array Value} {below : List Frame} {meth : Method} {c : Code} {Q : State → Prop} {E : XE} (hC : CX p s m args meth c E cL_law 4 "FootKeeperLaw") (hE : E.2.2.1 = s.heap.size) {b N : Nat} {xs : Nat → Int32} (hX : va_X b N xs s s.heap) (hbl : b < s.heap.size) {i3 : Int32} (hv1 : vp_in (i3 + 1) N) (hv2 : vp_in (i3 + 2) N) {cells slots : Nat} (hf : cells ≤ room_1.cells ∧ slots ≤ room_1.slots) {Zc : XS} {Xc Xm Xc1 Xm1 : XD} (hL : LayC Zc) {r : Int64} (h1 : fX11_odds Zc (xs (i3 + 1).toNatClampNeg) (xs (i3 + 2).toNatClampNeg) Xc = some (r, Xc1)) (h2 : fX12_odds (xs (i3 + 1).toNatClampNeg) (xs (i3 + 2).toNatClampNeg) Xm = some (r, Xm1))
    (kk : WW p l e room_1 s m args below meth c 4 Q E (wC E Xm1) cells slots (adC E.2.2.1 (sn Zc)) Zc 1322 (lwlv E b i3) [] Xc1) : WW p l e room_1 s m args below meth c 4 Q E (wC E Xm) cells slots (adC E.2.2.1 (sn Zc)) Zc 824 (lwlv E b i3) [] Xc := by
  refine ww_aload_n (pc := 824) hC dL_law_824 2 rfl ?_
  refine ww_aload_n (pc := 825) hC dL_law_825 3 rfl ?_
  refine ww_iload_n (pc := 826) hC dL_law_826 0 rfl ?_
  refine ww_iconst (pc := 827) hC (v := (1 : Int32)) dL_law_827 (by decide) ?_
  refine ww_iadd (pc := 828) hC dL_law_828 ?_
  refine ww_sld (pc := 829) hC hE hX hbl hv1 dL_law_829 ?_
  refine ww_aload_n (pc := 830) hC dL_law_830 3 rfl ?_
  refine ww_iload_n (pc := 831) hC dL_law_831 0 rfl ?_
  refine ww_iconst (pc := 832) hC (v := (2 : Int32)) dL_law_832 (by decide) ?_
  refine ww_iadd (pc := 833) hC dL_law_833 ?_
  refine ww_sld (pc := 834) hC hE hX hbl hv2 dL_law_834 ?_
  refine ww_callVl (pc := 835) hC [.int (xs (i3 + 1).toNatClampNeg), .int (xs (i3 + 2).toNatClampNeg)] (X' := Xc1) hL.1.1 hL.1.2 (by decide) (ceX11_odds hL h1) ql_L_107 qi_X11_odds qs_X11_X11_odds qn_X11 qc_X11_odds rfl ⟨by decide, by decide, rfl⟩ rfl ⟨Nat.le_of_ble_eq_true rfl, Nat.le_of_ble_eq_true rfl⟩ (by decide) (rest := []) (Nat.le_of_ble_eq_true rfl) dL_law_835 hf rfl ?_
  refine ww_toM ?_
  refine ww_aload_n (pc := 838) hC dL_law_838 1 rfl ?_
  refine ww_aload_n (pc := 839) hC dL_law_839 3 rfl ?_
  refine ww_iload_n (pc := 840) hC dL_law_840 0 rfl ?_
  refine ww_iconst (pc := 841) hC (v := (1 : Int32)) dL_law_841 (by decide) ?_
  refine ww_iadd (pc := 842) hC dL_law_842 ?_
  refine ww_sld (pc := 843) hC hE hX hbl hv1 dL_law_843 ?_
  refine ww_aload_n (pc := 844) hC dL_law_844 3 rfl ?_
  refine ww_iload_n (pc := 845) hC dL_law_845 0 rfl ?_
  refine ww_iconst (pc := 846) hC (v := (2 : Int32)) dL_law_846 (by decide) ?_
  refine ww_iadd (pc := 847) hC dL_law_847 ?_
  refine ww_sld (pc := 848) hC hE hX hbl hv2 dL_law_848 ?_
  refine ww_callVl (pc := 849) hC [.int (xs (i3 + 1).toNatClampNeg), .int (xs (i3 + 2).toNatClampNeg)] (X' := Xm1) layM0.1.1 layM0.1.2 (by decide) (ceX12_odds layM0 h2) ql_L_110 qi_X12_odds qs_X12_X12_odds qn_X12 qc_X12_odds rfl ⟨by decide, by decide, rfl⟩ rfl ⟨Nat.le_of_ble_eq_true rfl, Nat.le_of_ble_eq_true rfl⟩ (by decide) (rest := [.long r]) (Nat.le_of_ble_eq_true rfl) dL_law_849 hf rfl ?_
  refine ww_toC ?_
  refine ww_lcmp (pc := 852) hC dL_law_852 ?_
  rw [lcmp_rr]
  refine ww_if_eq (pc := 853) hC (d := Classical.propDecidable _) (α := Unit) (f1 := some ()) (f2 := none) (r := ()) (if_pos rfl) 1322 dL_law_853 (by decide) (fun _ => ?_) (fun q => by cases q)
  exact kk
set_option maxHeartbeats 40000000 in
set_option maxRecDepth 100000 in
theorem law_23 {p : Program} {l : Launch} {e : Env} {s : State} {m : MethodId} {args : Array Value} {below : List Frame} {meth : Method} {c : Code} {Q : State → Prop} {E : XE} (hC : CX p s m args meth c E cL_law 4 "FootKeeperLaw") (hE : E.2.2.1 = s.heap.size) {b N : Nat} {xs : Nat → Int32} (hX : va_X b N xs s s.heap) (hbl : b < s.heap.size) {i3 : Int32} (hv1 : vp_in (i3 + 1) N) {cells slots : Nat} (hf : cells ≤ room_1.cells ∧ slots ≤ room_1.slots) {Zc : XS} {Xc Xm Xc1 Xm1 : XD} (hL : LayC Zc) {r : Int64} (h1 : fX11_mean Zc (xs (i3 + 1).toNatClampNeg) Xc = some (r, Xc1)) (h2 : fX12_mean (xs (i3 + 1).toNatClampNeg) Xm = some (r, Xm1))
    (kk : WW p l e room_1 s m args below meth c 4 Q E (wC E Xm1) cells slots (adC E.2.2.1 (sn Zc)) Zc 1322 (lwlv E b i3) [] Xc1) : WW p l e room_1 s m args below meth c 4 Q E (wC E Xm) cells slots (adC E.2.2.1 (sn Zc)) Zc 858 (lwlv E b i3) [] Xc := by
  refine ww_aload_n (pc := 858) hC dL_law_858 2 rfl ?_
  refine ww_aload_n (pc := 859) hC dL_law_859 3 rfl ?_
  refine ww_iload_n (pc := 860) hC dL_law_860 0 rfl ?_
  refine ww_iconst (pc := 861) hC (v := (1 : Int32)) dL_law_861 (by decide) ?_
  refine ww_iadd (pc := 862) hC dL_law_862 ?_
  refine ww_sld (pc := 863) hC hE hX hbl hv1 dL_law_863 ?_
  refine ww_callVl (pc := 864) hC [.int (xs (i3 + 1).toNatClampNeg)] (X' := Xc1) hL.1.1 hL.1.2 (by decide) (ceX11_mean hL h1) ql_L_111 qi_X11_mean qs_X11_X11_mean qn_X11 qc_X11_mean rfl ⟨by decide, by decide, rfl⟩ rfl ⟨Nat.le_of_ble_eq_true rfl, Nat.le_of_ble_eq_true rfl⟩ (by decide) (rest := []) (Nat.le_of_ble_eq_true rfl) dL_law_864 hf rfl ?_
  refine ww_toM ?_
  refine ww_aload_n (pc := 867) hC dL_law_867 1 rfl ?_
  refine ww_aload_n (pc := 868) hC dL_law_868 3 rfl ?_
  refine ww_iload_n (pc := 869) hC dL_law_869 0 rfl ?_
  refine ww_iconst (pc := 870) hC (v := (1 : Int32)) dL_law_870 (by decide) ?_
  refine ww_iadd (pc := 871) hC dL_law_871 ?_
  refine ww_sld (pc := 872) hC hE hX hbl hv1 dL_law_872 ?_
  refine ww_callVl (pc := 873) hC [.int (xs (i3 + 1).toNatClampNeg)] (X' := Xm1) layM0.1.1 layM0.1.2 (by decide) (ceX12_mean layM0 h2) ql_L_115 qi_X12_mean qs_X12_X12_mean qn_X12 qc_X12_mean rfl ⟨by decide, by decide, rfl⟩ rfl ⟨Nat.le_of_ble_eq_true rfl, Nat.le_of_ble_eq_true rfl⟩ (by decide) (rest := [.long r]) (Nat.le_of_ble_eq_true rfl) dL_law_873 hf rfl ?_
  refine ww_toC ?_
  refine ww_lcmp (pc := 876) hC dL_law_876 ?_
  rw [lcmp_rr]
  refine ww_if_eq (pc := 877) hC (d := Classical.propDecidable _) (α := Unit) (f1 := some ()) (f2 := none) (r := ()) (if_pos rfl) 1322 dL_law_877 (by decide) (fun _ => ?_) (fun q => by cases q)
  exact kk
set_option maxHeartbeats 40000000 in
set_option maxRecDepth 100000 in
theorem law_24 {p : Program} {l : Launch} {e : Env} {s : State} {m : MethodId} {args : Array Value} {below : List Frame} {meth : Method} {c : Code} {Q : State → Prop} {E : XE} (hC : CX p s m args meth c E cL_law 4 "FootKeeperLaw") (hE : E.2.2.1 = s.heap.size) {b N : Nat} {xs : Nat → Int32} (hX : va_X b N xs s s.heap) (hbl : b < s.heap.size) {i3 : Int32} (hv1 : vp_in (i3 + 1) N) (hv2 : vp_in (i3 + 2) N) {cells slots : Nat} (hf : cells ≤ room_1.cells ∧ slots ≤ room_1.slots) {Zc : XS} {Xc Xm Xc1 Xm1 : XD} (hL : LayC Zc) {r : Int32} (h1 : fX11_book Zc (xs (i3 + 1).toNatClampNeg) (xs (i3 + 2).toNatClampNeg) Xc = some (r, Xc1)) (h2 : fX12_book (xs (i3 + 1).toNatClampNeg) (xs (i3 + 2).toNatClampNeg) Xm = some (r, Xm1))
    (kk : WW p l e room_1 s m args below meth c 4 Q E (wC E Xm1) cells slots (adC E.2.2.1 (sn Zc)) Zc 1322 (lwlv E b i3) [] Xc1) : WW p l e room_1 s m args below meth c 4 Q E (wC E Xm) cells slots (adC E.2.2.1 (sn Zc)) Zc 882 (lwlv E b i3) [] Xc := by
  refine ww_aload_n (pc := 882) hC dL_law_882 2 rfl ?_
  refine ww_aload_n (pc := 883) hC dL_law_883 3 rfl ?_
  refine ww_iload_n (pc := 884) hC dL_law_884 0 rfl ?_
  refine ww_iconst (pc := 885) hC (v := (1 : Int32)) dL_law_885 (by decide) ?_
  refine ww_iadd (pc := 886) hC dL_law_886 ?_
  refine ww_sld (pc := 887) hC hE hX hbl hv1 dL_law_887 ?_
  refine ww_aload_n (pc := 888) hC dL_law_888 3 rfl ?_
  refine ww_iload_n (pc := 889) hC dL_law_889 0 rfl ?_
  refine ww_iconst (pc := 890) hC (v := (2 : Int32)) dL_law_890 (by decide) ?_
  refine ww_iadd (pc := 891) hC dL_law_891 ?_
  refine ww_sld (pc := 892) hC hE hX hbl hv2 dL_law_892 ?_
  refine ww_callVi (pc := 893) hC [.int (xs (i3 + 1).toNatClampNeg), .int (xs (i3 + 2).toNatClampNeg)] (X' := Xc1) hL.1.1 hL.1.2 (by decide) (ceX11_book hL h1) ql_L_116 qi_X11_book qs_X11_X11_book qn_X11 qc_X11_book rfl ⟨by decide, by decide, rfl⟩ rfl ⟨Nat.le_of_ble_eq_true rfl, Nat.le_of_ble_eq_true rfl⟩ (by decide) (rest := []) (Nat.le_of_ble_eq_true rfl) dL_law_893 hf rfl ?_
  refine ww_toM ?_
  refine ww_aload_n (pc := 896) hC dL_law_896 1 rfl ?_
  refine ww_aload_n (pc := 897) hC dL_law_897 3 rfl ?_
  refine ww_iload_n (pc := 898) hC dL_law_898 0 rfl ?_
  refine ww_iconst (pc := 899) hC (v := (1 : Int32)) dL_law_899 (by decide) ?_
  refine ww_iadd (pc := 900) hC dL_law_900 ?_
  refine ww_sld (pc := 901) hC hE hX hbl hv1 dL_law_901 ?_
  refine ww_aload_n (pc := 902) hC dL_law_902 3 rfl ?_
  refine ww_iload_n (pc := 903) hC dL_law_903 0 rfl ?_
  refine ww_iconst (pc := 904) hC (v := (2 : Int32)) dL_law_904 (by decide) ?_
  refine ww_iadd (pc := 905) hC dL_law_905 ?_
  refine ww_sld (pc := 906) hC hE hX hbl hv2 dL_law_906 ?_
  refine ww_callVi (pc := 907) hC [.int (xs (i3 + 1).toNatClampNeg), .int (xs (i3 + 2).toNatClampNeg)] (X' := Xm1) layM0.1.1 layM0.1.2 (by decide) (ceX12_book layM0 h2) ql_L_119 qi_X12_book qs_X12_X12_book qn_X12 qc_X12_book rfl ⟨by decide, by decide, rfl⟩ rfl ⟨Nat.le_of_ble_eq_true rfl, Nat.le_of_ble_eq_true rfl⟩ (by decide) (rest := [.int r]) (Nat.le_of_ble_eq_true rfl) dL_law_907 hf rfl ?_
  refine ww_toC ?_
  refine ww_icmp_eq (pc := 910) hC (d := Classical.propDecidable _) (α := Unit) (f1 := some ()) (f2 := none) (r := ()) (if_pos rfl) 1322 dL_law_910 (by decide) (fun _ => ?_) (fun q => by cases q)
  exact kk
set_option maxHeartbeats 40000000 in
set_option maxRecDepth 100000 in
theorem law_25 {p : Program} {l : Launch} {e : Env} {s : State} {m : MethodId} {args : Array Value} {below : List Frame} {meth : Method} {c : Code} {Q : State → Prop} {E : XE} (hC : CX p s m args meth c E cL_law 4 "FootKeeperLaw") (hE : E.2.2.1 = s.heap.size) {b N : Nat} {xs : Nat → Int32} (hX : va_X b N xs s s.heap) (hbl : b < s.heap.size) {i3 : Int32}  {cells slots : Nat} (hf : cells ≤ room_1.cells ∧ slots ≤ room_1.slots) {Zc : XS} {Xc Xm Xc1 Xm1 : XD} (hL : LayC Zc) {r : Int32} (h1 : fX11_looked Zc  Xc = some (r, Xc1)) (h2 : fX12_looked  Xm = some (r, Xm1))
    (kk : WW p l e room_1 s m args below meth c 4 Q E (wC E Xm1) cells slots (adC E.2.2.1 (sn Zc)) Zc 1322 (lwlv E b i3) [] Xc1) : WW p l e room_1 s m args below meth c 4 Q E (wC E Xm) cells slots (adC E.2.2.1 (sn Zc)) Zc 915 (lwlv E b i3) [] Xc := by
  refine ww_aload_n (pc := 915) hC dL_law_915 2 rfl ?_
  refine ww_callVi (pc := 916) hC [] (X' := Xc1) hL.1.1 hL.1.2 (by decide) (ceX11_looked hL h1) ql_L_120 qi_X11_looked qs_X11_X11_looked qn_X11 qc_X11_looked rfl ⟨by decide, by decide, rfl⟩ rfl ⟨Nat.le_of_ble_eq_true rfl, Nat.le_of_ble_eq_true rfl⟩ (by decide) (rest := []) (Nat.le_of_ble_eq_true rfl) dL_law_916 hf rfl ?_
  refine ww_toM ?_
  refine ww_aload_n (pc := 919) hC dL_law_919 1 rfl ?_
  refine ww_callVi (pc := 920) hC [] (X' := Xm1) layM0.1.1 layM0.1.2 (by decide) (ceX12_looked layM0 h2) ql_L_123 qi_X12_looked qs_X12_X12_looked qn_X12 qc_X12_looked rfl ⟨by decide, by decide, rfl⟩ rfl ⟨Nat.le_of_ble_eq_true rfl, Nat.le_of_ble_eq_true rfl⟩ (by decide) (rest := [.int r]) (Nat.le_of_ble_eq_true rfl) dL_law_920 hf rfl ?_
  refine ww_toC ?_
  refine ww_icmp_eq (pc := 923) hC (d := Classical.propDecidable _) (α := Unit) (f1 := some ()) (f2 := none) (r := ()) (if_pos rfl) 1322 dL_law_923 (by decide) (fun _ => ?_) (fun q => by cases q)
  exact kk
set_option maxHeartbeats 40000000 in
set_option maxRecDepth 100000 in
theorem law_26 {p : Program} {l : Launch} {e : Env} {s : State} {m : MethodId} {args : Array Value} {below : List Frame} {meth : Method} {c : Code} {Q : State → Prop} {E : XE} (hC : CX p s m args meth c E cL_law 4 "FootKeeperLaw") (hE : E.2.2.1 = s.heap.size) {b N : Nat} {xs : Nat → Int32} (hX : va_X b N xs s s.heap) (hbl : b < s.heap.size) {i3 : Int32} (hv1 : vp_in (i3 + 1) N) (hv2 : vp_in (i3 + 2) N) {cells slots : Nat} (hf : cells ≤ room_1.cells ∧ slots ≤ room_1.slots) {Zc : XS} {Xc Xm : XD} (hL : LayC Zc) {r : Int32} (h1 : fX11_judge Zc (xs (i3 + 1).toNatClampNeg) (xs (i3 + 2).toNatClampNeg) Xc = some r) (h2 : fX12_judge (xs (i3 + 1).toNatClampNeg) (xs (i3 + 2).toNatClampNeg) Xm = some r)
    (kk : WW p l e room_1 s m args below meth c 4 Q E (wC E Xm) cells slots (adC E.2.2.1 (sn Zc)) Zc 1322 (lwlv E b i3) [] Xc) : WW p l e room_1 s m args below meth c 4 Q E (wC E Xm) cells slots (adC E.2.2.1 (sn Zc)) Zc 928 (lwlv E b i3) [] Xc := by
  refine ww_aload_n (pc := 928) hC dL_law_928 2 rfl ?_
  refine ww_aload_n (pc := 929) hC dL_law_929 3 rfl ?_
  refine ww_iload_n (pc := 930) hC dL_law_930 0 rfl ?_
  refine ww_iconst (pc := 931) hC (v := (1 : Int32)) dL_law_931 (by decide) ?_
  refine ww_iadd (pc := 932) hC dL_law_932 ?_
  refine ww_sld (pc := 933) hC hE hX hbl hv1 dL_law_933 ?_
  refine ww_aload_n (pc := 934) hC dL_law_934 3 rfl ?_
  refine ww_iload_n (pc := 935) hC dL_law_935 0 rfl ?_
  refine ww_iconst (pc := 936) hC (v := (2 : Int32)) dL_law_936 (by decide) ?_
  refine ww_iadd (pc := 937) hC dL_law_937 ?_
  refine ww_sld (pc := 938) hC hE hX hbl hv2 dL_law_938 ?_
  refine ww_callVi (pc := 939) hC [.int (xs (i3 + 1).toNatClampNeg), .int (xs (i3 + 2).toNatClampNeg)] (X' := Xc) hL.1.1 hL.1.2 (by decide) (ceX11_judge hL h1) ql_L_124 qi_X11_judge qs_X11_X11_judge qn_X11 qc_X11_judge rfl ⟨by decide, by decide, rfl⟩ rfl ⟨Nat.le_of_ble_eq_true rfl, Nat.le_of_ble_eq_true rfl⟩ (by decide) (rest := []) (Nat.le_of_ble_eq_true rfl) dL_law_939 hf rfl ?_
  refine ww_toM ?_
  refine ww_aload_n (pc := 942) hC dL_law_942 1 rfl ?_
  refine ww_aload_n (pc := 943) hC dL_law_943 3 rfl ?_
  refine ww_iload_n (pc := 944) hC dL_law_944 0 rfl ?_
  refine ww_iconst (pc := 945) hC (v := (1 : Int32)) dL_law_945 (by decide) ?_
  refine ww_iadd (pc := 946) hC dL_law_946 ?_
  refine ww_sld (pc := 947) hC hE hX hbl hv1 dL_law_947 ?_
  refine ww_aload_n (pc := 948) hC dL_law_948 3 rfl ?_
  refine ww_iload_n (pc := 949) hC dL_law_949 0 rfl ?_
  refine ww_iconst (pc := 950) hC (v := (2 : Int32)) dL_law_950 (by decide) ?_
  refine ww_iadd (pc := 951) hC dL_law_951 ?_
  refine ww_sld (pc := 952) hC hE hX hbl hv2 dL_law_952 ?_
  refine ww_callVi (pc := 953) hC [.int (xs (i3 + 1).toNatClampNeg), .int (xs (i3 + 2).toNatClampNeg)] (X' := Xm) layM0.1.1 layM0.1.2 (by decide) (ceX12_judge layM0 h2) ql_L_127 qi_X12_judge qs_X12_X12_judge qn_X12 qc_X12_judge rfl ⟨by decide, by decide, rfl⟩ rfl ⟨Nat.le_of_ble_eq_true rfl, Nat.le_of_ble_eq_true rfl⟩ (by decide) (rest := [.int r]) (Nat.le_of_ble_eq_true rfl) dL_law_953 hf rfl ?_
  refine ww_toC ?_
  refine ww_icmp_eq (pc := 956) hC (d := Classical.propDecidable _) (α := Unit) (f1 := some ()) (f2 := none) (r := ()) (if_pos rfl) 1322 dL_law_956 (by decide) (fun _ => ?_) (fun q => by cases q)
  exact kk
set_option maxHeartbeats 40000000 in
set_option maxRecDepth 100000 in
theorem law_27 {p : Program} {l : Launch} {e : Env} {s : State} {m : MethodId} {args : Array Value} {below : List Frame} {meth : Method} {c : Code} {Q : State → Prop} {E : XE} (hC : CX p s m args meth c E cL_law 4 "FootKeeperLaw") (hE : E.2.2.1 = s.heap.size) {b N : Nat} {xs : Nat → Int32} (hX : va_X b N xs s s.heap) (hbl : b < s.heap.size) {i3 : Int32}  {cells slots : Nat} (hf : cells ≤ room_1.cells ∧ slots ≤ room_1.slots) {Zc : XS} {Xc Xm Xc1 Xm1 : XD} (hL : LayC Zc) {r : Int32} (h1 : fX11_image Zc  Xc = some (r, Xc1)) (h2 : fX12_image  Xm = some (r, Xm1))
    (kk : WW p l e room_1 s m args below meth c 4 Q E (wC E Xm1) cells slots (adC E.2.2.1 (sn Zc)) Zc 1322 (lwlv E b i3) [] Xc1) : WW p l e room_1 s m args below meth c 4 Q E (wC E Xm) cells slots (adC E.2.2.1 (sn Zc)) Zc 961 (lwlv E b i3) [] Xc := by
  refine ww_aload_n (pc := 961) hC dL_law_961 2 rfl ?_
  refine ww_callVi (pc := 962) hC [] (X' := Xc1) hL.1.1 hL.1.2 (by decide) (ceX11_image hL h1) ql_L_128 qi_X11_image qs_X11_X11_image qn_X11 qc_X11_image rfl ⟨by decide, by decide, rfl⟩ rfl ⟨Nat.le_of_ble_eq_true rfl, Nat.le_of_ble_eq_true rfl⟩ (by decide) (rest := []) (Nat.le_of_ble_eq_true rfl) dL_law_962 hf rfl ?_
  refine ww_toM ?_
  refine ww_aload_n (pc := 965) hC dL_law_965 1 rfl ?_
  refine ww_callVi (pc := 966) hC [] (X' := Xm1) layM0.1.1 layM0.1.2 (by decide) (ceX12_image layM0 h2) ql_L_131 qi_X12_image qs_X12_X12_image qn_X12 qc_X12_image rfl ⟨by decide, by decide, rfl⟩ rfl ⟨Nat.le_of_ble_eq_true rfl, Nat.le_of_ble_eq_true rfl⟩ (by decide) (rest := [.int r]) (Nat.le_of_ble_eq_true rfl) dL_law_966 hf rfl ?_
  refine ww_toC ?_
  refine ww_icmp_eq (pc := 969) hC (d := Classical.propDecidable _) (α := Unit) (f1 := some ()) (f2 := none) (r := ()) (if_pos rfl) 1322 dL_law_969 (by decide) (fun _ => ?_) (fun q => by cases q)
  exact kk
set_option maxHeartbeats 40000000 in
set_option maxRecDepth 100000 in
theorem law_28 {p : Program} {l : Launch} {e : Env} {s : State} {m : MethodId} {args : Array Value} {below : List Frame} {meth : Method} {c : Code} {Q : State → Prop} {E : XE} (hC : CX p s m args meth c E cL_law 4 "FootKeeperLaw") (hE : E.2.2.1 = s.heap.size) {b N : Nat} {xs : Nat → Int32} (hX : va_X b N xs s s.heap) (hbl : b < s.heap.size) {i3 : Int32}  {cells slots : Nat} (hf : cells ≤ room_1.cells ∧ slots ≤ room_1.slots) {Zc : XS} {Xc Xm Xc1 Xm1 : XD} (hL : LayC Zc) {r : Int32} (h1 : fX11_undo Zc  Xc = some (r, Xc1)) (h2 : fX12_undo  Xm = some (r, Xm1))
    (kk : WW p l e room_1 s m args below meth c 4 Q E (wC E Xm1) cells slots (adC E.2.2.1 (sn Zc)) Zc 1322 (lwlv E b i3) [] Xc1) : WW p l e room_1 s m args below meth c 4 Q E (wC E Xm) cells slots (adC E.2.2.1 (sn Zc)) Zc 974 (lwlv E b i3) [] Xc := by
  refine ww_aload_n (pc := 974) hC dL_law_974 2 rfl ?_
  refine ww_callVi (pc := 975) hC [] (X' := Xc1) hL.1.1 hL.1.2 (by decide) (ceX11_undo hL h1) ql_L_132 qi_X11_undo qs_X11_X11_undo qn_X11 qc_X11_undo rfl ⟨by decide, by decide, rfl⟩ rfl ⟨Nat.le_of_ble_eq_true rfl, Nat.le_of_ble_eq_true rfl⟩ (by decide) (rest := []) (Nat.le_of_ble_eq_true rfl) dL_law_975 hf rfl ?_
  refine ww_toM ?_
  refine ww_aload_n (pc := 978) hC dL_law_978 1 rfl ?_
  refine ww_callVi (pc := 979) hC [] (X' := Xm1) layM0.1.1 layM0.1.2 (by decide) (ceX12_undo layM0 h2) ql_L_135 qi_X12_undo qs_X12_X12_undo qn_X12 qc_X12_undo rfl ⟨by decide, by decide, rfl⟩ rfl ⟨Nat.le_of_ble_eq_true rfl, Nat.le_of_ble_eq_true rfl⟩ (by decide) (rest := [.int r]) (Nat.le_of_ble_eq_true rfl) dL_law_979 hf rfl ?_
  refine ww_toC ?_
  refine ww_icmp_eq (pc := 982) hC (d := Classical.propDecidable _) (α := Unit) (f1 := some ()) (f2 := none) (r := ()) (if_pos rfl) 1322 dL_law_982 (by decide) (fun _ => ?_) (fun q => by cases q)
  exact kk
set_option maxHeartbeats 40000000 in
set_option maxRecDepth 100000 in
theorem law_29 {p : Program} {l : Launch} {e : Env} {s : State} {m : MethodId} {args : Array Value} {below : List Frame} {meth : Method} {c : Code} {Q : State → Prop} {E : XE} (hC : CX p s m args meth c E cL_law 4 "FootKeeperLaw") (hE : E.2.2.1 = s.heap.size) {b N : Nat} {xs : Nat → Int32} (hX : va_X b N xs s s.heap) (hbl : b < s.heap.size) {i3 : Int32} (hv1 : vp_in (i3 + 1) N) (hv2 : vp_in (i3 + 2) N) (hv3 : vp_in (i3 + 3) N) {cells slots : Nat} (hf : cells ≤ room_1.cells ∧ slots ≤ room_1.slots) {Zc : XS} {Xc Xm Xc1 Xm1 : XD} (hL : LayC Zc) {r : Int32} (h1 : fX11_act Zc (xs (i3 + 1).toNatClampNeg) (xs (i3 + 2).toNatClampNeg) (xs (i3 + 3).toNatClampNeg) Xc = some (r, Xc1)) (h2 : fX12_act (xs (i3 + 1).toNatClampNeg) (xs (i3 + 2).toNatClampNeg) (xs (i3 + 3).toNatClampNeg) Xm = some (r, Xm1))
    (kk : WW p l e room_1 s m args below meth c 4 Q E (wC E Xm1) cells slots (adC E.2.2.1 (sn Zc)) Zc 1322 (lwlv E b i3) [] Xc1) : WW p l e room_1 s m args below meth c 4 Q E (wC E Xm) cells slots (adC E.2.2.1 (sn Zc)) Zc 987 (lwlv E b i3) [] Xc := by
  refine ww_aload_n (pc := 987) hC dL_law_987 2 rfl ?_
  refine ww_aload_n (pc := 988) hC dL_law_988 3 rfl ?_
  refine ww_iload_n (pc := 989) hC dL_law_989 0 rfl ?_
  refine ww_iconst (pc := 990) hC (v := (1 : Int32)) dL_law_990 (by decide) ?_
  refine ww_iadd (pc := 991) hC dL_law_991 ?_
  refine ww_sld (pc := 992) hC hE hX hbl hv1 dL_law_992 ?_
  refine ww_aload_n (pc := 993) hC dL_law_993 3 rfl ?_
  refine ww_iload_n (pc := 994) hC dL_law_994 0 rfl ?_
  refine ww_iconst (pc := 995) hC (v := (2 : Int32)) dL_law_995 (by decide) ?_
  refine ww_iadd (pc := 996) hC dL_law_996 ?_
  refine ww_sld (pc := 997) hC hE hX hbl hv2 dL_law_997 ?_
  refine ww_aload_n (pc := 998) hC dL_law_998 3 rfl ?_
  refine ww_iload_n (pc := 999) hC dL_law_999 0 rfl ?_
  refine ww_iconst (pc := 1000) hC (v := (3 : Int32)) dL_law_1000 (by decide) ?_
  refine ww_iadd (pc := 1001) hC dL_law_1001 ?_
  refine ww_sld (pc := 1002) hC hE hX hbl hv3 dL_law_1002 ?_
  refine ww_callVi (pc := 1003) hC [.int (xs (i3 + 1).toNatClampNeg), .int (xs (i3 + 2).toNatClampNeg), .int (xs (i3 + 3).toNatClampNeg)] (X' := Xc1) hL.1.1 hL.1.2 (by decide) (ceX11_act hL h1) ql_L_136 qi_X11_act qs_X11_X11_act qn_X11 qc_X11_act rfl ⟨by decide, by decide, rfl⟩ rfl ⟨Nat.le_of_ble_eq_true rfl, Nat.le_of_ble_eq_true rfl⟩ (by decide) (rest := []) (Nat.le_of_ble_eq_true rfl) dL_law_1003 hf rfl ?_
  refine ww_toM ?_
  refine ww_aload_n (pc := 1006) hC dL_law_1006 1 rfl ?_
  refine ww_aload_n (pc := 1007) hC dL_law_1007 3 rfl ?_
  refine ww_iload_n (pc := 1008) hC dL_law_1008 0 rfl ?_
  refine ww_iconst (pc := 1009) hC (v := (1 : Int32)) dL_law_1009 (by decide) ?_
  refine ww_iadd (pc := 1010) hC dL_law_1010 ?_
  refine ww_sld (pc := 1011) hC hE hX hbl hv1 dL_law_1011 ?_
  refine ww_aload_n (pc := 1012) hC dL_law_1012 3 rfl ?_
  refine ww_iload_n (pc := 1013) hC dL_law_1013 0 rfl ?_
  refine ww_iconst (pc := 1014) hC (v := (2 : Int32)) dL_law_1014 (by decide) ?_
  refine ww_iadd (pc := 1015) hC dL_law_1015 ?_
  refine ww_sld (pc := 1016) hC hE hX hbl hv2 dL_law_1016 ?_
  refine ww_aload_n (pc := 1017) hC dL_law_1017 3 rfl ?_
  refine ww_iload_n (pc := 1018) hC dL_law_1018 0 rfl ?_
  refine ww_iconst (pc := 1019) hC (v := (3 : Int32)) dL_law_1019 (by decide) ?_
  refine ww_iadd (pc := 1020) hC dL_law_1020 ?_
  refine ww_sld (pc := 1021) hC hE hX hbl hv3 dL_law_1021 ?_
  refine ww_callVi (pc := 1022) hC [.int (xs (i3 + 1).toNatClampNeg), .int (xs (i3 + 2).toNatClampNeg), .int (xs (i3 + 3).toNatClampNeg)] (X' := Xm1) layM0.1.1 layM0.1.2 (by decide) (ceX12_act layM0 h2) ql_L_139 qi_X12_act qs_X12_X12_act qn_X12 qc_X12_act rfl ⟨by decide, by decide, rfl⟩ rfl ⟨Nat.le_of_ble_eq_true rfl, Nat.le_of_ble_eq_true rfl⟩ (by decide) (rest := [.int r]) (Nat.le_of_ble_eq_true rfl) dL_law_1022 hf rfl ?_
  refine ww_toC ?_
  refine ww_icmp_eq (pc := 1025) hC (d := Classical.propDecidable _) (α := Unit) (f1 := some ()) (f2 := none) (r := ()) (if_pos rfl) 1322 dL_law_1025 (by decide) (fun _ => ?_) (fun q => by cases q)
  exact kk
set_option maxHeartbeats 40000000 in
set_option maxRecDepth 100000 in
theorem law_30 {p : Program} {l : Launch} {e : Env} {s : State} {m : MethodId} {args : Array Value} {below : List Frame} {meth : Method} {c : Code} {Q : State → Prop} {E : XE} (hC : CX p s m args meth c E cL_law 4 "FootKeeperLaw") (hE : E.2.2.1 = s.heap.size) {b N : Nat} {xs : Nat → Int32} (hX : va_X b N xs s s.heap) (hbl : b < s.heap.size) {i3 : Int32} (hv1 : vp_in (i3 + 1) N) {cells slots : Nat} (hf : cells ≤ room_1.cells ∧ slots ≤ room_1.slots) {Zc : XS} {Xc Xm : XD} (hL : LayC Zc) {r : Int32} (h1 : fX11_trace Zc (xs (i3 + 1).toNatClampNeg) Xc = some r) (h2 : fX12_trace (xs (i3 + 1).toNatClampNeg) Xm = some r)
    (kk : WW p l e room_1 s m args below meth c 4 Q E (wC E Xm) cells slots (adC E.2.2.1 (sn Zc)) Zc 1322 (lwlv E b i3) [] Xc) : WW p l e room_1 s m args below meth c 4 Q E (wC E Xm) cells slots (adC E.2.2.1 (sn Zc)) Zc 1030 (lwlv E b i3) [] Xc := by
  refine ww_aload_n (pc := 1030) hC dL_law_1030 2 rfl ?_
  refine ww_aload_n (pc := 1031) hC dL_law_1031 3 rfl ?_
  refine ww_iload_n (pc := 1032) hC dL_law_1032 0 rfl ?_
  refine ww_iconst (pc := 1033) hC (v := (1 : Int32)) dL_law_1033 (by decide) ?_
  refine ww_iadd (pc := 1034) hC dL_law_1034 ?_
  refine ww_sld (pc := 1035) hC hE hX hbl hv1 dL_law_1035 ?_
  refine ww_callVi (pc := 1036) hC [.int (xs (i3 + 1).toNatClampNeg)] (X' := Xc) hL.1.1 hL.1.2 (by decide) (ceX11_trace hL h1) ql_L_140 qi_X11_trace qs_X11_X11_trace qn_X11 qc_X11_trace rfl ⟨by decide, by decide, rfl⟩ rfl ⟨Nat.le_of_ble_eq_true rfl, Nat.le_of_ble_eq_true rfl⟩ (by decide) (rest := []) (Nat.le_of_ble_eq_true rfl) dL_law_1036 hf rfl ?_
  refine ww_toM ?_
  refine ww_aload_n (pc := 1039) hC dL_law_1039 1 rfl ?_
  refine ww_aload_n (pc := 1040) hC dL_law_1040 3 rfl ?_
  refine ww_iload_n (pc := 1041) hC dL_law_1041 0 rfl ?_
  refine ww_iconst (pc := 1042) hC (v := (1 : Int32)) dL_law_1042 (by decide) ?_
  refine ww_iadd (pc := 1043) hC dL_law_1043 ?_
  refine ww_sld (pc := 1044) hC hE hX hbl hv1 dL_law_1044 ?_
  refine ww_callVi (pc := 1045) hC [.int (xs (i3 + 1).toNatClampNeg)] (X' := Xm) layM0.1.1 layM0.1.2 (by decide) (ceX12_trace layM0 h2) ql_L_143 qi_X12_trace qs_X12_X12_trace qn_X12 qc_X12_trace rfl ⟨by decide, by decide, rfl⟩ rfl ⟨Nat.le_of_ble_eq_true rfl, Nat.le_of_ble_eq_true rfl⟩ (by decide) (rest := [.int r]) (Nat.le_of_ble_eq_true rfl) dL_law_1045 hf rfl ?_
  refine ww_toC ?_
  refine ww_icmp_eq (pc := 1048) hC (d := Classical.propDecidable _) (α := Unit) (f1 := some ()) (f2 := none) (r := ()) (if_pos rfl) 1322 dL_law_1048 (by decide) (fun _ => ?_) (fun q => by cases q)
  exact kk
set_option maxHeartbeats 40000000 in
set_option maxRecDepth 100000 in
theorem law_31 {p : Program} {l : Launch} {e : Env} {s : State} {m : MethodId} {args : Array Value} {below : List Frame} {meth : Method} {c : Code} {Q : State → Prop} {E : XE} (hC : CX p s m args meth c E cL_law 4 "FootKeeperLaw") (hE : E.2.2.1 = s.heap.size) {b N : Nat} {xs : Nat → Int32} (hX : va_X b N xs s s.heap) (hbl : b < s.heap.size) {i3 : Int32} (hv1 : vp_in (i3 + 1) N) (hv2 : vp_in (i3 + 2) N) {cells slots : Nat} (hf : cells ≤ room_1.cells ∧ slots ≤ room_1.slots) {Zc : XS} {Xc Xm : XD} (hL : LayC Zc) {r : Int32} (h1 : fX11_taken Zc (xs (i3 + 1).toNatClampNeg) (xs (i3 + 2).toNatClampNeg) Xc = some r) (h2 : fX12_taken (xs (i3 + 1).toNatClampNeg) (xs (i3 + 2).toNatClampNeg) Xm = some r)
    (kk : WW p l e room_1 s m args below meth c 4 Q E (wC E Xm) cells slots (adC E.2.2.1 (sn Zc)) Zc 1322 (lwlv E b i3) [] Xc) : WW p l e room_1 s m args below meth c 4 Q E (wC E Xm) cells slots (adC E.2.2.1 (sn Zc)) Zc 1053 (lwlv E b i3) [] Xc := by
  refine ww_aload_n (pc := 1053) hC dL_law_1053 2 rfl ?_
  refine ww_aload_n (pc := 1054) hC dL_law_1054 3 rfl ?_
  refine ww_iload_n (pc := 1055) hC dL_law_1055 0 rfl ?_
  refine ww_iconst (pc := 1056) hC (v := (1 : Int32)) dL_law_1056 (by decide) ?_
  refine ww_iadd (pc := 1057) hC dL_law_1057 ?_
  refine ww_sld (pc := 1058) hC hE hX hbl hv1 dL_law_1058 ?_
  refine ww_aload_n (pc := 1059) hC dL_law_1059 3 rfl ?_
  refine ww_iload_n (pc := 1060) hC dL_law_1060 0 rfl ?_
  refine ww_iconst (pc := 1061) hC (v := (2 : Int32)) dL_law_1061 (by decide) ?_
  refine ww_iadd (pc := 1062) hC dL_law_1062 ?_
  refine ww_sld (pc := 1063) hC hE hX hbl hv2 dL_law_1063 ?_
  refine ww_callVi (pc := 1064) hC [.int (xs (i3 + 1).toNatClampNeg), .int (xs (i3 + 2).toNatClampNeg)] (X' := Xc) hL.1.1 hL.1.2 (by decide) (ceX11_taken hL h1) ql_L_144 qi_X11_taken qs_X11_X11_taken qn_X11 qc_X11_taken rfl ⟨by decide, by decide, rfl⟩ rfl ⟨Nat.le_of_ble_eq_true rfl, Nat.le_of_ble_eq_true rfl⟩ (by decide) (rest := []) (Nat.le_of_ble_eq_true rfl) dL_law_1064 hf rfl ?_
  refine ww_toM ?_
  refine ww_aload_n (pc := 1067) hC dL_law_1067 1 rfl ?_
  refine ww_aload_n (pc := 1068) hC dL_law_1068 3 rfl ?_
  refine ww_iload_n (pc := 1069) hC dL_law_1069 0 rfl ?_
  refine ww_iconst (pc := 1070) hC (v := (1 : Int32)) dL_law_1070 (by decide) ?_
  refine ww_iadd (pc := 1071) hC dL_law_1071 ?_
  refine ww_sld (pc := 1072) hC hE hX hbl hv1 dL_law_1072 ?_
  refine ww_aload_n (pc := 1073) hC dL_law_1073 3 rfl ?_
  refine ww_iload_n (pc := 1074) hC dL_law_1074 0 rfl ?_
  refine ww_iconst (pc := 1075) hC (v := (2 : Int32)) dL_law_1075 (by decide) ?_
  refine ww_iadd (pc := 1076) hC dL_law_1076 ?_
  refine ww_sld (pc := 1077) hC hE hX hbl hv2 dL_law_1077 ?_
  refine ww_callVi (pc := 1078) hC [.int (xs (i3 + 1).toNatClampNeg), .int (xs (i3 + 2).toNatClampNeg)] (X' := Xm) layM0.1.1 layM0.1.2 (by decide) (ceX12_taken layM0 h2) ql_L_147 qi_X12_taken qs_X12_X12_taken qn_X12 qc_X12_taken rfl ⟨by decide, by decide, rfl⟩ rfl ⟨Nat.le_of_ble_eq_true rfl, Nat.le_of_ble_eq_true rfl⟩ (by decide) (rest := [.int r]) (Nat.le_of_ble_eq_true rfl) dL_law_1078 hf rfl ?_
  refine ww_toC ?_
  refine ww_icmp_eq (pc := 1081) hC (d := Classical.propDecidable _) (α := Unit) (f1 := some ()) (f2 := none) (r := ()) (if_pos rfl) 1322 dL_law_1081 (by decide) (fun _ => ?_) (fun q => by cases q)
  exact kk
set_option maxHeartbeats 40000000 in
set_option maxRecDepth 100000 in
theorem law_32 {p : Program} {l : Launch} {e : Env} {s : State} {m : MethodId} {args : Array Value} {below : List Frame} {meth : Method} {c : Code} {Q : State → Prop} {E : XE} (hC : CX p s m args meth c E cL_law 4 "FootKeeperLaw") (hE : E.2.2.1 = s.heap.size) {b N : Nat} {xs : Nat → Int32} (hX : va_X b N xs s s.heap) (hbl : b < s.heap.size) {i3 : Int32} (hv1 : vp_in (i3 + 1) N) {cells slots : Nat} (hf : cells ≤ room_1.cells ∧ slots ≤ room_1.slots) {Zc : XS} {Xc Xm : XD} (hL : LayC Zc) {r : Int32} (h1 : fX11_count Zc (xs (i3 + 1).toNatClampNeg) Xc = some r) (h2 : fX12_count (xs (i3 + 1).toNatClampNeg) Xm = some r)
    (kk : WW p l e room_1 s m args below meth c 4 Q E (wC E Xm) cells slots (adC E.2.2.1 (sn Zc)) Zc 1322 (lwlv E b i3) [] Xc) : WW p l e room_1 s m args below meth c 4 Q E (wC E Xm) cells slots (adC E.2.2.1 (sn Zc)) Zc 1086 (lwlv E b i3) [] Xc := by
  refine ww_aload_n (pc := 1086) hC dL_law_1086 2 rfl ?_
  refine ww_aload_n (pc := 1087) hC dL_law_1087 3 rfl ?_
  refine ww_iload_n (pc := 1088) hC dL_law_1088 0 rfl ?_
  refine ww_iconst (pc := 1089) hC (v := (1 : Int32)) dL_law_1089 (by decide) ?_
  refine ww_iadd (pc := 1090) hC dL_law_1090 ?_
  refine ww_sld (pc := 1091) hC hE hX hbl hv1 dL_law_1091 ?_
  refine ww_callVi (pc := 1092) hC [.int (xs (i3 + 1).toNatClampNeg)] (X' := Xc) hL.1.1 hL.1.2 (by decide) (ceX11_count hL h1) ql_L_148 qi_X11_count qs_X11_X11_count qn_X11 qc_X11_count rfl ⟨by decide, by decide, rfl⟩ rfl ⟨Nat.le_of_ble_eq_true rfl, Nat.le_of_ble_eq_true rfl⟩ (by decide) (rest := []) (Nat.le_of_ble_eq_true rfl) dL_law_1092 hf rfl ?_
  refine ww_toM ?_
  refine ww_aload_n (pc := 1095) hC dL_law_1095 1 rfl ?_
  refine ww_aload_n (pc := 1096) hC dL_law_1096 3 rfl ?_
  refine ww_iload_n (pc := 1097) hC dL_law_1097 0 rfl ?_
  refine ww_iconst (pc := 1098) hC (v := (1 : Int32)) dL_law_1098 (by decide) ?_
  refine ww_iadd (pc := 1099) hC dL_law_1099 ?_
  refine ww_sld (pc := 1100) hC hE hX hbl hv1 dL_law_1100 ?_
  refine ww_callVi (pc := 1101) hC [.int (xs (i3 + 1).toNatClampNeg)] (X' := Xm) layM0.1.1 layM0.1.2 (by decide) (ceX12_count layM0 h2) ql_L_151 qi_X12_count qs_X12_X12_count qn_X12 qc_X12_count rfl ⟨by decide, by decide, rfl⟩ rfl ⟨Nat.le_of_ble_eq_true rfl, Nat.le_of_ble_eq_true rfl⟩ (by decide) (rest := [.int r]) (Nat.le_of_ble_eq_true rfl) dL_law_1101 hf rfl ?_
  refine ww_toC ?_
  refine ww_icmp_eq (pc := 1104) hC (d := Classical.propDecidable _) (α := Unit) (f1 := some ()) (f2 := none) (r := ()) (if_pos rfl) 1322 dL_law_1104 (by decide) (fun _ => ?_) (fun q => by cases q)
  exact kk
set_option maxHeartbeats 40000000 in
set_option maxRecDepth 100000 in
theorem law_33 {p : Program} {l : Launch} {e : Env} {s : State} {m : MethodId} {args : Array Value} {below : List Frame} {meth : Method} {c : Code} {Q : State → Prop} {E : XE} (hC : CX p s m args meth c E cL_law 4 "FootKeeperLaw") (hE : E.2.2.1 = s.heap.size) {b N : Nat} {xs : Nat → Int32} (hX : va_X b N xs s s.heap) (hbl : b < s.heap.size) {i3 : Int32} (hv1 : vp_in (i3 + 1) N) (hv2 : vp_in (i3 + 2) N) (hv3 : vp_in (i3 + 3) N) {cells slots : Nat} (hf : cells ≤ room_1.cells ∧ slots ≤ room_1.slots) {Zc : XS} {Xc Xm Xc1 Xm1 : XD} (hL : LayC Zc) {r : Int32} (h1 : fX11_tape Zc (xs (i3 + 1).toNatClampNeg) (xs (i3 + 2).toNatClampNeg) (xs (i3 + 3).toNatClampNeg) Xc = some (r, Xc1)) (h2 : fX12_tape (xs (i3 + 1).toNatClampNeg) (xs (i3 + 2).toNatClampNeg) (xs (i3 + 3).toNatClampNeg) Xm = some (r, Xm1))
    (kk : WW p l e room_1 s m args below meth c 4 Q E (wC E Xm1) cells slots (adC E.2.2.1 (sn Zc)) Zc 1322 (lwlv E b i3) [] Xc1) : WW p l e room_1 s m args below meth c 4 Q E (wC E Xm) cells slots (adC E.2.2.1 (sn Zc)) Zc 1109 (lwlv E b i3) [] Xc := by
  refine ww_aload_n (pc := 1109) hC dL_law_1109 2 rfl ?_
  refine ww_aload_n (pc := 1110) hC dL_law_1110 3 rfl ?_
  refine ww_iload_n (pc := 1111) hC dL_law_1111 0 rfl ?_
  refine ww_iconst (pc := 1112) hC (v := (1 : Int32)) dL_law_1112 (by decide) ?_
  refine ww_iadd (pc := 1113) hC dL_law_1113 ?_
  refine ww_sld (pc := 1114) hC hE hX hbl hv1 dL_law_1114 ?_
  refine ww_aload_n (pc := 1115) hC dL_law_1115 3 rfl ?_
  refine ww_iload_n (pc := 1116) hC dL_law_1116 0 rfl ?_
  refine ww_iconst (pc := 1117) hC (v := (2 : Int32)) dL_law_1117 (by decide) ?_
  refine ww_iadd (pc := 1118) hC dL_law_1118 ?_
  refine ww_sld (pc := 1119) hC hE hX hbl hv2 dL_law_1119 ?_
  refine ww_aload_n (pc := 1120) hC dL_law_1120 3 rfl ?_
  refine ww_iload_n (pc := 1121) hC dL_law_1121 0 rfl ?_
  refine ww_iconst (pc := 1122) hC (v := (3 : Int32)) dL_law_1122 (by decide) ?_
  refine ww_iadd (pc := 1123) hC dL_law_1123 ?_
  refine ww_sld (pc := 1124) hC hE hX hbl hv3 dL_law_1124 ?_
  refine ww_callVi (pc := 1125) hC [.int (xs (i3 + 1).toNatClampNeg), .int (xs (i3 + 2).toNatClampNeg), .int (xs (i3 + 3).toNatClampNeg)] (X' := Xc1) hL.1.1 hL.1.2 (by decide) (ceX11_tape hL h1) ql_L_152 qi_X11_tape qs_X11_X11_tape qn_X11 qc_X11_tape rfl ⟨by decide, by decide, rfl⟩ rfl ⟨Nat.le_of_ble_eq_true rfl, Nat.le_of_ble_eq_true rfl⟩ (by decide) (rest := []) (Nat.le_of_ble_eq_true rfl) dL_law_1125 hf rfl ?_
  refine ww_toM ?_
  refine ww_aload_n (pc := 1128) hC dL_law_1128 1 rfl ?_
  refine ww_aload_n (pc := 1129) hC dL_law_1129 3 rfl ?_
  refine ww_iload_n (pc := 1130) hC dL_law_1130 0 rfl ?_
  refine ww_iconst (pc := 1131) hC (v := (1 : Int32)) dL_law_1131 (by decide) ?_
  refine ww_iadd (pc := 1132) hC dL_law_1132 ?_
  refine ww_sld (pc := 1133) hC hE hX hbl hv1 dL_law_1133 ?_
  refine ww_aload_n (pc := 1134) hC dL_law_1134 3 rfl ?_
  refine ww_iload_n (pc := 1135) hC dL_law_1135 0 rfl ?_
  refine ww_iconst (pc := 1136) hC (v := (2 : Int32)) dL_law_1136 (by decide) ?_
  refine ww_iadd (pc := 1137) hC dL_law_1137 ?_
  refine ww_sld (pc := 1138) hC hE hX hbl hv2 dL_law_1138 ?_
  refine ww_aload_n (pc := 1139) hC dL_law_1139 3 rfl ?_
  refine ww_iload_n (pc := 1140) hC dL_law_1140 0 rfl ?_
  refine ww_iconst (pc := 1141) hC (v := (3 : Int32)) dL_law_1141 (by decide) ?_
  refine ww_iadd (pc := 1142) hC dL_law_1142 ?_
  refine ww_sld (pc := 1143) hC hE hX hbl hv3 dL_law_1143 ?_
  refine ww_callVi (pc := 1144) hC [.int (xs (i3 + 1).toNatClampNeg), .int (xs (i3 + 2).toNatClampNeg), .int (xs (i3 + 3).toNatClampNeg)] (X' := Xm1) layM0.1.1 layM0.1.2 (by decide) (ceX12_tape layM0 h2) ql_L_155 qi_X12_tape qs_X12_X12_tape qn_X12 qc_X12_tape rfl ⟨by decide, by decide, rfl⟩ rfl ⟨Nat.le_of_ble_eq_true rfl, Nat.le_of_ble_eq_true rfl⟩ (by decide) (rest := [.int r]) (Nat.le_of_ble_eq_true rfl) dL_law_1144 hf rfl ?_
  refine ww_toC ?_
  refine ww_icmp_eq (pc := 1147) hC (d := Classical.propDecidable _) (α := Unit) (f1 := some ()) (f2 := none) (r := ()) (if_pos rfl) 1322 dL_law_1147 (by decide) (fun _ => ?_) (fun q => by cases q)
  exact kk
set_option maxHeartbeats 40000000 in
set_option maxRecDepth 100000 in
theorem law_34 {p : Program} {l : Launch} {e : Env} {s : State} {m : MethodId} {args : Array Value} {below : List Frame} {meth : Method} {c : Code} {Q : State → Prop} {E : XE} (hC : CX p s m args meth c E cL_law 4 "FootKeeperLaw") (hE : E.2.2.1 = s.heap.size) {b N : Nat} {xs : Nat → Int32} (hX : va_X b N xs s s.heap) (hbl : b < s.heap.size) {i3 : Int32} (hv1 : vp_in (i3 + 1) N) (hv2 : vp_in (i3 + 2) N) (hv3 : vp_in (i3 + 3) N) (hv4 : vp_in (i3 + 4) N) {cells slots : Nat} (hf : cells ≤ room_1.cells ∧ slots ≤ room_1.slots) {Zc : XS} {Xc Xm Xc1 Xm1 : XD} (hL : LayC Zc) {r : Int32} (h1 : fX11_item Zc (xs (i3 + 1).toNatClampNeg) (xs (i3 + 2).toNatClampNeg) ((((xs (i3 + 3).toNatClampNeg)).toInt64 <<< ((32 : Int32).toInt64 &&& 63)) ||| (((xs (i3 + 4).toNatClampNeg)).toInt64 &&& (4294967295 : Int64))) Xc = some (r, Xc1)) (h2 : fX12_item (xs (i3 + 1).toNatClampNeg) (xs (i3 + 2).toNatClampNeg) ((((xs (i3 + 3).toNatClampNeg)).toInt64 <<< ((32 : Int32).toInt64 &&& 63)) ||| (((xs (i3 + 4).toNatClampNeg)).toInt64 &&& (4294967295 : Int64))) Xm = some (r, Xm1))
    (kk : WW p l e room_1 s m args below meth c 4 Q E (wC E Xm1) cells slots (adC E.2.2.1 (sn Zc)) Zc 1322 (lwlv E b i3) [] Xc1) : WW p l e room_1 s m args below meth c 4 Q E (wC E Xm) cells slots (adC E.2.2.1 (sn Zc)) Zc 1152 (lwlv E b i3) [] Xc := by
  refine ww_aload_n (pc := 1152) hC dL_law_1152 2 rfl ?_
  refine ww_aload_n (pc := 1153) hC dL_law_1153 3 rfl ?_
  refine ww_iload_n (pc := 1154) hC dL_law_1154 0 rfl ?_
  refine ww_iconst (pc := 1155) hC (v := (1 : Int32)) dL_law_1155 (by decide) ?_
  refine ww_iadd (pc := 1156) hC dL_law_1156 ?_
  refine ww_sld (pc := 1157) hC hE hX hbl hv1 dL_law_1157 ?_
  refine ww_aload_n (pc := 1158) hC dL_law_1158 3 rfl ?_
  refine ww_iload_n (pc := 1159) hC dL_law_1159 0 rfl ?_
  refine ww_iconst (pc := 1160) hC (v := (2 : Int32)) dL_law_1160 (by decide) ?_
  refine ww_iadd (pc := 1161) hC dL_law_1161 ?_
  refine ww_sld (pc := 1162) hC hE hX hbl hv2 dL_law_1162 ?_
  refine ww_aload_n (pc := 1163) hC dL_law_1163 3 rfl ?_
  refine ww_iload_n (pc := 1164) hC dL_law_1164 0 rfl ?_
  refine ww_iconst (pc := 1165) hC (v := (3 : Int32)) dL_law_1165 (by decide) ?_
  refine ww_iadd (pc := 1166) hC dL_law_1166 ?_
  refine ww_sld (pc := 1167) hC hE hX hbl hv3 dL_law_1167 ?_
  refine ww_i2l (pc := 1168) hC dL_law_1168 ?_
  refine ww_bipush (pc := 1169) hC (v := (32 : Int32)) dL_law_1169 (by decide) ?_
  refine ww_lshl (pc := 1171) hC dL_law_1171 ?_
  refine ww_aload_n (pc := 1172) hC dL_law_1172 3 rfl ?_
  refine ww_iload_n (pc := 1173) hC dL_law_1173 0 rfl ?_
  refine ww_iconst (pc := 1174) hC (v := (4 : Int32)) dL_law_1174 (by decide) ?_
  refine ww_iadd (pc := 1175) hC dL_law_1175 ?_
  refine ww_sld (pc := 1176) hC hE hX hbl hv4 dL_law_1176 ?_
  refine ww_i2l (pc := 1177) hC dL_law_1177 ?_
  refine ww_ldc2 (pc := 1178) hC (v := (4294967295 : Int64)) dL_law_1178 qg_L_156 ?_
  refine ww_land (pc := 1181) hC dL_law_1181 ?_
  refine ww_lor (pc := 1182) hC dL_law_1182 ?_
  refine ww_callVi (pc := 1183) hC [.int (xs (i3 + 1).toNatClampNeg), .int (xs (i3 + 2).toNatClampNeg), .long ((((xs (i3 + 3).toNatClampNeg)).toInt64 <<< ((32 : Int32).toInt64 &&& 63)) ||| (((xs (i3 + 4).toNatClampNeg)).toInt64 &&& (4294967295 : Int64)))] (X' := Xc1) hL.1.1 hL.1.2 (by decide) (ceX11_item hL h1) ql_L_158 qi_X11_item qs_X11_X11_item qn_X11 qc_X11_item rfl ⟨by decide, by decide, rfl⟩ rfl ⟨Nat.le_of_ble_eq_true rfl, Nat.le_of_ble_eq_true rfl⟩ (by decide) (rest := []) (Nat.le_of_ble_eq_true rfl) dL_law_1183 hf rfl ?_
  refine ww_toM ?_
  refine ww_aload_n (pc := 1186) hC dL_law_1186 1 rfl ?_
  refine ww_aload_n (pc := 1187) hC dL_law_1187 3 rfl ?_
  refine ww_iload_n (pc := 1188) hC dL_law_1188 0 rfl ?_
  refine ww_iconst (pc := 1189) hC (v := (1 : Int32)) dL_law_1189 (by decide) ?_
  refine ww_iadd (pc := 1190) hC dL_law_1190 ?_
  refine ww_sld (pc := 1191) hC hE hX hbl hv1 dL_law_1191 ?_
  refine ww_aload_n (pc := 1192) hC dL_law_1192 3 rfl ?_
  refine ww_iload_n (pc := 1193) hC dL_law_1193 0 rfl ?_
  refine ww_iconst (pc := 1194) hC (v := (2 : Int32)) dL_law_1194 (by decide) ?_
  refine ww_iadd (pc := 1195) hC dL_law_1195 ?_
  refine ww_sld (pc := 1196) hC hE hX hbl hv2 dL_law_1196 ?_
  refine ww_aload_n (pc := 1197) hC dL_law_1197 3 rfl ?_
  refine ww_iload_n (pc := 1198) hC dL_law_1198 0 rfl ?_
  refine ww_iconst (pc := 1199) hC (v := (3 : Int32)) dL_law_1199 (by decide) ?_
  refine ww_iadd (pc := 1200) hC dL_law_1200 ?_
  refine ww_sld (pc := 1201) hC hE hX hbl hv3 dL_law_1201 ?_
  refine ww_i2l (pc := 1202) hC dL_law_1202 ?_
  refine ww_bipush (pc := 1203) hC (v := (32 : Int32)) dL_law_1203 (by decide) ?_
  refine ww_lshl (pc := 1205) hC dL_law_1205 ?_
  refine ww_aload_n (pc := 1206) hC dL_law_1206 3 rfl ?_
  refine ww_iload_n (pc := 1207) hC dL_law_1207 0 rfl ?_
  refine ww_iconst (pc := 1208) hC (v := (4 : Int32)) dL_law_1208 (by decide) ?_
  refine ww_iadd (pc := 1209) hC dL_law_1209 ?_
  refine ww_sld (pc := 1210) hC hE hX hbl hv4 dL_law_1210 ?_
  refine ww_i2l (pc := 1211) hC dL_law_1211 ?_
  refine ww_ldc2 (pc := 1212) hC (v := (4294967295 : Int64)) dL_law_1212 qg_L_156 ?_
  refine ww_land (pc := 1215) hC dL_law_1215 ?_
  refine ww_lor (pc := 1216) hC dL_law_1216 ?_
  refine ww_callVi (pc := 1217) hC [.int (xs (i3 + 1).toNatClampNeg), .int (xs (i3 + 2).toNatClampNeg), .long ((((xs (i3 + 3).toNatClampNeg)).toInt64 <<< ((32 : Int32).toInt64 &&& 63)) ||| (((xs (i3 + 4).toNatClampNeg)).toInt64 &&& (4294967295 : Int64)))] (X' := Xm1) layM0.1.1 layM0.1.2 (by decide) (ceX12_item layM0 h2) ql_L_162 qi_X12_item qs_X12_X12_item qn_X12 qc_X12_item rfl ⟨by decide, by decide, rfl⟩ rfl ⟨Nat.le_of_ble_eq_true rfl, Nat.le_of_ble_eq_true rfl⟩ (by decide) (rest := [.int r]) (Nat.le_of_ble_eq_true rfl) dL_law_1217 hf rfl ?_
  refine ww_toC ?_
  refine ww_icmp_eq (pc := 1220) hC (d := Classical.propDecidable _) (α := Unit) (f1 := some ()) (f2 := none) (r := ()) (if_pos rfl) 1322 dL_law_1220 (by decide) (fun _ => ?_) (fun q => by cases q)
  exact kk
set_option maxHeartbeats 40000000 in
set_option maxRecDepth 100000 in
theorem law_35 {p : Program} {l : Launch} {e : Env} {s : State} {m : MethodId} {args : Array Value} {below : List Frame} {meth : Method} {c : Code} {Q : State → Prop} {E : XE} (hC : CX p s m args meth c E cL_law 4 "FootKeeperLaw") (hE : E.2.2.1 = s.heap.size) {b N : Nat} {xs : Nat → Int32} (hX : va_X b N xs s s.heap) (hbl : b < s.heap.size) {i3 : Int32} (hv1 : vp_in (i3 + 1) N) (hv2 : vp_in (i3 + 2) N) {cells slots : Nat} (hf : cells ≤ room_1.cells ∧ slots ≤ room_1.slots) {Zc : XS} {Xc Xm : XD} (hL : LayC Zc) {r : Int64} (h1 : fX11_read Zc (xs (i3 + 1).toNatClampNeg) (xs (i3 + 2).toNatClampNeg) Xc = some r) (h2 : fX12_read (xs (i3 + 1).toNatClampNeg) (xs (i3 + 2).toNatClampNeg) Xm = some r)
    (kk : WW p l e room_1 s m args below meth c 4 Q E (wC E Xm) cells slots (adC E.2.2.1 (sn Zc)) Zc 1322 (lwlv E b i3) [] Xc) : WW p l e room_1 s m args below meth c 4 Q E (wC E Xm) cells slots (adC E.2.2.1 (sn Zc)) Zc 1225 (lwlv E b i3) [] Xc := by
  refine ww_aload_n (pc := 1225) hC dL_law_1225 2 rfl ?_
  refine ww_aload_n (pc := 1226) hC dL_law_1226 3 rfl ?_
  refine ww_iload_n (pc := 1227) hC dL_law_1227 0 rfl ?_
  refine ww_iconst (pc := 1228) hC (v := (1 : Int32)) dL_law_1228 (by decide) ?_
  refine ww_iadd (pc := 1229) hC dL_law_1229 ?_
  refine ww_sld (pc := 1230) hC hE hX hbl hv1 dL_law_1230 ?_
  refine ww_aload_n (pc := 1231) hC dL_law_1231 3 rfl ?_
  refine ww_iload_n (pc := 1232) hC dL_law_1232 0 rfl ?_
  refine ww_iconst (pc := 1233) hC (v := (2 : Int32)) dL_law_1233 (by decide) ?_
  refine ww_iadd (pc := 1234) hC dL_law_1234 ?_
  refine ww_sld (pc := 1235) hC hE hX hbl hv2 dL_law_1235 ?_
  refine ww_callVl (pc := 1236) hC [.int (xs (i3 + 1).toNatClampNeg), .int (xs (i3 + 2).toNatClampNeg)] (X' := Xc) hL.1.1 hL.1.2 (by decide) (ceX11_read hL h1) ql_L_163 qi_X11_read qs_X11_X11_read qn_X11 qc_X11_read rfl ⟨by decide, by decide, rfl⟩ rfl ⟨Nat.le_of_ble_eq_true rfl, Nat.le_of_ble_eq_true rfl⟩ (by decide) (rest := []) (Nat.le_of_ble_eq_true rfl) dL_law_1236 hf rfl ?_
  refine ww_toM ?_
  refine ww_aload_n (pc := 1239) hC dL_law_1239 1 rfl ?_
  refine ww_aload_n (pc := 1240) hC dL_law_1240 3 rfl ?_
  refine ww_iload_n (pc := 1241) hC dL_law_1241 0 rfl ?_
  refine ww_iconst (pc := 1242) hC (v := (1 : Int32)) dL_law_1242 (by decide) ?_
  refine ww_iadd (pc := 1243) hC dL_law_1243 ?_
  refine ww_sld (pc := 1244) hC hE hX hbl hv1 dL_law_1244 ?_
  refine ww_aload_n (pc := 1245) hC dL_law_1245 3 rfl ?_
  refine ww_iload_n (pc := 1246) hC dL_law_1246 0 rfl ?_
  refine ww_iconst (pc := 1247) hC (v := (2 : Int32)) dL_law_1247 (by decide) ?_
  refine ww_iadd (pc := 1248) hC dL_law_1248 ?_
  refine ww_sld (pc := 1249) hC hE hX hbl hv2 dL_law_1249 ?_
  refine ww_callVl (pc := 1250) hC [.int (xs (i3 + 1).toNatClampNeg), .int (xs (i3 + 2).toNatClampNeg)] (X' := Xm) layM0.1.1 layM0.1.2 (by decide) (ceX12_read layM0 h2) ql_L_166 qi_X12_read qs_X12_X12_read qn_X12 qc_X12_read rfl ⟨by decide, by decide, rfl⟩ rfl ⟨Nat.le_of_ble_eq_true rfl, Nat.le_of_ble_eq_true rfl⟩ (by decide) (rest := [.long r]) (Nat.le_of_ble_eq_true rfl) dL_law_1250 hf rfl ?_
  refine ww_toC ?_
  refine ww_lcmp (pc := 1253) hC dL_law_1253 ?_
  rw [lcmp_rr]
  refine ww_if_eq (pc := 1254) hC (d := Classical.propDecidable _) (α := Unit) (f1 := some ()) (f2 := none) (r := ()) (if_pos rfl) 1322 dL_law_1254 (by decide) (fun _ => ?_) (fun q => by cases q)
  exact kk
set_option maxHeartbeats 40000000 in
set_option maxRecDepth 100000 in
theorem law_36 {p : Program} {l : Launch} {e : Env} {s : State} {m : MethodId} {args : Array Value} {below : List Frame} {meth : Method} {c : Code} {Q : State → Prop} {E : XE} (hC : CX p s m args meth c E cL_law 4 "FootKeeperLaw") (hE : E.2.2.1 = s.heap.size) {b N : Nat} {xs : Nat → Int32} (hX : va_X b N xs s s.heap) (hbl : b < s.heap.size) {i3 : Int32} (hv1 : vp_in (i3 + 1) N) (hv2 : vp_in (i3 + 2) N) (hv3 : vp_in (i3 + 3) N) (hv4 : vp_in (i3 + 4) N) (hv5 : vp_in (i3 + 5) N) {cells slots : Nat} (hf : cells ≤ room_1.cells ∧ slots ≤ room_1.slots) {Zc : XS} {Xc Xm Xc1 Xm1 : XD} (hL : LayC Zc) {r : Int32} (h1 : fX11_shift Zc (xs (i3 + 1).toNatClampNeg) (xs (i3 + 2).toNatClampNeg) (xs (i3 + 3).toNatClampNeg) (xs (i3 + 4).toNatClampNeg) (xs (i3 + 5).toNatClampNeg) Xc = some (r, Xc1)) (h2 : fX12_shift (xs (i3 + 1).toNatClampNeg) (xs (i3 + 2).toNatClampNeg) (xs (i3 + 3).toNatClampNeg) (xs (i3 + 4).toNatClampNeg) (xs (i3 + 5).toNatClampNeg) Xm = some (r, Xm1))
    (kk : WW p l e room_1 s m args below meth c 4 Q E (wC E Xm1) cells slots (adC E.2.2.1 (sn Zc)) Zc 1322 (lwlv E b i3) [] Xc1) : WW p l e room_1 s m args below meth c 4 Q E (wC E Xm) cells slots (adC E.2.2.1 (sn Zc)) Zc 1259 (lwlv E b i3) [] Xc := by
  refine ww_aload_n (pc := 1259) hC dL_law_1259 2 rfl ?_
  refine ww_aload_n (pc := 1260) hC dL_law_1260 3 rfl ?_
  refine ww_iload_n (pc := 1261) hC dL_law_1261 0 rfl ?_
  refine ww_iconst (pc := 1262) hC (v := (1 : Int32)) dL_law_1262 (by decide) ?_
  refine ww_iadd (pc := 1263) hC dL_law_1263 ?_
  refine ww_sld (pc := 1264) hC hE hX hbl hv1 dL_law_1264 ?_
  refine ww_aload_n (pc := 1265) hC dL_law_1265 3 rfl ?_
  refine ww_iload_n (pc := 1266) hC dL_law_1266 0 rfl ?_
  refine ww_iconst (pc := 1267) hC (v := (2 : Int32)) dL_law_1267 (by decide) ?_
  refine ww_iadd (pc := 1268) hC dL_law_1268 ?_
  refine ww_sld (pc := 1269) hC hE hX hbl hv2 dL_law_1269 ?_
  refine ww_aload_n (pc := 1270) hC dL_law_1270 3 rfl ?_
  refine ww_iload_n (pc := 1271) hC dL_law_1271 0 rfl ?_
  refine ww_iconst (pc := 1272) hC (v := (3 : Int32)) dL_law_1272 (by decide) ?_
  refine ww_iadd (pc := 1273) hC dL_law_1273 ?_
  refine ww_sld (pc := 1274) hC hE hX hbl hv3 dL_law_1274 ?_
  refine ww_aload_n (pc := 1275) hC dL_law_1275 3 rfl ?_
  refine ww_iload_n (pc := 1276) hC dL_law_1276 0 rfl ?_
  refine ww_iconst (pc := 1277) hC (v := (4 : Int32)) dL_law_1277 (by decide) ?_
  refine ww_iadd (pc := 1278) hC dL_law_1278 ?_
  refine ww_sld (pc := 1279) hC hE hX hbl hv4 dL_law_1279 ?_
  refine ww_aload_n (pc := 1280) hC dL_law_1280 3 rfl ?_
  refine ww_iload_n (pc := 1281) hC dL_law_1281 0 rfl ?_
  refine ww_iconst (pc := 1282) hC (v := (5 : Int32)) dL_law_1282 (by decide) ?_
  refine ww_iadd (pc := 1283) hC dL_law_1283 ?_
  refine ww_sld (pc := 1284) hC hE hX hbl hv5 dL_law_1284 ?_
  refine ww_callVi (pc := 1285) hC [.int (xs (i3 + 1).toNatClampNeg), .int (xs (i3 + 2).toNatClampNeg), .int (xs (i3 + 3).toNatClampNeg), .int (xs (i3 + 4).toNatClampNeg), .int (xs (i3 + 5).toNatClampNeg)] (X' := Xc1) hL.1.1 hL.1.2 (by decide) (ceX11_shift hL h1) ql_L_167 qi_X11_shift qs_X11_X11_shift qn_X11 qc_X11_shift rfl ⟨by decide, by decide, rfl⟩ rfl ⟨Nat.le_of_ble_eq_true rfl, Nat.le_of_ble_eq_true rfl⟩ (by decide) (rest := []) (Nat.le_of_ble_eq_true rfl) dL_law_1285 hf rfl ?_
  refine ww_toM ?_
  refine ww_aload_n (pc := 1288) hC dL_law_1288 1 rfl ?_
  refine ww_aload_n (pc := 1289) hC dL_law_1289 3 rfl ?_
  refine ww_iload_n (pc := 1290) hC dL_law_1290 0 rfl ?_
  refine ww_iconst (pc := 1291) hC (v := (1 : Int32)) dL_law_1291 (by decide) ?_
  refine ww_iadd (pc := 1292) hC dL_law_1292 ?_
  refine ww_sld (pc := 1293) hC hE hX hbl hv1 dL_law_1293 ?_
  refine ww_aload_n (pc := 1294) hC dL_law_1294 3 rfl ?_
  refine ww_iload_n (pc := 1295) hC dL_law_1295 0 rfl ?_
  refine ww_iconst (pc := 1296) hC (v := (2 : Int32)) dL_law_1296 (by decide) ?_
  refine ww_iadd (pc := 1297) hC dL_law_1297 ?_
  refine ww_sld (pc := 1298) hC hE hX hbl hv2 dL_law_1298 ?_
  refine ww_aload_n (pc := 1299) hC dL_law_1299 3 rfl ?_
  refine ww_iload_n (pc := 1300) hC dL_law_1300 0 rfl ?_
  refine ww_iconst (pc := 1301) hC (v := (3 : Int32)) dL_law_1301 (by decide) ?_
  refine ww_iadd (pc := 1302) hC dL_law_1302 ?_
  refine ww_sld (pc := 1303) hC hE hX hbl hv3 dL_law_1303 ?_
  refine ww_aload_n (pc := 1304) hC dL_law_1304 3 rfl ?_
  refine ww_iload_n (pc := 1305) hC dL_law_1305 0 rfl ?_
  refine ww_iconst (pc := 1306) hC (v := (4 : Int32)) dL_law_1306 (by decide) ?_
  refine ww_iadd (pc := 1307) hC dL_law_1307 ?_
  refine ww_sld (pc := 1308) hC hE hX hbl hv4 dL_law_1308 ?_
  refine ww_aload_n (pc := 1309) hC dL_law_1309 3 rfl ?_
  refine ww_iload_n (pc := 1310) hC dL_law_1310 0 rfl ?_
  refine ww_iconst (pc := 1311) hC (v := (5 : Int32)) dL_law_1311 (by decide) ?_
  refine ww_iadd (pc := 1312) hC dL_law_1312 ?_
  refine ww_sld (pc := 1313) hC hE hX hbl hv5 dL_law_1313 ?_
  refine ww_callVi (pc := 1314) hC [.int (xs (i3 + 1).toNatClampNeg), .int (xs (i3 + 2).toNatClampNeg), .int (xs (i3 + 3).toNatClampNeg), .int (xs (i3 + 4).toNatClampNeg), .int (xs (i3 + 5).toNatClampNeg)] (X' := Xm1) layM0.1.1 layM0.1.2 (by decide) (ceX12_shift layM0 h2) ql_L_171 qi_X12_shift qs_X12_X12_shift qn_X12 qc_X12_shift rfl ⟨by decide, by decide, rfl⟩ rfl ⟨Nat.le_of_ble_eq_true rfl, Nat.le_of_ble_eq_true rfl⟩ (by decide) (rest := [.int r]) (Nat.le_of_ble_eq_true rfl) dL_law_1314 hf rfl ?_
  refine ww_toC ?_
  refine ww_icmp_eq (pc := 1317) hC (d := Classical.propDecidable _) (α := Unit) (f1 := some ()) (f2 := none) (r := ()) (if_pos rfl) 1322 dL_law_1317 (by decide) (fun _ => ?_) (fun q => by cases q)
  exact kk
