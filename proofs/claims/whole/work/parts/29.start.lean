set_option maxHeartbeats 40000000
set_option maxRecDepth 100000
theorem ws_cong {E : XE} {w w' : XW} {Z : XS} {X : XD} (hR : RC Z) (hw : ∀ i, i < sn Z → w'.1 i = w.1 i) : wsX E w' Z X = wsX E w Z X := by
  unfold wsX
  apply List.map_congr_left
  intro i hi
  have hi := List.mem_range.mp hi
  have e0 : ∀ k, (sR Z i k).map w'.1 = (sR Z i k).map w.1 := by
    intro k
    cases h : sR Z i k with
    | none => rfl
    | some t => show some (w'.1 t) = some (w.1 t); rw [hw t (hR i k t h)]
  have e1 : fsOf w' Z X (sK Z i) i = fsOf w Z X (sK Z i) i := by
    unfold fsOf
    apply List.map_congr_left
    intro k _
    unfold fvT
    rw [e0]
  have e2 : arOf w' Z X (sK Z i) i = arOf w Z X (sK Z i) i := by
    unfold arOf
    rw [show (fun j => (sR Z i j).map w'.1) = (fun j => (sR Z i j).map w.1) from funext e0]
  rw [hw i hi]
  unfold ceOf
  rw [e1, e2]
theorem ph_start {E : XE} {H : Heap} (hz : H.size = E.2.2.1) : PH E (fun i => E.2.2.1 + i, []) E.2.2.1 zE xE H := ⟨fun k q h => (by cases (show ([] : va_W)[k]? = some q from h)), ⟨fun i j p q h => (by cases (show ([] : va_W)[i]? = some p from h)), fun k q h => (by cases (show ([] : va_W)[k]? = some q from h))⟩, hz⟩
theorem ph_second {E : XE} {H : Heap} (h : PH E (fun i => E.2.2.1 + i, []) (E.2.2.1 + sn cZE) cZE cXE H) : PH E (wM E cZE cXE) (adM E.2.2.1 (sn zE)) zE xE H := by
  obtain ⟨h1, h2, h3⟩ := h
  have e : wsX E (adC E.2.2.1, []) cZE cXE = wsX E (fun i => E.2.2.1 + i, []) cZE cXE := ws_cong rcC (fun i hi => by
    rw [snC] at hi
    exact if_pos hi)
  have e1 : va_P E.1 xCl (wsX E (fun i => E.2.2.1 + i, []) cZE cXE ++ []) H := h1
  have e2 : va_D (A0 E) (wsX E (fun i => E.2.2.1 + i, []) cZE cXE ++ []) := h2
  rw [List.append_nil] at e1 e2
  refine ⟨?_, ?_, ?_⟩
  · show va_P E.1 xCl ([] ++ wsX E (adC E.2.2.1, []) cZE cXE) H
    rw [e]
    exact e1
  · show va_D (A0 E) ([] ++ wsX E (adC E.2.2.1, []) cZE cXE)
    rw [e]
    exact e2
  · rw [h3, snC]
    rfl
theorem start_of {Rel : XS → XD → XD → Prop} (hG : Good Rel) {p : Program} {e : Env} {s : State} {m : MethodId} {below : List Frame} {meth : Method} {c : Code} (l : Launch) {b L : Nat} {xs : Nat → Int32} (hL : L ≤ 3072) (C0 : lw_At p s m meth c b L xs) : W p l e room_1 s m #[Value.ref b] below meth c s.heap [] 0 0 (lw_Z below #[Value.ref b] s) (entryFrame m ([Value.ref b] : List Value).toArray 4) := by
  obtain ⟨hx, hb, hr, hml, hown, hts, hX, hbl, hlocks, hgv⟩ := C0
  obtain ⟨E, hE, hK, hES⟩ := env_all hts (flat_of_before _ hgv)
  have hC : CX p s m #[Value.ref b] meth c E cL_law 4 "FootKeeperLaw" := ⟨hx, hb, hml, hown, fun w hw => hts w (xtb_lw hw), hK, hlocks, by rw [hE]; exact Nat.le_refl _, hES⟩
  have hl := lv_entry ([.ref b]) (n := 4) (Nat.le_of_ble_eq_true rfl)
  rw [lg_entry_eq]
  obtain ⟨w0, ew0⟩ : ∃ w0 : XW, w0 = (fun i => E.2.2.1 + i, []) := ⟨_, rfl⟩
  have hW0 : ∀ i : Nat, w0.1 i = w0.1 0 + i := by
    intro i
    subst ew0
    show E.2.2.1 + i = E.2.2.1 + 0 + i
    omega
  have hT0 : CT w0 zE := ct0 hW0 _
  have hW1 : ∀ i : Nat, (wM E cZE cXE).1 i = (wM E cZE cXE).1 0 + i := by
    intro i
    show E.2.2.1 + 157 + i = E.2.2.1 + 157 + 0 + i
    omega
  have hT1 : CT (wM E cZE cXE) zE := ct0 hW1 _
  have hPH : PH E w0 (w0.1 (sn zE)) zE xE s.heap := by
    subst ew0
    exact ph_start hE.symm
  refine (?_ : WW p l e room_1 s m #[Value.ref b] below meth c 4 (lw_Z below #[Value.ref b] s) E w0 0 0 (w0.1 (sn zE)) zE 0 [(0, .ref b)] [] xE) s.heap [] _ hPH va_S.rf hl
  subst ew0
  refine ww_new (pc := 0) hC 11 (by decide) hT0 (n := 0) rfl rfl (Z' := cZ0) rfl (X' := cX0) rfl qk_L_7 qa_X11 qn_X11 dL_law_0 (Nat.le_of_ble_eq_true rfl) (Nat.le_of_ble_eq_true rfl) ?_
  refine ww_dup (pc := 3) hC dL_law_3 rfl ?_
  refine ww_callI (pc := 4) hC [] (mc := 156) (ms := 2150) (Z' := cZE) (X' := cXE) (ciX11_init_1 hW0) ql_L_9 qi_X11_init qn_X11 qc_X11_init rfl ⟨by decide, by decide, rfl⟩ rfl ⟨Nat.le_of_ble_eq_true rfl, Nat.le_of_ble_eq_true rfl⟩ (by decide) (rest := [.ref ((E.2.2.1 + 0))]) (Nat.le_of_ble_eq_true rfl) dL_law_4 ⟨Nat.le_of_ble_eq_true rfl, Nat.le_of_ble_eq_true rfl⟩ rfl ?_
  refine ww_astore_n (pc := 7) hC [(1, .ref ((E.2.2.1 + 0))), (0, .ref b)] dL_law_7 rfl (by decide) rfl ?_
  refine ww_re (w' := wM E cZE cXE) (z' := (wM E cZE cXE).1 (sn zE)) (Z' := zE) (X' := xE) (fun H h => ph_second h) ?_
  refine ww_new (pc := 8) hC 12 (by decide) hT1 (n := 0) rfl rfl (Z' := mZ0) rfl (X' := mX0) rfl qk_L_10 qa_X12 qn_X12 dL_law_8 (Nat.le_of_ble_eq_true rfl) (Nat.le_of_ble_eq_true rfl) ?_
  refine ww_dup (pc := 11) hC dL_law_11 rfl ?_
  refine ww_callI (pc := 12) hC [] (mc := 42) (ms := 1822) (Z' := mZE) (X' := mXE) (ciX12_init_46 hW1) ql_L_12 qi_X12_init qn_X12 qc_X12_init rfl ⟨by decide, by decide, rfl⟩ rfl ⟨Nat.le_of_ble_eq_true rfl, Nat.le_of_ble_eq_true rfl⟩ (by decide) (rest := [.ref ((wM E cZE cXE).1 0)]) (Nat.le_of_ble_eq_true rfl) dL_law_12 ⟨Nat.le_of_ble_eq_true rfl, Nat.le_of_ble_eq_true rfl⟩ rfl ?_
  refine ww_astore_n (pc := 15) hC [(2, .ref ((wM E cZE cXE).1 0)), (1, .ref ((E.2.2.1 + 0))), (0, .ref b)] dL_law_15 rfl (by decide) rfl ?_
  refine ww_iconst (pc := 16) hC (v := (0 : Int32)) dL_law_16 (by decide) ?_
  refine ww_istore_n (pc := 17) hC (lwlv E b (Int32.ofNat 0)) dL_law_17 rfl (by decide) rfl ?_
  refine ww_toC ?_
  have hz : (wM E cZE cXE).1 (sn mZE) = adC E.2.2.1 (sn cZE) := by
    rw [snC, adC_n (Nat.le_refl _), snM]
    show E.2.2.1 + 157 + 43 = E.2.2.1 + 43 + 157
    omega
  rw [hz]
  exact law_loop hG hC hE hX hbl hr hL 4000 0 _ _ cZE cXE mXE (Nat.zero_le _) (by omega) (by decide) (by decide) hG.1
