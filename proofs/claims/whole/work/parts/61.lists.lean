set_option maxHeartbeats 40000000
set_option maxRecDepth 100000
/-! lists told by hand: line, see, book; feed; taken-/
theorem CRow.add {cap a f d n : Nat} {ok : Int32 → Prop} {Xc Xm : XD} {x : Int32} (h : CRow cap ok (Xc.1 a 1) (Xc.1 (a + 1)) (Xm.1 0 f) (Xm.1 d)) (hf : Xm.1 0 f = Int32.ofNat n) (hc : cap ≤ 1000) (hn : n < cap) (hx : ok x) (hd : d ≠ 0) : CRow cap ok ((rAdd Xc a n x).1 a 1) ((rAdd Xc a n x).1 (a + 1)) ((wI (wI Xm d n x) 0 f (Int32.ofNat (n + 1))).1 0 f) ((wI (wI Xm d n x) 0 f (Int32.ofNat (n + 1))).1 d) := by
  have e1 : (rAdd Xc a n x).1 a 1 = Int32.ofNat (n + 1) := wI_s
  have e2 : (rAdd Xc a n x).1 (a + 1) = fun j => if j = n then x else Xc.1 (a + 1) j := by
    unfold rAdd
    rw [wI_c (show a + 1 ≠ a by omega), wI_row, wI_c (show a + 1 ≠ a by omega)]
  have e3 : (wI (wI Xm d n x) 0 f (Int32.ofNat (n + 1))).1 d = fun j => if j = n then x else Xm.1 d j := by
    rw [wI_c hd, wI_row]
  rw [e1, e2, e3, wI_s]
  exact h.put hf hc hn hx
theorem rAdd_o {X : XD} {a n q : Nat} {x : Int32} (h : q ≠ a) (h2 : q ≠ a + 1) : (rAdd X a n x).1 q = X.1 q := by
  unfold rAdd
  rw [wI_c h, wI_c h2, wI_c h]
theorem eq_m1 {n : Nat} (h : n < 100) : ¬ Int32.ofNat n = -1 := fun z => cast (n_eq_f (a := n) (b := 1) (by omega) (by decide) (by decide)) z
theorem st12 : St12 Rel := by
  intro Z Xc Xm a1 ⟨n, m, r, h⟩
  have hn := h.2.1.1
  have hl := h.2.2.2.2.2.1
  have h53 : sL Z 53 = 4 := h.1.2.2.2.1
  unfold fX11_line fX12_line fX3_clear
  by_cases z : a1 = -1
  · rw [if_pos z, if_pos z, nm_eq, nm_eq, nm_eq, bnw_some]
    refine ⟨_, _, _, rfl, rfl, n, m, r, h.ls ⟨?_, ?_, ?_, ?_⟩ ?_ rfl ?_ ?_ rfl⟩
    · show CRow 4 _ ((wI (wI Xc 52 2 0) 52 1 0).1 52 1) ((wI (wI Xc 52 2 0) 52 1 0).1 53) ((wI Xm 0 32 0).1 0 32) ((wI Xm 0 32 0).1 20)
      rw [wI_s, wI_s]
      exact CRow.nil
    · show CRow 6 _ ((wI (wI Xc 52 2 0) 52 1 0).1 54 1) ((wI (wI Xc 52 2 0) 52 1 0).1 55) ((wI Xm 0 32 0).1 0 38) ((wI Xm 0 32 0).1 25)
      rw [wI_c (by decide), wI_c (by decide), wI_c (by decide), wI_c (by decide), wI_k (by decide), wI_c (by decide)]
      exact hl.2.1
    · show CRow 10 _ ((wI (wI Xc 52 2 0) 52 1 0).1 56 1) ((wI (wI Xc 52 2 0) 52 1 0).1 57) ((wI Xm 0 32 0).1 0 40) ((wI Xm 0 32 0).1 26)
      rw [wI_c (by decide), wI_c (by decide), wI_c (by decide), wI_c (by decide), wI_k (by decide), wI_c (by decide)]
      exact hl.2.2.1
    · show CRow 10 _ ((wI (wI Xc 52 2 0) 52 1 0).1 58 1) ((wI (wI Xc 52 2 0) 52 1 0).1 59) ((wI Xm 0 32 0).1 0 40) ((wI Xm 0 32 0).1 27)
      rw [wI_c (by decide), wI_c (by decide), wI_c (by decide), wI_c (by decide), wI_k (by decide), wI_c (by decide)]
      exact hl.2.2.2
    · intro i hi; rw [wI_c (by omega), wI_c (by omega)]
    · intro q q0 _; exact wI_c q0
    · intro j hj; exact wI_k (by omega)
  rw [if_neg z, if_neg z]
  rcases h.2.1.find a1 with ⟨f1, f2⟩ | ⟨i, o, k, v, hi, rfl, ho, hc, hm, f1, f2⟩
  · rw [bnd_of f1, bnd_of f2]
    exact h.fin rfl rfl eqC.rfl eqM.rfl
  rw [bnd_of f1, bnd_of f2, mto_some, if_neg ne10]
  obtain ⟨e1, N, hN, e2, e3⟩ := hl.1
  have e1 : Xc.1 52 1 = Int32.ofNat N := e1.trans e2
  by_cases y : N = 4
  · rw [bnw_of (add_out (x := Int32.ofNat i) h53 e1 (by decide) y), if_pos rfl, e2, if_pos (show Int32.ofNat N = 4 by rw [y]; rfl)]
    refine ⟨_, _, _, rfl, rfl, n, m, r, h.ls ⟨?_, ?_, ?_, ?_⟩ ?_ rfl ?_ ?_ rfl⟩
    · show CRow 4 _ ((wI Xc 52 2 _).1 52 1) ((wI Xc 52 2 _).1 53) _ _
      rw [wI_k (by decide), wI_c (by decide)]
      exact hl.1
    · show CRow 6 _ ((wI Xc 52 2 _).1 54 1) ((wI Xc 52 2 _).1 55) _ _
      rw [wI_c (by decide), wI_c (by decide)]
      exact hl.2.1
    · show CRow 10 _ ((wI Xc 52 2 _).1 56 1) ((wI Xc 52 2 _).1 57) _ _
      rw [wI_c (by decide), wI_c (by decide)]
      exact hl.2.2.1
    · show CRow 10 _ ((wI Xc 52 2 _).1 58 1) ((wI Xc 52 2 _).1 59) _ _
      rw [wI_c (by decide), wI_c (by decide)]
      exact hl.2.2.2
    · intro i hi; rw [wI_c (by omega)]
    · intro q _ _; rfl
    · intro j _; rfl
  · have hlt : N < 4 := by have : N ≤ 4 := hN; omega
    have eN : Int32.ofNat N + 1 = Int32.ofNat (N + 1) := o_add N 1
    rw [bnw_of (add_in (x := Int32.ofNat i) h53 e1 (by decide) hlt), if_neg ne10, e2, if_neg (show ¬ Int32.ofNat N = 4 from fun w => y ((o_eq (b := 4) (by omega) (by omega)).mp w)), gin_o (by omega) (by omega), nm_eq, nm_eq, i32n (by omega), wI_c (show 0 ≠ 20 by decide), e2, eN, show (rAdd Xc 52 N (Int32.ofNat i)).1 52 1 = Int32.ofNat (N + 1) from wI_s, wI_s]
    refine ⟨_, _, _, rfl, rfl, n, m, r, h.ls ⟨CRow.add (a := 52) hl.1 e2 (by decide) hlt ⟨i, hi, rfl⟩ (by decide), ?_, ?_, ?_⟩ ?_ rfl ?_ ?_ rfl⟩
    · show CRow 6 _ ((rAdd Xc 52 N _).1 54 1) ((rAdd Xc 52 N _).1 55) ((wI (wI Xm 20 N _) 0 32 _).1 0 38) ((wI (wI Xm 20 N _) 0 32 _).1 25)
      rw [rAdd_o (by decide) (by decide), rAdd_o (by decide) (by decide), wI_k (by decide), wI_c (by decide), wI_c (by decide), wI_c (by decide)]
      exact hl.2.1
    · show CRow 10 _ ((rAdd Xc 52 N _).1 56 1) ((rAdd Xc 52 N _).1 57) ((wI (wI Xm 20 N _) 0 32 _).1 0 40) ((wI (wI Xm 20 N _) 0 32 _).1 26)
      rw [rAdd_o (by decide) (by decide), rAdd_o (by decide) (by decide), wI_k (by decide), wI_c (by decide), wI_c (by decide), wI_c (by decide)]
      exact hl.2.2.1
    · show CRow 10 _ ((rAdd Xc 52 N _).1 58 1) ((rAdd Xc 52 N _).1 59) ((wI (wI Xm 20 N _) 0 32 _).1 0 40) ((wI (wI Xm 20 N _) 0 32 _).1 27)
      rw [rAdd_o (by decide) (by decide), rAdd_o (by decide) (by decide), wI_k (by decide), wI_c (by decide), wI_c (by decide), wI_c (by decide)]
      exact hl.2.2.2
    · intro q hq; exact rAdd_o (by omega) (by omega)
    · intro q q0 hq; rw [wI_c q0, wI_c (by omega)]
    · intro j hj; rw [wI_k (by omega), wI_c (by decide)]
theorem st20 : St20 Rel := by
  intro Z Xc Xm a1 ⟨n, m, r, h⟩
  have hn := h.2.1.1
  have hl := h.2.2.2.2.2.1
  have h55 : sL Z 55 = 6 := h.1.2.2.2.2.1
  unfold fX11_see fX12_see fX3_clear
  by_cases z : a1 = -1
  · rw [if_pos z, if_pos z, nm_eq, nm_eq, nm_eq, bnw_some]
    refine ⟨_, _, _, rfl, rfl, n, m, r, h.ls ⟨?_, ?_, ?_, ?_⟩ ?_ rfl ?_ ?_ rfl⟩
    · show CRow 4 _ ((wI (wI Xc 54 2 0) 54 1 0).1 52 1) ((wI (wI Xc 54 2 0) 54 1 0).1 53) ((wI Xm 0 38 0).1 0 32) ((wI Xm 0 38 0).1 20)
      rw [wI_c (by decide), wI_c (by decide), wI_c (by decide), wI_c (by decide), wI_k (by decide), wI_c (by decide)]
      exact hl.1
    · show CRow 6 _ ((wI (wI Xc 54 2 0) 54 1 0).1 54 1) ((wI (wI Xc 54 2 0) 54 1 0).1 55) ((wI Xm 0 38 0).1 0 38) ((wI Xm 0 38 0).1 25)
      rw [wI_s, wI_s]
      exact CRow.nil
    · show CRow 10 _ ((wI (wI Xc 54 2 0) 54 1 0).1 56 1) ((wI (wI Xc 54 2 0) 54 1 0).1 57) ((wI Xm 0 38 0).1 0 40) ((wI Xm 0 38 0).1 26)
      rw [wI_c (by decide), wI_c (by decide), wI_c (by decide), wI_c (by decide), wI_k (by decide), wI_c (by decide)]
      exact hl.2.2.1
    · show CRow 10 _ ((wI (wI Xc 54 2 0) 54 1 0).1 58 1) ((wI (wI Xc 54 2 0) 54 1 0).1 59) ((wI Xm 0 38 0).1 0 40) ((wI Xm 0 38 0).1 27)
      rw [wI_c (by decide), wI_c (by decide), wI_c (by decide), wI_c (by decide), wI_k (by decide), wI_c (by decide)]
      exact hl.2.2.2
    · intro i hi; rw [wI_c (by omega), wI_c (by omega)]
    · intro q q0 _; exact wI_c q0
    · intro j hj; exact wI_k (by omega)
  rw [if_neg z, if_neg z]
  rcases side_cases (Z := Z) a1 with ⟨s1, s2⟩ | ⟨s, hs, rfl, s1, s2⟩
  · rw [bnd_of (s1 _), bnd_of (s2 _)]
    exact h.fin rfl rfl eqC.rfl eqM.rfl
  rw [bnd_of (s1 _), bnd_of (s2 _), if_neg ne10, if_neg ne10]
  obtain ⟨e1, N, hN, e2, e3⟩ := hl.2.1
  have e1 : Xc.1 54 1 = Int32.ofNat N := e1.trans e2
  by_cases y : N = 6
  · rw [bnw_of (add_out (x := Int32.ofNat s) h55 e1 (by decide) y), if_pos rfl, e2, if_pos (show Int32.ofNat N = 6 by rw [y]; rfl)]
    refine ⟨_, _, _, rfl, rfl, n, m, r, h.ls ⟨?_, ?_, ?_, ?_⟩ ?_ rfl ?_ ?_ rfl⟩
    · show CRow 4 _ ((wI Xc 54 2 _).1 52 1) ((wI Xc 54 2 _).1 53) _ _
      rw [wI_c (by decide), wI_c (by decide)]
      exact hl.1
    · show CRow 6 _ ((wI Xc 54 2 _).1 54 1) ((wI Xc 54 2 _).1 55) _ _
      rw [wI_k (by decide), wI_c (by decide)]
      exact hl.2.1
    · show CRow 10 _ ((wI Xc 54 2 _).1 56 1) ((wI Xc 54 2 _).1 57) _ _
      rw [wI_c (by decide), wI_c (by decide)]
      exact hl.2.2.1
    · show CRow 10 _ ((wI Xc 54 2 _).1 58 1) ((wI Xc 54 2 _).1 59) _ _
      rw [wI_c (by decide), wI_c (by decide)]
      exact hl.2.2.2
    · intro i hi; rw [wI_c (by omega)]
    · intro q _ _; rfl
    · intro j _; rfl
  · have hlt : N < 6 := by have : N ≤ 6 := hN; omega
    have eN : Int32.ofNat N + 1 = Int32.ofNat (N + 1) := o_add N 1
    rw [bnw_of (add_in (x := Int32.ofNat s) h55 e1 (by decide) hlt), if_neg ne10, e2, if_neg (show ¬ Int32.ofNat N = 6 from fun w => y ((o_eq (b := 6) (by omega) (by omega)).mp w)), gin_o (by omega) (by omega), nm_eq, nm_eq, i32n (by omega), wI_c (show 0 ≠ 25 by decide), e2, eN, show (rAdd Xc 54 N (Int32.ofNat s)).1 54 1 = Int32.ofNat (N + 1) from wI_s, wI_s]
    refine ⟨_, _, _, rfl, rfl, n, m, r, h.ls ⟨?_, CRow.add (a := 54) hl.2.1 e2 (by decide) hlt ⟨s, hs, rfl⟩ (by decide), ?_, ?_⟩ ?_ rfl ?_ ?_ rfl⟩
    · show CRow 4 _ ((rAdd Xc 54 N _).1 52 1) ((rAdd Xc 54 N _).1 53) ((wI (wI Xm 25 N _) 0 38 _).1 0 32) ((wI (wI Xm 25 N _) 0 38 _).1 20)
      rw [rAdd_o (by decide) (by decide), rAdd_o (by decide) (by decide), wI_k (by decide), wI_c (by decide), wI_c (by decide), wI_c (by decide)]
      exact hl.1
    · show CRow 10 _ ((rAdd Xc 54 N _).1 56 1) ((rAdd Xc 54 N _).1 57) ((wI (wI Xm 25 N _) 0 38 _).1 0 40) ((wI (wI Xm 25 N _) 0 38 _).1 26)
      rw [rAdd_o (by decide) (by decide), rAdd_o (by decide) (by decide), wI_k (by decide), wI_c (by decide), wI_c (by decide), wI_c (by decide)]
      exact hl.2.2.1
    · show CRow 10 _ ((rAdd Xc 54 N _).1 58 1) ((rAdd Xc 54 N _).1 59) ((wI (wI Xm 25 N _) 0 38 _).1 0 40) ((wI (wI Xm 25 N _) 0 38 _).1 27)
      rw [rAdd_o (by decide) (by decide), rAdd_o (by decide) (by decide), wI_k (by decide), wI_c (by decide), wI_c (by decide), wI_c (by decide)]
      exact hl.2.2.2
    · intro q hq; exact rAdd_o (by omega) (by omega)
    · intro q q0 hq; rw [wI_c q0, wI_c (by omega)]
    · intro j hj; rw [wI_k (by omega), wI_c (by decide)]
theorem st4 : St4 Rel := by
  intro Z Xc Xm a1 ⟨n, m, r, h⟩
  have hl := h.2.2.2.2.1
  have h46 : sL Z 46 = 100 := h.1.2.2.1
  unfold fX11_feed fX12_feed
  rcases rng a1 (k := 127) (by decide) with hr | ⟨s, hs, rfl⟩
  · rw [bnd_of (show fX12_in a1 0 127 Xm = some 0 from in_0 hr), if_pos rfl]
    by_cases z : a1 < 0
    · rw [if_pos z]
      exact h.fin rfl rfl eqC.rfl eqM.rfl
    · rw [if_neg z, if_neg (show ¬ a1 ≤ 127 from not_lt_of (hr.resolve_left z))]
      exact h.fin rfl rfl eqC.rfl eqM.rfl
  rw [bnd_of (show fX12_in (Int32.ofNat s) 0 127 Xm = some 1 from in_1 (hi := 127) hs (by decide)), if_neg ne10, if_neg (o_ge0 (by omega)), if_pos (show Int32.ofNat s ≤ 127 from (o_le (b := 127) (by omega) (by omega)).mpr hs)]
  obtain ⟨e1, N, hN, e2, e3⟩ := hl
  have e1 : Xc.1 45 1 = Int32.ofNat N := e1.trans e2
  by_cases y : N = 100
  · rw [bnw_of (add_out (x := Int32.ofNat s) h46 e1 (by decide) y), if_pos rfl, e2, if_pos (show Int32.ofNat N = 100 by rw [y]; rfl)]
    refine ⟨_, _, _, rfl, rfl, n, m, r, h.tx ?_ ?_ rfl ?_ ?_ rfl⟩
    · show CRow 100 _ ((wI Xc 45 2 _).1 45 1) ((wI Xc 45 2 _).1 46) _ _
      rw [wI_k (by decide), wI_c (by decide)]
      exact h.2.2.2.2.1
    · intro i hi; rw [wI_c (by omega)]
    · intro q _ _; rfl
    · intro j _; rfl
  · have hlt : N < 100 := by have : N ≤ 100 := hN; omega
    have eN : Int32.ofNat N + 1 = Int32.ofNat (N + 1) := o_add N 1
    rw [bnw_of (add_in (x := Int32.ofNat s) h46 e1 (by decide) hlt), if_neg ne10, e2, if_neg (show ¬ Int32.ofNat N = 100 from fun w => y ((o_eq (b := 100) (by omega) (by omega)).mp w)), gin_o (by omega) (by omega), nm_eq, nm_eq, i32n (by omega), wI_c (show 0 ≠ 7 by decide), e2, eN, show (rAdd Xc 45 N (Int32.ofNat s)).1 45 1 = Int32.ofNat (N + 1) from wI_s, wI_s]
    refine ⟨_, _, _, rfl, rfl, n, m, r, h.tx (CRow.add (a := 45) h.2.2.2.2.1 e2 (by decide) hlt ⟨s, hs, rfl⟩ (by decide)) ?_ rfl ?_ ?_ rfl⟩
    · intro q hq; exact rAdd_o (by omega) (by omega)
    · intro q q0 hq; rw [wI_c q0, wI_c (by omega)]
    · intro j hj; rw [wI_k (by omega), wI_c (by decide)]
theorem isYk {Z : XS} {X : XD} {o i k v : Nat} (h : CK Z X o i k v) : isY Z o 8 = (if k = 1 ∨ k = 4 then 1 else 0) ∧ isY Z o 5 = (if k = 2 ∨ k = 5 then 1 else 0) ∧ isY Z o 10 = (if k = 3 ∨ k = 6 then 1 else 0) ∧ isY Z o 0 = (if k = 4 then 1 else 0) ∧ isY Z o 2 = (if k = 5 then 1 else 0) ∧ isY Z o 7 = (if k = 6 then 1 else 0) := by
  have hk := h.2.2.2.2.2.1
  unfold isY
  rw [h.2.2.1]
  rcases (show k = 0 ∨ k = 1 ∨ k = 2 ∨ k = 3 ∨ k = 4 ∨ k = 5 ∨ k = 6 by omega) with rfl | rfl | rfl | rfl | rfl | rfl | rfl <;> decide
theorem st31 : St31 Rel := by
  intro Z Xc Xm a1 a2 ⟨n, m, r, h⟩
  have hn := h.2.1.1
  unfold fX11_taken fX12_taken
  rcases rng a2 (k := 6) (by decide) with hr | ⟨j, hj, rfl⟩
  · rw [bnd_of (show fX12_in a2 0 6 Xm = some 0 from in_0 hr), if_pos rfl]
    by_cases z : a2 < 0
    · rw [if_pos z]
      exact ⟨_, rfl, rfl, n, m, r, h⟩
    · rw [if_neg z, if_neg (show ¬ a2 < 7 from fun y => by
        have h2 := hr.resolve_left z
        rw [Int32.lt_iff_toInt_lt, i32_ofN (by decide)] at h2
        rw [Int32.lt_iff_toInt_lt] at y
        have : (7 : Int32).toInt = 7 := rfl
        omega)]
      exact ⟨_, rfl, rfl, n, m, r, h⟩
  rw [bnd_of (show fX12_in (Int32.ofNat j) 0 6 Xm = some 1 from in_1 (hi := 6) hj (by decide)), if_neg ne10, if_neg (o_ge0 (by omega)), if_pos (show Int32.ofNat j < 7 from (o_lt (b := 7) (by omega) (by omega)).mpr (by omega))]
  rcases h.2.1.find a1 with ⟨f1, f2⟩ | ⟨i, o, k, v, hi, rfl, ho, hc, hm, f1, f2⟩
  · rw [bnd_of f1, bnd_of f2]
    exact ⟨_, rfl, rfl, n, m, r, h⟩
  rw [bnd_of f1, bnd_of f2, mto_some, if_neg ne10, gin_o (by omega) (by omega), nm_eq, i32n (by omega), hm.2.2.1, kind_c hc.2.2.1 hc.2.2.2.2.2.1]
  obtain ⟨y1, y2, y3, y4, y5, y6⟩ := isYk hc
  have hk := hm.1
  unfold fX11_isOfKind fX12_taken_51 fX12_taken_61 fX12_taken_72
  rw [y1, y2, y3, y4, y5, y6]
  rcases (show j = 0 ∨ j = 1 ∨ j = 2 ∨ j = 3 ∨ j = 4 ∨ j = 5 ∨ j = 6 by omega) with rfl | rfl | rfl | rfl | rfl | rfl | rfl <;> rcases (show k = 0 ∨ k = 1 ∨ k = 2 ∨ k = 3 ∨ k = 4 ∨ k = 5 ∨ k = 6 by omega) with rfl | rfl | rfl | rfl | rfl | rfl | rfl <;> exact ⟨_, rfl, rfl, n, m, r, h⟩
