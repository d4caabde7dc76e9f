set_option maxHeartbeats 40000000
set_option maxRecDepth 100000
/-! tapes -/
theorem tape_cases {Z : XS} (x : Int32) : ((∀ X, fX11_isTape Z x X = some 0) ∧ ∀ X, fX12_isTape x X = some 0) ∨ ∃ s, s < 6 ∧ x = Int32.ofNat s ∧ (∀ X, fX11_isTape Z x X = some 1) ∧ ∀ X, fX12_isTape x X = some 1 := by
  rcases rng x (k := 5) (by decide) with h | ⟨s, hs, rfl⟩
  · refine Or.inl ⟨fun X => ?_, fun X => ?_⟩
    · unfold fX11_isTape
      by_cases q : x < 0
      · rw [if_pos q]
      · rw [if_neg q, if_pos]
        have h := h.resolve_left q
        rw [Int32.lt_iff_toInt_lt, i32_ofN (by decide)] at h
        rw [Int32.le_iff_toInt_le]
        have : (6 : Int32).toInt = 6 := rfl
        omega
    · unfold fX12_isTape
      rw [bnd_of (show fX12_in x 0 5 X = some 0 from in_0 h)]; rfl
  · refine Or.inr ⟨s, by omega, rfl, fun X => ?_, fun X => ?_⟩
    · have n6 : ¬ (6 : Int32) ≤ Int32.ofNat s := fun z => by have := (o_le (a := 6) (by omega) (by omega)).mp z; omega
      unfold fX11_isTape
      rw [if_neg (o_ge0 (by omega)), if_neg n6, if_neg n6, if_neg n6]
    · unfold fX12_isTape
      rw [bnd_of (show fX12_in (Int32.ofNat s) 0 5 X = some 1 from in_1 (hi := 5) hs (by decide))]; rfl
theorem place_cases {Z : XS} {Xc : XD} {t l : Nat} (ht : t < 6) (hl : l ≤ 60) (hs : Xc.1 152 t = Int32.ofNat l) (x : Int32) : ((x < 0 ∨ Int32.ofNat l ≤ x) ∧ fX11_hasPlace Z (Int32.ofNat t) x Xc = some 0 ∧ ∀ X, fX12_in x 0 (Int32.ofNat l - 1) X = some 0) ∨ ∃ j, j < l ∧ x = Int32.ofNat j ∧ fX11_hasPlace Z (Int32.ofNat t) x Xc = some 1 ∧ ∀ X, fX12_in x 0 (Int32.ofNat l - 1) X = some 1 := by
  have g6 : ∀ {α : Type} (x : Option α), gin (Int32.ofNat t) 6 x = x := fun x => gin_o (by omega) (by omega)
  have n6 : (Int32.ofNat t).toNatClampNeg = t := i32n (by omega)
  unfold fX11_hasPlace
  rw [g6, n6, hs]
  by_cases q : x < 0
  · exact Or.inl ⟨Or.inl q, by rw [if_pos q], fun X => in_0 (Or.inl q)⟩
  by_cases q2 : Int32.ofNat l ≤ x
  · refine Or.inl ⟨Or.inr q2, by rw [if_neg q, if_pos q2], fun X => in_0 (Or.inr ?_)⟩
    rw [Int32.le_iff_toInt_le, i32_ofN (by omega)] at q2
    rw [Int32.lt_iff_toInt_lt, o_sub1 (by omega)]
    omega
  obtain ⟨j, hj, rfl⟩ := o_of q
  have hjl : j < l := by
    have := mt (o_le (a := l) (b := j) (by omega) hj).mpr q2
    omega
  refine Or.inr ⟨j, hjl, rfl, ?_, fun X => ?_⟩
  · rw [if_neg q, if_neg q2, g6, if_neg (show ¬ (60 : Int32) ≤ Int32.ofNat j from fun z => by have := (o_le (a := 60) (by omega) (by omega)).mp z; omega)]
  · unfold fX12_in
    rw [if_neg q, if_neg (fun z => by
      rw [Int32.lt_iff_toInt_lt, o_sub1 (by omega), i32_ofN (by omega)] at z
      omega)]
theorem m1_ne {a : Nat} (h : a < 100) : ¬ Int32.ofNat a = -1 := eq_m1 h
theorem st35 : St35 Rel := by
  intro Z Xc Xm a1 a2 ⟨n, m, r, h⟩
  unfold fX11_read fX12_read fX12_read_34
  rcases tape_cases (Z := Z) a1 with ⟨s1, s2⟩ | ⟨t, ht, rfl, s1, s2⟩
  · rw [bnd_of (s1 _), bnd_of (s2 _)]
    exact ⟨_, rfl, rfl, n, m, r, h⟩
  obtain ⟨e1, e2, ⟨l, hl, e3, e4⟩, e5⟩ := h.2.2.2.2.2.2.2.2.1 t ht
  rw [bnd_of (s1 _), bnd_of (s2 _), if_neg ne10, if_neg ne10, gin_o (by omega) (by omega), gin_o (by omega) (by omega), gin_o (by omega) (by omega), i32n (by omega), e3]
  rcases place_cases (Z := Z) (Xc := Xc) ht hl (e2.trans e3) a2 with ⟨p0, p1, p2⟩ | ⟨j, hj, rfl, p1, p2⟩
  · rw [bnd_of p1, bnd_of (p2 _), if_pos rfl, if_pos rfl]
    refine ⟨_, rfl, ?_, n, m, r, h⟩
    split <;> rfl
  · rw [bnd_of p1, bnd_of (p2 _), if_neg ne10, if_neg ne10]
    rcases e4 with ⟨e4, e6⟩ | ⟨a, ha, e4⟩
    · omega
    · rw [e4, if_neg (o_ge0 (by omega)), gin_o (by omega) (by omega), i32n (by omega), show (60 : Int32) * Int32.ofNat t + Int32.ofNat j = Int32.ofNat (60 * t + j) from by rw [show (60 : Int32) * Int32.ofNat t = Int32.ofNat (60 * t) from o_mul (a := 60), o_add], gin_o (by omega) (by omega), i32n (by omega), e5 j (by omega)]
      exact ⟨_, rfl, rfl, n, m, r, h⟩
theorem narrow_eq {Z : XS} {Xc Xm : XD} {a : Nat} {v : Int64} (ha : a ≤ 4) : ∃ w, fX11_narrowed Z (Int32.ofNat a) v Xc = some w ∧ fX12_narrow (Int32.ofNat a) v Xm = some w := by
  unfold fX11_narrowed fX12_narrow
  rcases (show a = 0 ∨ a = 1 ∨ a = 2 ∨ a = 3 ∨ a = 4 by omega) with rfl | rfl | rfl | rfl | rfl
  · exact ⟨_, rfl, rfl⟩
  · exact ⟨_, rfl, rfl⟩
  · exact ⟨_, rfl, rfl⟩
  · exact ⟨_, rfl, rfl⟩
  · refine ⟨if lg_cmp v 0 = 0 then 0 else 1, ?_, ?_⟩
    · show (if lg_cmp v 0 = 0 then some 0 else some 1) = some (if lg_cmp v 0 = 0 then 0 else 1)
      split <;> rfl
    · show (if lg_cmp v 0 = 0 then some 0 else some 1) = some (if lg_cmp v 0 = 0 then 0 else 1)
      split <;> rfl
theorem st34 : St34 Rel := by
  intro Z Xc Xm a1 a2 a3 a4 ⟨n, m, r, h⟩
  generalize ((a3).toInt64 <<< ((32 : Int32).toInt64 &&& 63)) ||| ((a4).toInt64 &&& (4294967295 : Int64)) = v
  unfold fX11_item fX12_item
  rcases tape_cases (Z := Z) a1 with ⟨s1, s2⟩ | ⟨t, ht, rfl, s1, s2⟩
  · rw [bnd_of (s1 _), bnd_of (s2 _)]
    exact h.fin rfl rfl eqC.rfl eqM.rfl
  obtain ⟨e1, e2, ⟨l, hl, e3, e4⟩, e5⟩ := h.2.2.2.2.2.2.2.2.1 t ht
  have g6 : ∀ {α : Type} (x : Option α), gin (Int32.ofNat t) 6 x = x := fun x => gin_o (by omega) (by omega)
  rw [bnd_of (s1 _), bnd_of (s2 _), if_neg ne10, if_neg ne10]
  simp only [g6]
  rw [i32n (by omega), e1, e3]
  rcases e4 with ⟨e4, e6⟩ | ⟨a, ha, e4⟩
  · rw [e4, if_pos rfl, if_neg (by decide)]
    exact h.fin rfl rfl eqC.rfl eqM.rfl
  rw [e4, if_neg (m1_ne (by omega)), if_pos (show (0 : Int32) ≤ Int32.ofNat a from (o_le (a := 0) (by omega) (by omega)).mpr (by omega))]
  rcases place_cases (Z := Z) (Xc := Xc) ht hl (e2.trans e3) a2 with ⟨p0, p1, p2⟩ | ⟨j, hj, rfl, p1, p2⟩
  · rw [bnd_of p1, bnd_of (p2 _), if_pos rfl, if_pos rfl]
    exact h.fin rfl rfl eqC.rfl eqM.rfl
  obtain ⟨w, w1, w2⟩ := narrow_eq (Z := Z) (Xc := Xc) (Xm := Xm) (v := v) ha
  rw [bnd_of p1, bnd_of (p2 _), if_neg ne10, if_neg ne10, bnd_of w1, bnd_of w2, gin_o (by omega) (by omega), nm_eq, i32n (by omega), show (60 : Int32) * Int32.ofNat t + Int32.ofNat j = Int32.ofNat (60 * t + j) from by rw [show (60 : Int32) * Int32.ofNat t = Int32.ofNat (60 * t) from o_mul (a := 60), o_add], gin_o (by omega) (by omega), nm_eq, i32n (by omega)]
  refine ⟨_, _, _, rfl, rfl, n, m, r, h.tp (fun u hu => ?_) (fun i _ => rfl) (fun q _ _ => rfl) (fun j _ => rfl)⟩
  obtain ⟨f1, f2, f3, f4⟩ := h.2.2.2.2.2.2.2.2.1 u hu
  refine ⟨f1, f2, f3, fun p hp => ?_⟩
  by_cases z : u = t
  · subst z
    by_cases z2 : p = j
    · subst z2; rw [wJ_s, wJ_s]
    · rw [wJ_k z2, wJ_k (by omega)]; exact f4 p hp
  · rw [wJ_c (by omega), wJ_k (by omega)]; exact f4 p hp
theorem tz_m {t : Nat} (ht : t < 6) : ∀ (d k m : Nat) (X : XD), k + d = 60 → d < m → ∃ Y, fX12_tape_69 m (Int32.ofNat t) (Int32.ofNat k) X = some (1, Y) ∧ Y.1 = X.1 ∧ (∀ p, (p < 60 * t + k ∨ 60 * t + 60 ≤ p) → Y.2 41 p = X.2 41 p) ∧ ∀ p, 60 * t + k ≤ p → p < 60 * t + 60 → Y.2 41 p = 0 := by
  intro d
  induction d with
  | zero =>
    intro k m X h1 h2
    obtain ⟨m, rfl⟩ : ∃ q, m = q + 1 := ⟨m - 1, by omega⟩
    rw [fX12_tape_69_s, if_pos (show (60 : Int32) ≤ Int32.ofNat k from (o_le (a := 60) (by omega) (by omega)).mpr (by omega))]
    exact ⟨X, rfl, rfl, fun p _ => rfl, fun p a b => by omega⟩
  | succ d ih =>
    intro k m X h1 h2
    obtain ⟨m, rfl⟩ : ∃ q, m = q + 1 := ⟨m - 1, by omega⟩
    obtain ⟨Y, y1, y2, y3, y4⟩ := ih (k + 1) m (wJ X 41 (60 * t + k) 0) (by omega) (by omega)
    refine ⟨Y, ?_, y2, fun p hp => ?_, fun p a b => ?_⟩
    · rw [fX12_tape_69_s, if_neg (show ¬ (60 : Int32) ≤ Int32.ofNat k from fun z => by have := (o_le (a := 60) (by omega) (by omega)).mp z; omega), show (60 : Int32) * Int32.ofNat t + Int32.ofNat k = Int32.ofNat (60 * t + k) from by rw [show (60 : Int32) * Int32.ofNat t = Int32.ofNat (60 * t) from o_mul (a := 60), o_add], gin_o (by omega) (by omega), nm_eq, nm_eq, i32n (by omega), show Int32.ofNat k + 1 = Int32.ofNat (k + 1) from o_add k 1]
      exact y1
    · rw [y3 p (by omega), wJ_k (by omega)]
    · by_cases z : p = 60 * t + k
      · rw [y3 p (by omega), z, wJ_s]
      · exact y4 p (by omega) b
theorem tape_set {Z : XS} {Xc Xm : XD} {n m t l : Nat} {r : Rnd} {s : Int32} (h : RB Z Xc Xm n m r) (ht : t < 6) (hl : l ≤ 60) (hs : s = -1 ∧ l = 0 ∨ uptoN 4 s) : ∃ Yc Ym, fX11_tape_71 Z (Int32.ofNat t) (Int32.ofNat l) (Int32.ofNat t) (wI Xc 151 t s) = some (1, Yc) ∧ fX12_tape_65 (Int32.ofNat t) (Int32.ofNat l) (Int32.ofNat t) (wI Xm 39 t s) = some (1, Ym) ∧ RB Z Yc Ym n m r := by
  have h60 : sL Z (145 + t) = 60 := (h.1.1.2.2.2.2.2.2.2.2.2.1 t ht).2.2.2
  obtain ⟨Y, y1, y2, y3, y4⟩ := tz_m ht 60 0 FU (wI (wI Xm 39 t s) 40 t (Int32.ofNat l)) rfl (FU_gt (by decide))
  refine ⟨fillJ (wI (wI Xc 151 t s) 152 t (Int32.ofNat l)) (145 + t) 60 0, Y, ?_, ?_, h.tp (fun u hu => ?_) (fun i hi => ?_) (fun q q0 hq => ?_) (fun j hj => ?_)⟩
  · unfold fX11_tape_71
    rw [gin_o (by omega) (by omega), nm_eq, gin_o (by omega) (by omega), i32n (by omega), bnw_of (fillJ_eq (by decide) h60)]
  · unfold fX12_tape_65
    rw [gin_o (by omega) (by omega), nm_eq, i32n (by omega)]
    exact y1
  · obtain ⟨f1, f2, f3, f4⟩ := h.2.2.2.2.2.2.2.2.1 u hu
    have c1 : ∀ i, (fillJ (wI (wI Xc 151 t s) 152 t (Int32.ofNat l)) (145 + t) 60 0).1 i = (wI (wI Xc 151 t s) 152 t (Int32.ofNat l)).1 i := fun i => rfl
    rw [c1, c1, y2, wI_c (show 151 ≠ 152 by decide), wI_c (show 39 ≠ 40 by decide)]
    by_cases z : u = t
    · subst z
      rw [wI_s, wI_s, wI_s, wI_s]
      refine ⟨rfl, rfl, ⟨l, hl, rfl, hs⟩, fun j hj => ?_⟩
      rw [fillJ_in hj, y4 _ (by omega) (by omega)]
    · simp only [wI_k z]
      refine ⟨f1, f2, f3, fun j hj => ?_⟩
      rw [fillJ_o (by omega), y3 _ (by omega)]
      exact f4 j hj
  · show (wI (wI Xc 151 t s) 152 t (Int32.ofNat l)).1 i = _
    rw [wI_c (by omega), wI_c (by omega)]
  · rw [y2, wI_c (by omega), wI_c (by omega)]
  · rw [y2, wI_c (by decide), wI_c (by decide)]
theorem st33 : St33 Rel := by
  intro Z Xc Xm a1 a2 a3 ⟨n, m, r, h⟩
  unfold fX11_tape fX12_tape
  rcases tape_cases (Z := Z) a1 with ⟨s1, s2⟩ | ⟨t, ht, rfl, s1, s2⟩
  · rw [bnd_of (s1 _), bnd_of (s2 _)]
    exact h.fin rfl rfl eqC.rfl eqM.rfl
  rw [bnd_of (s1 _), bnd_of (s2 _), if_neg ne10, if_neg ne10]
  have em1 : (-1 : Int32).toInt = -1 := rfl
  have e0 : (0 : Int32).toInt = 0 := rfl
  have e4 : (4 : Int32).toInt = 4 := rfl
  by_cases q : a2 < -1
  · rw [if_pos q, bnd_of (show fX12_in a2 (-1) 4 Xm = some 0 from in_0 (Or.inl q)), if_pos rfl]
    exact h.fin rfl rfl eqC.rfl eqM.rfl
  rw [if_neg q]
  by_cases q4 : a2 ≤ 4
  · have hin : fX12_in a2 (-1) 4 Xm = some 1 := by
      unfold fX12_in
      rw [if_neg q, if_neg (fun y => not_lt_of y q4)]
    rw [if_pos q4, bnd_of hin, if_neg ne10]
    unfold fX11_tape_37 fX12_tape_33
    by_cases z : a2 = -1
    · subst z
      unfold fX11_tape_49 fX12_tape_44
      rw [if_pos rfl, if_pos rfl, if_pos (show (-1 : Int32) < 0 by decide), if_pos (show (-1 : Int32) < 0 by decide), gin_o (by omega) (by omega), nm_eq, if_pos rfl, gin_o (by omega) (by omega), nm_eq, if_neg (show ¬ (0 : Int32) ≤ -1 by decide), i32n (by omega)]
      obtain ⟨Yc, Ym, k1, k2, k3⟩ := tape_set (l := 0) (s := -1) h ht (by decide) (Or.inl ⟨rfl, rfl⟩)
      exact ⟨_, _, _, k1, k2, n, m, r, k3⟩
    · have hge : ¬ a2 < 0 := fun y => by
        apply z
        apply Int32.toInt_inj.mp
        rw [Int32.lt_iff_toInt_lt] at y q
        omega
      obtain ⟨a, ha, rfl⟩ := o_of hge
      have ha4 : a ≤ 4 := by
        rw [Int32.le_iff_toInt_le, i32_ofN ha] at q4
        omega
      rw [if_neg z, if_neg z, if_neg hge, if_neg hge]
      by_cases w : a3 ≤ 60
      · rw [if_pos w, if_pos w]
        by_cases w0 : (0 : Int32) ≤ a3
        · obtain ⟨l, hl, rfl⟩ := o_of (fun y => not_lt_of y w0)
          have hl60 : l ≤ 60 := (o_le (b := 60) hl (by decide)).mp w
          rw [if_pos w0, if_pos w0]
          unfold fX11_tape_49 fX12_tape_44
          rw [gin_o (by omega) (by omega), nm_eq, if_neg z, gin_o (by omega) (by omega), nm_eq, if_pos (show (0 : Int32) ≤ Int32.ofNat a from (o_le (a := 0) (by omega) (by omega)).mpr (by omega)), i32n (by omega)]
          obtain ⟨Yc, Ym, k1, k2, k3⟩ := tape_set (l := l) (s := Int32.ofNat a) h ht hl60 (Or.inr ⟨a, ha4, rfl⟩)
          exact ⟨_, _, _, k1, k2, n, m, r, k3⟩
        · rw [if_neg w0, if_neg w0]
          exact h.fin rfl rfl eqC.rfl eqM.rfl
      · rw [if_neg w, if_neg w]
        exact h.fin rfl rfl eqC.rfl eqM.rfl
  · rw [if_neg q4, bnd_of (show fX12_in a2 (-1) 4 Xm = some 0 from in_0 (Or.inr (lt_of_not q4))), if_pos rfl]
    exact h.fin rfl rfl eqC.rfl eqM.rfl
