set_option maxHeartbeats 40000000
set_option maxRecDepth 100000
/-! of, mix -/
def sA (r : Rnd) (i k v : Nat) (G : List Cl) (j : Nat) : Int32 := if j = 5 then Int32.ofNat (aiA r i k v G) else if j = 6 then Int32.ofNat (ntA r i k G) else if 10 ≤ j ∧ j ≤ 12 then Int32.ofNat (suA r i k G (j - 10)) else if 20 ≤ j ∧ j ≤ 22 then Int32.ofNat (saA r i k G (j - 20)) else -1
theorem seen_c {Z : XS} {Y : XD} {o i k v j : Nat} {r : Rnd} {G : List Cl} (hs : fV_X4_side Z o 139 47 Y = some (Int32.ofNat (aiA r i k v G))) (hv : VW Y (ntA r i k G) (suA r i k G) (saA r i k G)) (h5 : 5 ≤ j) (h22 : j ≤ 22) : fX11_seenOf Z o (Int32.ofNat j) Y = some (sA r i k v G j) := by
  have s0 := sureOf_c (Z := Z) hv (s := 0) (by decide)
  have s1 := sureOf_c (Z := Z) hv (s := 1) (by decide)
  have s2 := sureOf_c (Z := Z) hv (s := 2) (by decide)
  have t0 := savesOf_c (Z := Z) hv (s := 0) (by decide)
  have t1 := savesOf_c (Z := Z) hv (s := 1) (by decide)
  have t2 := savesOf_c (Z := Z) hv (s := 2) (by decide)
  unfold fX11_seenOf
  rw [hs, hv.1]
  rcases (show j = 5 ∨ j = 6 ∨ j = 7 ∨ j = 8 ∨ j = 9 ∨ j = 10 ∨ j = 11 ∨ j = 12 ∨ j = 13 ∨ j = 14 ∨ j = 15 ∨ j = 16 ∨ j = 17 ∨ j = 18 ∨ j = 19 ∨ j = 20 ∨ j = 21 ∨ j = 22 by omega) with rfl | rfl | rfl | rfl | rfl | rfl | rfl | rfl | rfl | rfl | rfl | rfl | rfl | rfl | rfl | rfl | rfl | rfl
  all_goals (simp (disch := omega) only [↓bnd_some, ↓bnw_some, ↓nm_eq, ↓gb_0, ↓gb_1, ↓gin_o, ↓reduceIte, lit, o_lt_t, o_lt_f, o_le_t, o_le_f, o_eq_t, o_eq_f, n_lt_t, n_le_t, n_eq_f, i32n, wI_s, wI_c, wI_k, wI_2, wJ_s, wJ_c, wJ_k, wJ_1, o_add, o_sub, o_addn, o_mul, o_div, n_rem, Nat.add_zero, Nat.zero_add, Nat.reduceSub, s0, s1, s2, t0, t1, t2] <;> rfl)
theorem ofm {X : XD} {n i k v j : Nat} {r : Rnd} {G : List Cl} (h : MA X n r G) (hi : i < n) (hk : MK X i k v) (h5 : 5 ≤ j) (h22 : j ≤ 22) (hf : fX12_isShooter (Int32.ofNat i) X = some 1) : ∃ Y, fX12_of (Int32.ofNat i) (Int32.ofNat j) X = some (sA r i k v G j, Y) ∧ eqP X Y := by
  unfold fX12_of
  rw [bnd_of hf, if_neg ne10]
  have inn : ∀ (a b : Nat), a < 100 → b < 100 → fX12_in (Int32.ofNat j) (Int32.ofNat a) (Int32.ofNat b) X = some (if a ≤ j ∧ j ≤ b then 1 else 0) := by
    intro a b ha hb
    by_cases q : a ≤ j ∧ j ≤ b
    · rw [if_pos q]
      unfold fX12_in
      rw [if_neg (fun z => by have := (o_lt (by omega) (by omega)).mp z; omega), if_neg (fun z => by have := (o_lt (by omega) (by omega)).mp z; omega)]
    · rw [if_neg q]
      refine in_0 ?_
      rw [o_lt (by omega) (by omega), o_lt (by omega) (by omega)]
      omega
  have i1 : fX12_in (Int32.ofNat j) 10 12 X = some (if 10 ≤ j ∧ j ≤ 12 then 1 else 0) := inn 10 12 (by decide) (by decide)
  have i2 : fX12_in (Int32.ofNat j) 20 22 X = some (if 20 ≤ j ∧ j ≤ 22 then 1 else 0) := inn 20 22 (by decide) (by decide)
  rw [bnd_of i1, bnd_of i2]
  unfold sA
  by_cases q1 : 10 ≤ j ∧ j ≤ 12
  · obtain ⟨Y, y1, y2⟩ := su_m h hi hk (s := j - 10) (by omega)
    rw [if_pos q1, if_neg ne10, show Int32.ofNat j - 10 = Int32.ofNat (j - 10) from o_sub (b := 10) q1.1, bnw_of y1, if_neg (by omega), if_neg (by omega), if_pos q1]
    exact ⟨Y, rfl, y2⟩
  rw [if_neg q1, if_pos rfl]
  by_cases q2 : 20 ≤ j ∧ j ≤ 22
  · obtain ⟨Y, y1, y2⟩ := sa_m h hi hk (s := j - 20) (by omega)
    rw [if_pos q2, if_neg ne10, show Int32.ofNat j - 20 = Int32.ofNat (j - 20) from o_sub (b := 20) q2.1, bnw_of y1, if_neg (by omega), if_neg (by omega), if_neg q1, if_pos q2]
    exact ⟨Y, rfl, y2⟩
  rw [if_neg q2, if_pos rfl]
  have ne : ∀ a : Nat, a < 100 → j ≠ a → ¬ Int32.ofNat j = Int32.ofNat a := fun a ha hn z => hn ((o_eq (by omega) (by omega)).mp z)
  rw [if_neg (show ¬ Int32.ofNat j = 0 from ne 0 (by omega) (by omega)), if_neg (show ¬ Int32.ofNat j = 1 from ne 1 (by omega) (by omega)), if_neg (show ¬ Int32.ofNat j = 2 from ne 2 (by omega) (by omega)), if_neg (show ¬ Int32.ofNat j = 3 from ne 3 (by omega) (by omega)), if_neg (show ¬ Int32.ofNat j = 4 from ne 4 (by omega) (by omega))]
  by_cases q5 : j = 5
  · obtain ⟨Y, y1, y2⟩ := ai_m h hi hk
    rw [if_pos (show Int32.ofNat j = 5 by rw [q5]; rfl), bnw_of y1, if_pos q5]
    exact ⟨Y, rfl, y2⟩
  rw [if_neg (show ¬ Int32.ofNat j = 5 from ne 5 (by omega) (by omega)), if_neg q5]
  by_cases q6 : j = 6
  · obtain ⟨Y, y1, y2⟩ := nt_m h hi hk
    rw [if_pos (show Int32.ofNat j = 6 by rw [q6]; rfl), bnw_of y1, if_pos q6]
    exact ⟨Y, rfl, y2⟩
  rw [if_neg (show ¬ Int32.ofNat j = 6 from ne 6 (by omega) (by omega)), if_neg q6, if_neg q1, if_neg q2]
  exact ⟨X, rfl, eqP.rfl⟩
theorem st1 : St1 Rel := by
  intro Z Xc Xm a1 a2 ⟨n, m, r, h⟩
  rcases h.2.1.find a1 with ⟨f1, f2⟩ | ⟨i, o, k, v, hi, rfl, ho, hc, hm, f1, f2⟩
  · unfold fX11_of fX12_of
    rw [bnd_of f1, bnd_of f2]
    exact h.fin rfl rfl eqC.rfl eqM.rfl
  obtain ⟨G, g1, g2⟩ := h.ask
  obtain ⟨Y, y1, y2, y3⟩ := h.lk g1 hc
  have hn := h.2.1.1
  have hsd := h.sd hc y2 y3
  rcases rng a2 (k := 22) (by decide) with hr | ⟨j, hj, rfl⟩
  · have ne : ∀ a : Nat, a ≤ 22 → ¬ a2 = Int32.ofNat a := fun a ha z => by
      subst z
      rcases hr with hr | hr
      · exact o_ge0 (by omega) hr
      · have := (o_lt (by omega) (by omega)).mp hr; omega
    unfold fX11_of fX12_of
    have lt10 : a2 < 10 ∨ (12 : Int32) < a2 := by
      rcases hr with hr | hr
      · rw [Int32.lt_iff_toInt_lt] at hr
        left
        rw [Int32.lt_iff_toInt_lt]
        have e1 : (0 : Int32).toInt = 0 := rfl
        have e2 : (10 : Int32).toInt = 10 := rfl
        omega
      · rw [Int32.lt_iff_toInt_lt, i32_ofN (by decide)] at hr
        right
        rw [Int32.lt_iff_toInt_lt]
        have e2 : (12 : Int32).toInt = 12 := rfl
        omega
    have lt20 : a2 < 20 ∨ (22 : Int32) < a2 := by
      rcases hr with hr | hr
      · rw [Int32.lt_iff_toInt_lt] at hr
        left
        rw [Int32.lt_iff_toInt_lt]
        have e1 : (0 : Int32).toInt = 0 := rfl
        have e2 : (20 : Int32).toInt = 20 := rfl
        omega
      · right; exact hr
    rw [bnd_of f1, bnd_of f2, mto_some, if_neg ne10, bnd_of (in_0 lt10), if_pos rfl, bnd_of (in_0 lt20), if_pos rfl]
    unfold fX11_seenOf
    have n0 : ¬ a2 = 0 := ne 0 (by decide)
    have n1 : ¬ a2 = 1 := ne 1 (by decide)
    have n2 : ¬ a2 = 2 := ne 2 (by decide)
    have n3 : ¬ a2 = 3 := ne 3 (by decide)
    have n4 : ¬ a2 = 4 := ne 4 (by decide)
    have n5 : ¬ a2 = 5 := ne 5 (by decide)
    have n6 : ¬ a2 = 6 := ne 6 (by decide)
    rw [if_neg n0, if_neg n1, if_neg n2, if_neg n3, if_neg n4, bnw_of y1]
    rw [if_neg n5, if_neg n6, if_neg (show ¬ a2 = 7 from ne 7 (by decide)), if_neg (show ¬ a2 = 8 from ne 8 (by decide)), if_neg (show ¬ a2 = 9 from ne 9 (by decide)), if_neg (show ¬ a2 = 10 from ne 10 (by decide)), if_neg (show ¬ a2 = 11 from ne 11 (by decide)), if_neg (show ¬ a2 = 12 from ne 12 (by decide)), if_neg (show ¬ a2 = 13 from ne 13 (by decide)), if_neg (show ¬ a2 = 14 from ne 14 (by decide)), if_neg (show ¬ a2 = 15 from ne 15 (by decide)), if_neg (show ¬ a2 = 16 from ne 16 (by decide)), if_neg (show ¬ a2 = 17 from ne 17 (by decide)), if_neg (show ¬ a2 = 18 from ne 18 (by decide)), if_neg (show ¬ a2 = 19 from ne 19 (by decide)), if_neg (show ¬ a2 = 20 from ne 20 (by decide)), if_neg (show ¬ a2 = 21 from ne 21 (by decide)), if_neg (show ¬ a2 = 22 from ne 22 (by decide))]
    rw [if_neg n0, if_neg n1, if_neg n2, if_neg n3, if_neg n4, if_neg n5, if_neg n6]
    exact h.fin rfl rfl y3.C eqM.rfl
  by_cases h5 : 5 ≤ j
  · obtain ⟨W, w1, w2⟩ := ofm g2 hi hm h5 hj f2
    refine h.fin (a := sA r i k v G j) ?_ w1 y3.C w2.M
    unfold fX11_of
    have ne : ∀ a : Nat, a < 5 → ¬ Int32.ofNat j = Int32.ofNat a := fun a ha z => by have := (o_eq (by omega) (by omega)).mp z; omega
    rw [bnd_of f1, mto_some, if_neg (show ¬ Int32.ofNat j = 0 from ne 0 (by decide)), if_neg (show ¬ Int32.ofNat j = 1 from ne 1 (by decide)), if_neg (show ¬ Int32.ofNat j = 2 from ne 2 (by decide)), if_neg (show ¬ Int32.ofNat j = 3 from ne 3 (by decide)), if_neg (show ¬ Int32.ofNat j = 4 from ne 4 (by decide)), bnw_of y1, bnd_of (seen_c hsd y2 h5 hj)]
  · unfold fX11_of fX12_of
    rw [bnd_of f1, bnd_of f2, mto_some, if_neg ne10]
    have i0 : ∀ lo hi : Nat, j < lo → lo < 100 → fX12_in (Int32.ofNat j) (Int32.ofNat lo) (Int32.ofNat hi) Xm = some 0 := fun lo hi a b => in_0 (Or.inl ((o_lt (by omega) (by omega)).mpr a))
    rw [bnd_of (show fX12_in (Int32.ofNat j) 10 12 Xm = some 0 from i0 10 12 (by omega) (by omega)), if_pos rfl, bnd_of (show fX12_in (Int32.ofNat j) 20 22 Xm = some 0 from i0 20 22 (by omega) (by omega)), if_pos rfl]
    have g6 : ∀ {α : Type} (x : Option α), gin (Int32.ofNat i) 6 x = x := fun x => gin_o (by omega) (by omega)
    simp only [g6]
    rw [i32n (by omega), hm.2.2.1, hm.2.2.2, h.2.2.1.2.1.1 i hi, h.2.2.1.2.1.2.1 i hi, h.2.2.1.2.1.2.2.1 i hi, kind_c hc.2.2.1 hc.2.2.2.2.2.1, hc.2.2.2.2.1, lastOf_r h.2.2.1.1 (by omega), shotsOf_r h.2.2.1.1 (by omega), goalsOf_r h.2.2.1.1 (by omega)]
    rcases (show j = 0 ∨ j = 1 ∨ j = 2 ∨ j = 3 ∨ j = 4 by omega) with rfl | rfl | rfl | rfl | rfl <;> exact h.fin rfl rfl eqC.rfl eqM.rfl
/-! MIX -/
def suX (r : Rnd) (i k : Nat) (G : List Cl) (l m q d : Nat) : Nat := l * chA r i k G 0 d + m * chA r i k G 1 d + q * chA r i k G 2 d
def leX (r : Rnd) (i k : Nat) (G : List Cl) (l m q : Nat) : Nat := min (suX r i k G l m q 0) (min (suX r i k G l m q 1) (suX r i k G l m q 2))
theorem suX_le {r : Rnd} {i k l m q d : Nat} {G : List Cl} (h : l + m + q = 10) : suX r i k G l m q d ≤ 1000 := by
  have h0 := Nat.mul_le_mul_left l (chA_le (r := r) (i := i) (k := k) (s := 0) (d := d) (G := G))
  have h1 := Nat.mul_le_mul_left m (chA_le (r := r) (i := i) (k := k) (s := 1) (d := d) (G := G))
  have h2 := Nat.mul_le_mul_left q (chA_le (r := r) (i := i) (k := k) (s := 2) (d := d) (G := G))
  unfold suX
  omega
theorem o_min {a b : Nat} (ha : a < 2000000) (hb : b < 2000000) : (if Int32.ofNat a < Int32.ofNat b then Int32.ofNat a else Int32.ofNat b) = Int32.ofNat (min a b) := by
  by_cases z : a < b
  · rw [if_pos ((o_lt (by omega) (by omega)).mpr z), show min a b = a by omega]
  · rw [if_neg (fun q => z ((o_lt (by omega) (by omega)).mp q)), show min a b = b by omega]
theorem sum_c {Z : XS} {Y : XD} {i k l m q d : Nat} {r : Rnd} {G : List Cl} (hv : VW Y (ntA r i k G) (suA r i k G) (saA r i k G)) (hd : d ≤ 2) : fX9_sum Z 139 (Int32.ofNat l) (Int32.ofNat m) (Int32.ofNat q) (Int32.ofNat d) Y = some (Int32.ofNat (suX r i k G l m q d)) := by
  unfold fX9_sum
  rw [bnd_of (show fX9_chanceBy Z 139 0 (Int32.ofNat d) Y = some (Int32.ofNat (chA r i k G 0 d)) from hv.ch (s := 0) (by decide) hd), bnd_of (show fX9_chanceBy Z 139 1 (Int32.ofNat d) Y = some (Int32.ofNat (chA r i k G 1 d)) from hv.ch (s := 1) (by decide) hd), bnd_of (show fX9_chanceBy Z 139 2 (Int32.ofNat d) Y = some (Int32.ofNat (chA r i k G 2 d)) from hv.ch (s := 2) (by decide) hd), o_mul, o_mul, o_mul, o_add, o_add]
  rfl
theorem least_c {Z : XS} {Y : XD} {i k l m q : Nat} {r : Rnd} {G : List Cl} (hv : VW Y (ntA r i k G) (suA r i k G) (saA r i k G)) (h : l + m + q = 10) : fX9_leastSum Z 139 (Int32.ofNat l) (Int32.ofNat m) (Int32.ofNat q) Y = some (Int32.ofNat (leX r i k G l m q)) := by
  have b0 := suX_le (r := r) (i := i) (k := k) (G := G) (d := 0) h
  have b1 := suX_le (r := r) (i := i) (k := k) (G := G) (d := 1) h
  have b2 := suX_le (r := r) (i := i) (k := k) (G := G) (d := 2) h
  unfold fX9_leastSum
  rw [bnd_of (show fX9_sum Z 139 (Int32.ofNat l) (Int32.ofNat m) (Int32.ofNat q) 0 Y = _ from sum_c (d := 0) hv (by decide)), bnd_of (show fX9_sum Z 139 (Int32.ofNat l) (Int32.ofNat m) (Int32.ofNat q) 1 Y = _ from sum_c (d := 1) hv (by decide)), bnd_of (show fX9_sum Z 139 (Int32.ofNat l) (Int32.ofNat m) (Int32.ofNat q) 2 Y = _ from sum_c (d := 2) hv (by decide))]
  rw [o_min (by omega) (by omega), o_min (by omega) (by omega)]
  unfold leX
  congr 2
  omega
theorem mixed_m {X : XD} {n i k v l m : Nat} {r : Rnd} {G : List Cl} (h : MA X n r G) (hi : i < n) (hk : MK X i k v) (hl : l + m ≤ 10) : ∃ Y, fX12_mixed (Int32.ofNat i) (Int32.ofNat l) (Int32.ofNat m) X = some (Int32.ofNat (leX r i k G l m (10 - l - m)), Y) ∧ eqP X Y := by
  have st : ∀ d q least Y, d ≤ 2 → least ≤ 9999 → eqP X Y → ∃ W, fX12_mixed_8 (q + 1) (Int32.ofNat i) (Int32.ofNat l) (Int32.ofNat m) (Int32.ofNat least) (Int32.ofNat d) Y = fX12_mixed_8 q (Int32.ofNat i) (Int32.ofNat l) (Int32.ofNat m) (Int32.ofNat (min least (suX r i k G l m (10 - l - m) d))) (Int32.ofNat (d + 1)) W ∧ eqP X W := by
    intro d q least Y hd hle hY
    have b := suX_le (r := r) (i := i) (k := k) (G := G) (l := l) (m := m) (q := 10 - l - m) (d := d) (by omega)
    obtain ⟨W, w1, w2⟩ := ch_m (h.p hY) hi (hk.p hY) (s := 0) (by decide) hd
    obtain ⟨V, v1, v2⟩ := ch_m (h.p (hY.trans w2)) hi (hk.p (hY.trans w2)) (s := 1) (by decide) hd
    obtain ⟨U, u1, u2⟩ := ch_m (h.p ((hY.trans w2).trans v2)) hi (hk.p ((hY.trans w2).trans v2)) (s := 2) (by decide) hd
    refine ⟨U, ?_, ((hY.trans w2).trans v2).trans u2⟩
    rw [fX12_mixed_8_s, if_neg (show ¬ (3 : Int32) ≤ Int32.ofNat d from fun z => by have := (o_le (a := 3) (by omega) (by omega)).mp z; omega), bnw_of (show fX12_chanceOf (Int32.ofNat i) 0 (Int32.ofNat d) Y = _ from w1), bnw_of (show fX12_chanceOf (Int32.ofNat i) 1 (Int32.ofNat d) W = _ from v1), bnw_of (show fX12_chanceOf (Int32.ofNat i) 2 (Int32.ofNat d) V = _ from u1), nm_eq]
    rw [show (10 : Int32) - Int32.ofNat l - Int32.ofNat m = Int32.ofNat (10 - l - m) from by rw [show (10 : Int32) - Int32.ofNat l = Int32.ofNat (10 - l) from o_sub (a := 10) (by omega), o_sub (by omega)], o_mul, o_mul, o_mul, o_add, o_add]
    show (if Int32.ofNat least ≤ Int32.ofNat (suX r i k G l m (10 - l - m) d) then _ else _) = _
    unfold fX12_mixed_67
    simp only [nm_eq]
    rw [show Int32.ofNat d + 1 = Int32.ofNat (d + 1) from o_add d 1]
    by_cases z : least ≤ suX r i k G l m (10 - l - m) d
    · rw [if_pos ((o_le (by omega) (by omega)).mpr z), show min least (suX r i k G l m (10 - l - m) d) = least by omega]
    · rw [if_neg (fun q => z ((o_le (by omega) (by omega)).mp q)), show min least (suX r i k G l m (10 - l - m) d) = suX r i k G l m (10 - l - m) d by omega]
      rfl
  obtain ⟨q, hq⟩ : ∃ q, FU = q + 4 := ⟨999996, rfl⟩
  unfold fX12_mixed
  rw [hq]
  have b0 := suX_le (r := r) (i := i) (k := k) (G := G) (l := l) (m := m) (q := 10 - l - m) (d := 0) (by omega)
  obtain ⟨W, w1, w2⟩ := st 0 (q + 3) 9999 X (by decide) (by decide) eqP.rfl
  obtain ⟨V, v1, v2⟩ := st 1 (q + 2) (min 9999 (suX r i k G l m (10 - l - m) 0)) W (by decide) (by omega) w2
  obtain ⟨U, u1, u2⟩ := st 2 (q + 1) (min (min 9999 (suX r i k G l m (10 - l - m) 0)) (suX r i k G l m (10 - l - m) 1)) V (by decide) (by omega) v2
  refine ⟨U, (w1.trans (v1.trans u1)).trans ?_, u2⟩
  rw [fX12_mixed_8_s, if_pos (by decide)]
  congr 3
  unfold leX
  omega
theorem mix_in {Z : XS} {Xc : XD} {n i k v l : Nat} {r : Rnd} {G : List Cl} {x2 : Int32} (hv : VW Xc (ntA r i k G) (suA r i k G) (saA r i k G)) (hi : i < n) (hl : l ≤ 10) (kc : Int32 → Int32 → Int32 → Int32 → XD → Option (Int32 × XD)) (km : Int32 → Int32 → Int32 → Int32 → Int32 → XD → Option (Int32 × XD)) : ∀ (d m q : Nat) (f g : Int32) (X : XD), m + d = 11 - l → d < q → MA X n r G → MK X i k v → ∃ f' g' Y, fX11_mix_47 Z kc q x2 f g (Int32.ofNat l) (Int32.ofNat m) Xc = kc x2 f' g' (Int32.ofNat (l + 1)) Xc ∧ fX12_mix_38 km q (Int32.ofNat i) x2 f g (Int32.ofNat l) (Int32.ofNat m) X = km (Int32.ofNat i) x2 f' g' (Int32.ofNat (l + 1)) Y ∧ eqP X Y := by
  intro d
  induction d with
  | zero =>
    intro m q f g X h1 h2 h3 h4
    obtain ⟨q, rfl⟩ : ∃ p, q = p + 1 := ⟨q - 1, by omega⟩
    refine ⟨f, g, X, ?_, ?_, eqP.rfl⟩
    · rw [fX11_mix_47_s, show (10 : Int32) - Int32.ofNat l = Int32.ofNat (10 - l) from o_sub (a := 10) (by omega), if_pos ((o_lt (by omega) (by omega)).mpr (by omega)), nm_eq, show Int32.ofNat l + 1 = Int32.ofNat (l + 1) from o_add l 1]
    · rw [fX12_mix_38_s, show (11 : Int32) - Int32.ofNat l = Int32.ofNat (11 - l) from o_sub (a := 11) (by omega), if_pos ((o_le (by omega) (by omega)).mpr (by omega)), nm_eq, show Int32.ofNat l + 1 = Int32.ofNat (l + 1) from o_add l 1]
  | succ d ih =>
    intro m q f g X h1 h2 h3 h4
    obtain ⟨q, rfl⟩ : ∃ p, q = p + 1 := ⟨q - 1, by omega⟩
    obtain ⟨W, w1, w2⟩ := mixed_m (l := l) (m := m) h3 hi h4 (by omega)
    have e1 : Int32.ofNat m + 1 = Int32.ofNat (m + 1) := o_add m 1
    have go : ∀ f g : Int32, ∃ f' g' Y, fX11_mix_109 Z kc (fX11_mix_47 Z kc q) x2 f g (Int32.ofNat l) (Int32.ofNat m) Xc = kc x2 f' g' (Int32.ofNat (l + 1)) Xc ∧ fX12_mix_94 km (fX12_mix_38 km q) (Int32.ofNat i) x2 f g (Int32.ofNat l) (Int32.ofNat m) W = km (Int32.ofNat i) x2 f' g' (Int32.ofNat (l + 1)) Y ∧ eqP X Y := by
      intro f g
      unfold fX11_mix_109 fX12_mix_94
      simp only [nm_eq]
      rw [e1]
      obtain ⟨f', g', Y, k1, k2, k3⟩ := ih (m + 1) q f g W (by omega) (by omega) (h3.p w2) (h4.p w2)
      exact ⟨f', g', Y, k1, k2, w2.trans k3⟩
    rw [fX11_mix_47_s, fX12_mix_38_s, show (10 : Int32) - Int32.ofNat l = Int32.ofNat (10 - l) from o_sub (a := 10) (by omega), if_neg (show ¬ Int32.ofNat (10 - l) < Int32.ofNat m by rw [o_lt (by omega) (by omega)]; omega), show (11 : Int32) - Int32.ofNat l = Int32.ofNat (11 - l) from o_sub (a := 11) (by omega), if_neg (show ¬ Int32.ofNat (11 - l) ≤ Int32.ofNat m by rw [o_le (by omega) (by omega)]; omega), bnw_of w1, nm_eq, nm_eq, o_sub (show m ≤ 10 - l by omega), bnd_of (least_c hv (by omega))]
    by_cases z : Int32.ofNat (leX r i k G l m (10 - l - m)) ≤ g
    · rw [if_pos z, if_neg (show ¬ g < _ from fun y => by
        rw [Int32.lt_iff_toInt_lt] at y
        rw [Int32.le_iff_toInt_le] at z
        omega)]
      exact go f g
    · rw [if_neg z, if_pos (lt_of_not z), nm_eq]
      have e2 : (100 : Int32) * Int32.ofNat l + 10 * Int32.ofNat m + 10 - Int32.ofNat l - Int32.ofNat m = 100 * Int32.ofNat l + 10 * Int32.ofNat m + Int32.ofNat (10 - l - m) := by
        rw [show (100 : Int32) = Int32.ofNat 100 from rfl, show (10 : Int32) = Int32.ofNat 10 from rfl, o_mul, o_mul, o_add, o_add, o_add, o_sub (by omega), o_sub (by omega)]
        congr 1
        omega
      rw [e2]
      exact go _ _
theorem mix_out {Z : XS} {Xc : XD} {n i k v : Nat} {r : Rnd} {G : List Cl} {x2 : Int32} (hv : VW Xc (ntA r i k G) (suA r i k G) (saA r i k G)) (hi : i < n) : ∀ (d l q : Nat) (f g : Int32) (X : XD), l + d = 11 → d < q → MA X n r G → MK X i k v → ∃ a Y, fX11_mix_37 Z q x2 f g (Int32.ofNat l) Xc = some (a, Xc) ∧ fX12_mix_28 q (Int32.ofNat i) x2 f g (Int32.ofNat l) X = some (a, Y) ∧ eqP X Y := by
  intro d
  induction d with
  | zero =>
    intro l q f g X h1 h2 h3 h4
    obtain ⟨q, rfl⟩ : ∃ p, q = p + 1 := ⟨q - 1, by omega⟩
    rw [fX11_mix_37_s, fX12_mix_28_s, if_pos (show (10 : Int32) < Int32.ofNat l from (o_lt (a := 10) (by omega) (by omega)).mpr (by omega)), if_pos (show (11 : Int32) ≤ Int32.ofNat l from (o_le (a := 11) (by omega) (by omega)).mpr (by omega))]
    by_cases z : x2 = 0
    · rw [if_pos z, if_pos z]
      exact ⟨_, _, rfl, rfl, eqP.rfl⟩
    · rw [if_neg z, if_neg z]
      exact ⟨_, _, rfl, rfl, eqP.rfl⟩
  | succ d ih =>
    intro l q f g X h1 h2 h3 h4
    obtain ⟨q, rfl⟩ : ∃ p, q = p + 1 := ⟨q - 1, by omega⟩
    rw [fX11_mix_37_s, fX12_mix_28_s, if_neg (show ¬ (10 : Int32) < Int32.ofNat l from fun z => by have := (o_lt (a := 10) (by omega) (by omega)).mp z; omega), if_neg (show ¬ (11 : Int32) ≤ Int32.ofNat l from fun z => by have := (o_le (a := 11) (by omega) (by omega)).mp z; omega)]
    obtain ⟨f', g', Y, y1, y2, y3⟩ := mix_in (Z := Z) (x2 := x2) hv hi (show l ≤ 10 by omega) (fX11_mix_37 Z q) (fX12_mix_28 q) (11 - l) 0 FU f g X (by omega) (FU_gt (by omega)) h3 h4
    obtain ⟨a, W, w1, w2, w3⟩ := ih (l + 1) q f' g' Y (by omega) (by omega) (h3.p y3) (h4.p y3)
    exact ⟨a, W, y1.trans w1, y2.trans w2, y3.trans w3⟩
theorem st11 : St11 Rel := by
  intro Z Xc Xm a1 a2 ⟨n, m, r, h⟩
  unfold fX11_mix fX12_mix
  rcases h.2.1.find a1 with ⟨f1, f2⟩ | ⟨i, o, k, v, hi, rfl, ho, hc, hm, f1, f2⟩
  · rw [bnd_of f1, bnd_of f2]
    exact h.fin rfl rfl eqC.rfl eqM.rfl
  rw [bnd_of f1, bnd_of f2, mto_some, if_neg ne10]
  rcases half_cases (Z := Z) a2 with ⟨-, s1, s2⟩ | ⟨hs, s1, s2⟩
  · rw [bnd_of (s1 _), bnd_of (s2 _)]
    exact h.fin rfl rfl eqC.rfl eqM.rfl
  rw [bnd_of (s1 _), bnd_of (s2 _), if_neg ne10, if_neg ne10]
  obtain ⟨G, g1, g2⟩ := h.ask
  obtain ⟨Y, y1, y2, y3⟩ := h.lk g1 hc
  rw [bnw_of y1]
  obtain ⟨a, W, w1, w2, w3⟩ := mix_out (Z := Z) (x2 := a2) y2 hi 11 0 FU 0 (-1) Xm rfl (FU_gt (by decide)) g2 hm
  exact h.fin w1 w2 y3.C w3.M
