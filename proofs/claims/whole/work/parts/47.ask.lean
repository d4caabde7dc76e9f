set_option maxHeartbeats 40000000
set_option maxRecDepth 100000
/-! calls that ask one shooter -/
theorem mto_none {α : Type} {x : Option α} {k : Nat → Option α} : mto none x k = x := rfl
theorem mto_some {α : Type} {t : Nat} {x : Option α} {k : Nat → Option α} : mto (some t) x k = k t := rfl
theorem side_cases {Z : XS} (x : Int32) : ((∀ X, fX11_isSide Z x X = some 0) ∧ ∀ X, fX12_isSide x X = some 0) ∨ ∃ s, s ≤ 2 ∧ x = Int32.ofNat s ∧ (∀ X, fX11_isSide Z x X = some 1) ∧ ∀ X, fX12_isSide x X = some 1 := by
  rcases rng x (k := 2) (by decide) with h | ⟨s, hs, rfl⟩
  · refine Or.inl ⟨fun X => ?_, fun X => ?_⟩
    · unfold fX11_isSide
      by_cases q : x < 0
      · rw [if_pos q]
      · rw [if_neg q, if_pos]
        have h := h.resolve_left q
        rw [Int32.lt_iff_toInt_lt, i32_ofN (by decide)] at h
        rw [Int32.le_iff_toInt_le]
        have : (3 : Int32).toInt = 3 := rfl
        omega
    · unfold fX12_isSide
      rw [bnd_of (show fX12_in x 0 2 X = some 0 from in_0 h)]; rfl
  · refine Or.inr ⟨s, hs, rfl, fun X => ?_, fun X => ?_⟩
    · unfold fX11_isSide
      rw [if_neg (o_ge0 (by omega)), if_neg (show ¬ (3 : Int32) ≤ Int32.ofNat s from fun z => by have := (o_le (a := 3) (by omega) (by omega)).mp z; omega)]
    · unfold fX12_isSide
      rw [bnd_of (show fX12_in (Int32.ofNat s) 0 2 X = some 1 from in_1 (hi := 2) hs (by decide))]; rfl
theorem half_cases {Z : XS} (x : Int32) : (x ≠ 0 ∧ (∀ X, fX11_isHalf Z x X = some 0) ∧ ∀ X, fX12_in x 0 1 X = some 0) ∨ (x = 0 ∨ x = 1) ∧ (∀ X, fX11_isHalf Z x X = some 1) ∧ ∀ X, fX12_in x 0 1 X = some 1 := by
  rcases rng x (k := 1) (by decide) with h | ⟨s, hs, rfl⟩
  · have n0 : x ≠ 0 := fun q => by subst q; exact absurd h (by decide)
    have n1 : x ≠ 1 := fun q => by subst q; exact absurd h (by decide)
    refine Or.inl ⟨n0, fun X => ?_, fun X => in_0 h⟩
    unfold fX11_isHalf
    rw [if_neg n0, if_neg n1]
  · have e : Int32.ofNat s = 0 ∨ Int32.ofNat s = 1 := by rcases (show s = 0 ∨ s = 1 by omega) with rfl | rfl <;> decide
    refine Or.inr ⟨e, fun X => ?_, fun X => in_1 (hi := 1) hs (by decide)⟩
    unfold fX11_isHalf fX11_isHalf_9
    rcases e with e | e <;> rw [e] <;> rfl
theorem draw_cases {Z : XS} (x : Int32) : ((∀ X, fX11_isDraw Z x X = some 0) ∧ ∀ X, fX12_in x 0 99 X = some 0) ∨ ∃ s, s ≤ 99 ∧ x = Int32.ofNat s ∧ (∀ X, fX11_isDraw Z x X = some 1) ∧ ∀ X, fX12_in x 0 99 X = some 1 := by
  rcases rng x (k := 99) (by decide) with h | ⟨s, hs, rfl⟩
  · refine Or.inl ⟨fun X => ?_, fun X => in_0 h⟩
    unfold fX11_isDraw
    by_cases q : x < 0
    · rw [if_pos q]
    · rw [if_neg q, if_pos]
      have h := h.resolve_left q
      rw [Int32.lt_iff_toInt_lt, i32_ofN (by decide)] at h
      rw [Int32.le_iff_toInt_le]
      have : (100 : Int32).toInt = 100 := rfl
      omega
  · refine Or.inr ⟨s, hs, rfl, fun X => ?_, fun X => in_1 (hi := 99) hs (by decide)⟩
    unfold fX11_isDraw
    rw [if_neg (o_ge0 (by omega)), if_neg (show ¬ (100 : Int32) ≤ Int32.ofNat s from fun z => by have := (o_le (a := 100) (by omega) (by omega)).mp z; omega)]
theorem RB.ask {Z : XS} {Xc Xm : XD} {n m : Nat} {r : Rnd} (h : RB Z Xc Xm n m r) : ∃ G, HC Xc G ∧ MA Xm n r G := by
  obtain ⟨h1, h2, h3, h4, h5⟩ := h
  obtain ⟨G, g1, g2⟩ := h4.hold
  exact ⟨G, g1, h2.1, h3.2.1, h3.2.2, g2⟩
theorem RB.lk {Z : XS} {Xc Xm : XD} {n m o i k v : Nat} {r : Rnd} {G : List Cl} (h : RB Z Xc Xm n m r) (hG : HC Xc G) (hk : CK Z Xc o i k v) : ∃ Y, fX11_look Z 47 o Xc = some ((), Y) ∧ VW Y (ntA r i k G) (suA r i k G) (saA r i k G) ∧ eqV Xc Y := look_c h.1.1 (by decide) (by decide) h.2.2.1.1 h.2.2.1.2.2 hG hk
theorem RB.sd {Z : XS} {Xc Xm Y : XD} {n m o i k v : Nat} {r : Rnd} {G : List Cl} (h : RB Z Xc Xm n m r) (hk : CK Z Xc o i k v) (hv : VW Y (ntA r i k G) (suA r i k G) (saA r i k G)) (q : eqV Xc Y) : fV_X4_side Z o 139 47 Y = some (Int32.ofNat (aiA r i k v G)) := side_c (h.2.2.1.1.v q (by decide) (by decide)) h.2.2.1.2.2 (hk.v q) hv
theorem VW.ch {Z : XS} {Y : XD} {i k s d : Nat} {r : Rnd} {G : List Cl} (hv : VW Y (ntA r i k G) (suA r i k G) (saA r i k G)) (hs : s ≤ 2) (hd : d ≤ 2) : fX9_chanceBy Z 139 (Int32.ofNat s) (Int32.ofNat d) Y = some (Int32.ofNat (chA r i k G s d)) := chBy_c hv (by omega) (by omega) suA_le saA_le
theorem RB.nt {Z : XS} {Xc Xm : XD} {n m i k : Nat} {r : Rnd} {G : List Cl} (h : RB Z Xc Xm n m r) : ntA r i k G ≤ 2 := noteA_le (h.2.2.1.2.2.1 i)
theorem RB.ai {Z : XS} {Xc Xm : XD} {n m i k v : Nat} {r : Rnd} {G : List Cl} (h : RB Z Xc Xm n m r) : aiA r i k v G ≤ 2 := aiA_le h.2.2.1.2.2
theorem RB.fin {Z : XS} {Xc Xm Yc Ym : XD} {n m : Nat} {r : Rnd} (h : RB Z Xc Xm n m r) {α : Type} {a : α} {fc fm : Option (α × XD)} (h1 : fc = some (a, Yc)) (h2 : fm = some (a, Ym)) (hc : eqC Xc Yc) (hm : eqM Xm Ym) : ∃ a Yc Ym, fc = some (a, Yc) ∧ fm = some (a, Ym) ∧ Rel Z Yc Ym := ⟨a, Yc, Ym, h1, h2, n, m, r, h.frame hc hm⟩
theorem st6 : St6 Rel := by
  intro Z Xc Xm a1 ⟨n, m, r, h⟩
  have e1 := h.2.2.1.1.2.2.2.2.1
  have e2 := h.2.2.1.1.2.2.2.2.2
  have e3 := h.2.2.1.2.1.2.2.2.2.1
  have e4 := h.2.2.1.2.1.2.2.2.2.2
  unfold fX11_told fX12_told
  rw [e1, e2, e3, e4]
  by_cases q : a1 = 0
  · rw [if_pos q]
    exact ⟨_, rfl, rfl, n, m, r, h⟩
  · rw [if_neg q]
    by_cases q1 : a1 = 1
    · rw [if_pos q1]
      exact ⟨_, rfl, rfl, n, m, r, h⟩
    · rw [if_neg q1]
      exact ⟨_, rfl, rfl, n, m, r, h⟩
theorem st7 : St7 Rel := by
  intro Z Xc Xm a1 a2 a3 ⟨n, m, r, h⟩
  unfold fX11_chance fX12_chance
  rcases h.2.1.find a1 with ⟨f1, f2⟩ | ⟨i, o, k, v, hi, rfl, ho, hc, hm, f1, f2⟩
  · rw [bnd_of f1, bnd_of f2]
    exact h.fin rfl rfl eqC.rfl eqM.rfl
  rw [bnd_of f1, bnd_of f2, mto_some, if_neg (by decide)]
  rcases side_cases (Z := Z) a2 with ⟨s1, s2⟩ | ⟨s, hs, rfl, s1, s2⟩
  · rw [bnd_of (s1 _), bnd_of (s2 _)]
    exact h.fin rfl rfl eqC.rfl eqM.rfl
  rw [bnd_of (s1 _), bnd_of (s2 _), if_neg (by decide), if_neg (by decide)]
  rcases side_cases (Z := Z) a3 with ⟨d1, d2⟩ | ⟨d, hd, rfl, d1, d2⟩
  · rw [bnd_of (d1 _), bnd_of (d2 _)]
    exact h.fin rfl rfl eqC.rfl eqM.rfl
  rw [bnd_of (d1 _), bnd_of (d2 _), if_neg (by decide), if_neg (by decide)]
  obtain ⟨G, g1, g2⟩ := h.ask
  obtain ⟨Y, y1, y2, y3⟩ := h.lk g1 hc
  obtain ⟨W, w1, w2⟩ := ch_m g2 hi hm hs hd
  rw [bnw_of y1, bnd_of (y2.ch hs hd), bnw_of w1]
  exact h.fin rfl rfl y3.C w2.M
theorem st16 : St16 Rel := by
  intro Z Xc Xm a1 ⟨n, m, r, h⟩
  unfold fX11_worth fX12_worth
  rcases h.2.1.find a1 with ⟨f1, f2⟩ | ⟨i, o, k, v, hi, rfl, ho, hc, hm, f1, f2⟩
  · rw [bnd_of f1, bnd_of f2]
    exact h.fin rfl rfl eqC.rfl eqM.rfl
  rw [bnd_of f1, bnd_of f2, mto_some, if_neg (by decide)]
  obtain ⟨G, g1, g2⟩ := h.ask
  obtain ⟨Y, y1, y2, y3⟩ := h.lk g1 hc
  obtain ⟨W, w1, w2⟩ := ai_m g2 hi hm
  obtain ⟨V, v1, v2⟩ := ch_m (g2.p w2) hi (hm.p w2) (s := aiA r i k v G) (d := 1) h.ai (by decide)
  obtain ⟨U, u1, u2⟩ := cn_m (g2.p (w2.trans v2)) hi (hm.p (w2.trans v2))
  rw [bnw_of y1, bnd_of (h.sd hc y2 y3), bnd_of (show fX9_chanceBy Z 139 (Int32.ofNat (aiA r i k v G)) 1 Y = some (Int32.ofNat (chA r i k G (aiA r i k v G) 1)) from y2.ch (d := 1) h.ai (by decide)), y2.1, bnd_of (y2.ch h.ai h.nt), bnw_of w1, bnw_of (show fX12_chanceOf (Int32.ofNat i) (Int32.ofNat (aiA r i k v G)) 1 W = _ from v1), bnw_of u1]
  exact h.fin rfl rfl y3.C ((w2.trans v2).trans u2).M
theorem st17 : St17 Rel := by
  intro Z Xc Xm a1 ⟨n, m, r, h⟩
  unfold fX11_stop fX12_stop
  rcases h.2.1.find a1 with ⟨f1, f2⟩ | ⟨i, o, k, v, hi, rfl, ho, hc, hm, f1, f2⟩
  · rw [bnd_of f1, bnd_of f2]
    exact h.fin rfl rfl eqC.rfl eqM.rfl
  rw [bnd_of f1, bnd_of f2, mto_some, if_neg (by decide)]
  obtain ⟨G, g1, g2⟩ := h.ask
  obtain ⟨Y, y1, y2, y3⟩ := h.lk g1 hc
  obtain ⟨W, w1, w2⟩ := wa_m g2 hi hm
  obtain ⟨V, v1, v2⟩ := nt_m (g2.p w2) hi (hm.p w2)
  obtain ⟨T, t1, t2⟩ := ch_m (g2.p (w2.trans v2)) hi (hm.p (w2.trans v2)) (s := waA (ntA r i k G) (suA r i k G)) (d := ntA r i k G) waA_le h.nt
  obtain ⟨U, u1, u2⟩ := cn_m (g2.p ((w2.trans v2).trans t2)) hi (hm.p ((w2.trans v2).trans t2))
  rw [bnw_of y1, bnd_of (h.sd hc y2 y3), bnd_of (away_c y2 h.nt (fun s => suA_le)), y2.1, bnd_of (y2.ch waA_le h.nt), bnd_of (y2.ch h.ai h.nt), bnw_of w1, bnw_of v1, bnw_of t1, bnw_of u1]
  exact h.fin rfl rfl y3.C (((w2.trans v2).trans t2).trans u2).M
/-! BEST -/
def beA (c : Nat → Nat) : Nat := if c (if c 0 < c 1 then 1 else 0) < c 2 then 2 else (if c 0 < c 1 then 1 else 0)
theorem beA_le {c : Nat → Nat} : beA c ≤ 2 := by
  unfold beA
  repeat' split
  all_goals omega
theorem best_c {Z : XS} {Y : XD} {i k : Nat} {r : Rnd} {G : List Cl} (hv : VW Y (ntA r i k G) (suA r i k G) (saA r i k G)) (hN : ntA r i k G ≤ 2) : fX9_bestSide Z 139 Y = some (Int32.ofNat (beA (fun s => chA r i k G s (ntA r i k G)))) := by
  have st : ∀ a b q, a ≤ 2 → b ≤ 2 → fX9_bestSide_4 Z 139 (q + 1) (Int32.ofNat b) (Int32.ofNat a) Y = fX9_bestSide_4 Z 139 q (Int32.ofNat (if chA r i k G b (ntA r i k G) < chA r i k G a (ntA r i k G) then a else b)) (Int32.ofNat (a + 1)) Y := by
    intro a b q ha hb
    have c1 := chA_le (r := r) (i := i) (k := k) (G := G) (s := a) (d := ntA r i k G)
    have c2 := chA_le (r := r) (i := i) (k := k) (G := G) (s := b) (d := ntA r i k G)
    rw [fX9_bestSide_4_s, if_neg (show ¬ (3 : Int32) ≤ Int32.ofNat a from fun z => by have := (o_le (a := 3) (by omega) (by omega)).mp z; omega), hv.1, bnd_of (hv.ch ha hN), bnd_of (hv.ch hb hN)]
    unfold fX9_bestSide_32
    simp only [nm_eq]
    rw [show Int32.ofNat a + 1 = Int32.ofNat (a + 1) from o_add a 1]
    by_cases z : chA r i k G b (ntA r i k G) < chA r i k G a (ntA r i k G)
    · rw [if_neg (show ¬ Int32.ofNat _ ≤ Int32.ofNat _ by rw [o_le (by omega) (by omega)]; omega), if_pos z]
    · rw [if_pos ((o_le (by omega) (by omega)).mpr (by omega)), if_neg z]
  obtain ⟨m, hm⟩ : ∃ m, FU = m + 4 := ⟨999996, rfl⟩
  unfold fX9_bestSide
  rw [hm]
  refine (st 1 0 (m + 3) (by decide) (by decide)).trans ?_
  refine (st 2 _ (m + 2) (by decide) (by split <;> decide)).trans ?_
  rw [fX9_bestSide_4_s, if_pos (by decide)]
  rfl
theorem best_m {X : XD} {n i k v : Nat} {r : Rnd} {G : List Cl} {x : Int32} (h : MA X n r G) (hi : i < n) (hk : MK X i k v) : ∃ Y, fX12_best_32 FU (Int32.ofNat i) x (Int32.ofNat (ntA r i k G)) 0 1 X = some ((if x = 0 then Int32.ofNat (beA (fun s => chA r i k G s (ntA r i k G))) else Int32.ofNat (chA r i k G (beA (fun s => chA r i k G s (ntA r i k G))) (ntA r i k G))), Y) ∧ eqP X Y := by
  have hN : ntA r i k G ≤ 2 := noteA_le (h.2.2.1.1 i)
  have st : ∀ a b q Y, a ≤ 2 → b ≤ 2 → eqP X Y → ∃ W, fX12_best_32 (q + 1) (Int32.ofNat i) x (Int32.ofNat (ntA r i k G)) (Int32.ofNat b) (Int32.ofNat a) Y = fX12_best_32 q (Int32.ofNat i) x (Int32.ofNat (ntA r i k G)) (Int32.ofNat (if chA r i k G b (ntA r i k G) < chA r i k G a (ntA r i k G) then a else b)) (Int32.ofNat (a + 1)) W ∧ eqP X W := by
    intro a b q Y ha hb hY
    have c1 := chA_le (r := r) (i := i) (k := k) (G := G) (s := a) (d := ntA r i k G)
    have c2 := chA_le (r := r) (i := i) (k := k) (G := G) (s := b) (d := ntA r i k G)
    obtain ⟨W, w1, w2⟩ := ch_m (h.p hY) hi (hk.p hY) ha hN
    obtain ⟨V, v1, v2⟩ := ch_m (h.p (hY.trans w2)) hi (hk.p (hY.trans w2)) hb hN
    refine ⟨V, ?_, (hY.trans w2).trans v2⟩
    rw [fX12_best_32_s, if_neg (show ¬ (3 : Int32) ≤ Int32.ofNat a from fun z => by have := (o_le (a := 3) (by omega) (by omega)).mp z; omega), bnw_of w1, bnw_of v1]
    unfold fX12_best_61
    simp only [nm_eq]
    rw [show Int32.ofNat a + 1 = Int32.ofNat (a + 1) from o_add a 1]
    by_cases z : chA r i k G b (ntA r i k G) < chA r i k G a (ntA r i k G)
    · rw [if_neg (show ¬ Int32.ofNat _ ≤ Int32.ofNat _ by rw [o_le (by omega) (by omega)]; omega), if_pos z]
    · rw [if_pos ((o_le (by omega) (by omega)).mpr (by omega)), if_neg z]
  obtain ⟨m, hm⟩ : ∃ m, FU = m + 4 := ⟨999996, rfl⟩
  rw [hm]
  obtain ⟨W, w1, w2⟩ := st 1 0 (m + 3) X (by decide) (by decide) eqP.rfl
  obtain ⟨V, v1, v2⟩ := st 2 (if chA r i k G 0 (ntA r i k G) < chA r i k G 1 (ntA r i k G) then 1 else 0) (m + 2) W (by decide) (by split <;> decide) w2
  have e := w1.trans v1
  have hb := beA_le (c := fun s => chA r i k G s (ntA r i k G))
  obtain ⟨U, u1, u2⟩ := ch_m (h.p v2) hi (hk.p v2) (s := beA (fun s => chA r i k G s (ntA r i k G))) hb hN
  by_cases z : x = 0
  · refine ⟨V, e.trans ?_, v2⟩
    rw [fX12_best_32_s, if_pos (by decide), if_pos z, if_pos z]
    rfl
  · refine ⟨U, e.trans ?_, v2.trans u2⟩
    rw [fX12_best_32_s, if_pos (by decide), if_neg z, if_neg z]
    exact bnw_of u1 _
theorem st10 : St10 Rel := by
  intro Z Xc Xm a1 a2 ⟨n, m, r, h⟩
  unfold fX11_best fX12_best
  rcases h.2.1.find a1 with ⟨f1, f2⟩ | ⟨i, o, k, v, hi, rfl, ho, hc, hm, f1, f2⟩
  · rw [bnd_of f1, bnd_of f2]
    exact h.fin rfl rfl eqC.rfl eqM.rfl
  rw [bnd_of f1, bnd_of f2, mto_some, if_neg (by decide)]
  rcases half_cases (Z := Z) a2 with ⟨-, s1, s2⟩ | ⟨hs, s1, s2⟩
  · rw [bnd_of (s1 _), bnd_of (s2 _)]
    exact h.fin rfl rfl eqC.rfl eqM.rfl
  rw [bnd_of (s1 _), bnd_of (s2 _), if_neg (by decide), if_neg (by decide)]
  obtain ⟨G, g1, g2⟩ := h.ask
  obtain ⟨Y, y1, y2, y3⟩ := h.lk g1 hc
  obtain ⟨W, w1, w2⟩ := nt_m g2 hi hm
  obtain ⟨V, v1, v2⟩ := best_m (x := a2) (g2.p w2) hi (hm.p w2)
  rw [bnw_of y1, bnd_of (best_c y2 h.nt), bnw_of w1, y2.1, bnd_of (y2.ch beA_le h.nt)]
  refine h.fin ?_ v1 y3.C (w2.trans v2).M
  by_cases z : a2 = 0
  · rw [if_pos z, if_pos z]
  · rw [if_neg z, if_neg z]
