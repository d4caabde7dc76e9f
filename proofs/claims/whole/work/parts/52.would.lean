set_option maxHeartbeats 40000000
set_option maxRecDepth 100000
/-! FORGET, CAUGHT, WHO, LOOKED -/
def rLa (r : Rnd) (i l : Nat) : Rnd := (setN (rL r) i l, r.2)
theorem rLa_2 {r : Rnd} {i p l : Nat} : rLa (rLa r i p) i l = rLa r i l := by
  unfold rLa rL setN
  refine Prod.ext (funext fun j => ?_) rfl
  by_cases e : j = i
  · simp [e]
  · simp [e]
theorem rLa_r {r : Rnd} {i : Nat} : rLa r i (rL r i) = r := by
  unfold rLa rL setN
  refine Prod.ext (funext fun j => ?_) rfl
  by_cases e : j = i
  · simp [e]
  · simp [e]
theorem rLa_I {n i l : Nat} {r : Rnd} (h : RI n r) (hi : i < n) (hl : l ≤ 3) : RI n (rLa r i l) := by
  obtain ⟨h1, h2, h3, h4, h5, h6, h7, h8⟩ := h
  refine ⟨fun j => ?_, h2, h3, h4, h5, h6, fun j hj => ⟨?_, (h7 j hj).2⟩, h8⟩
  · show setN (rL r) i l j ≤ 3
    unfold setN; split
    · exact hl
    · exact h1 j
  · show setN (rL r) i l j = 3
    unfold setN; rw [if_neg (by omega)]; exact (h7 j hj).1
theorem RT.la {X : XD} {t i l : Nat} {r : Rnd} (h : RT X t r) : RT (wI X (t + 1) i (Int32.ofNat l)) t (rLa r i l) := by
  obtain ⟨a1, a2, a3, a4, a5, a6⟩ := h
  refine ⟨put_row a1, fun j hj => ?_, fun j hj => ?_, fun j hj => ?_, ?_, ?_⟩
  · rw [wI_c (by omega)]; exact a2 j hj
  · rw [wI_c (by omega)]; exact a3 j hj
  · rw [wI_c (by omega)]; exact a4 j hj
  · rw [wI_c (by omega)]; exact a5
  · rw [wI_c (by omega)]; exact a6
theorem RM.la {X : XD} {n i l : Nat} {r : Rnd} (h : RM X n r) : RM (wI X 3 i (Int32.ofNat l)) n (rLa r i l) := by
  obtain ⟨a1, a2, a3, a4, a5, a6⟩ := h
  refine ⟨put_row a1, fun j hj => ?_, fun j hj => ?_, fun j hj => ?_, ?_, ?_⟩
  · rw [wI_c (by decide)]; exact a2 j hj
  · rw [wI_c (by decide)]; exact a3 j hj
  · rw [wI_c (by decide)]; exact a4 j hj
  · rw [wI_c (by decide)]; exact a5
  · rw [wI_c (by decide)]; exact a6
theorem eqN.la {X : XD} {i : Nat} {v : Int32} : eqN X (wI X 3 i v) := ⟨Eq.refl _, fun q _ h _ _ _ => wI_c h, fun k _ _ _ _ => by rw [wI_c (by decide)]⟩
theorem setLast_c {Z : XS} {X : XD} {t i l : Nat} (hi : i < 6) : fX6_setLast Z t (Int32.ofNat i) (Int32.ofNat l) X = some ((), wI X (t + 1) i (Int32.ofNat l)) := by
  unfold fX6_setLast
  rw [if_neg (o_ge0 (by omega)), if_neg (show ¬ (6 : Int32) ≤ Int32.ofNat i from fun z => by have := (o_le (a := 6) (by omega) (by omega)).mp z; omega), gin_o hi (by omega), nm_eq, i32n (by omega)]
theorem forget_lp {Z : XS} {Xc Xm : XD} {n m i o k v : Nat} {r : Rnd} {G : List Cl} {x2 : Int32} (h : RB Z Xc Xm n m r) (hG : HC Xc G) (hM : HM Xm G) (hi : i < n) (hc : CK Z Xc o i k v) (hm : MK Xm i k v) : ∀ (d l q1 q2 p : Nat) (f g : Int32) (Yc Ym : XD), l + d = 4 → d < q1 → d < q2 → p ≤ 3 → eqC Xc Yc → RT Yc 74 (rLa r i p) → eqN Xm Ym → RM Ym n (rLa r i p) → ∃ a Wc Wm, fX11_forget_34 Z q1 (Int32.ofNat i) x2 o f g (Int32.ofNat l) Yc = some (a, Wc) ∧ fX12_forget_36 q2 (Int32.ofNat i) x2 (Int32.ofNat (rL r i)) f g (Int32.ofNat l) Ym = some (a, Wm) ∧ eqC Xc Wc ∧ eqN Xm Wm ∧ RM Wm n r := by
  have hn := h.2.1.1
  have hI := h.2.2.1.2.2
  intro d
  induction d with
  | zero =>
    intro l q1 q2 p f g Yc Ym h1 h2 h3 hp hc1 hr1 hm1 hr2
    obtain ⟨q1, rfl⟩ : ∃ q, q1 = q + 1 := ⟨q1 - 1, by omega⟩
    obtain ⟨q2, rfl⟩ : ∃ q, q2 = q + 1 := ⟨q2 - 1, by omega⟩
    rw [fX11_forget_34_s, fX12_forget_36_s, if_pos (show (3 : Int32) < Int32.ofNat l from (o_lt (a := 3) (by omega) (by omega)).mpr (by omega)), if_pos (show (4 : Int32) ≤ Int32.ofNat l from (o_le (a := 4) (by omega) (by omega)).mpr (by omega)), gin_o (by omega) (by omega), nm_eq, i32n (by omega)]
    have hr3 : RM (wI Ym 3 i (Int32.ofNat (rL r i))) n r := by
      have := hr2.la (i := i) (l := rL r i)
      rw [rLa_2, rLa_r] at this
      exact this
    by_cases z : x2 = 0
    · rw [if_pos z, if_pos z]
      exact ⟨_, _, _, rfl, rfl, hc1, hm1.trans eqN.la, hr3⟩
    · rw [if_neg z, if_neg z]
      exact ⟨_, _, _, rfl, rfl, hc1, hm1.trans eqN.la, hr3⟩
  | succ d ih =>
    intro l q1 q2 p f g Yc Ym h1 h2 h3 hp hc1 hr1 hm1 hr2
    obtain ⟨q1, rfl⟩ : ∃ q, q1 = q + 1 := ⟨q1 - 1, by omega⟩
    obtain ⟨q2, rfl⟩ : ∃ q, q2 = q + 1 := ⟨q2 - 1, by omega⟩
    have hI2 := rLa_I (l := l) hI hi (by omega)
    have hr1' := hr1.la (i := i) (l := l)
    have hr2' := hr2.la (i := i) (l := l)
    rw [rLa_2] at hr1' hr2'
    have hc2 : eqC Xc (wI Yc (74 + 1) i (Int32.ofNat l)) := hc1.trans ⟨fun q hq => wI_c (by unfold scrC at hq; omega), fun q _ => rfl⟩
    have hm2 : eqN Xm (wI Ym 3 i (Int32.ofNat l)) := hm1.trans eqN.la
    obtain ⟨W, w1, w2, w3, w4, w5⟩ := tlook (t := 74) h.1.1 (by decide) (by decide) hc2 hr1' hI2 hG hc
    obtain ⟨V, v1, v2⟩ := cn_m (v := v) ⟨hn, hr2', hI2, hM.n hm2⟩ hi (hm.n hm2)
    have hN : ntA (rLa r i l) i k G ≤ 2 := noteA_le (hI2.1 i)
    have hcn := cnA_le (r := rLa r i l) (i := i) (k := k) (v := v) (G := G)
    rw [fX11_forget_34_s, fX12_forget_36_s, if_neg (show ¬ (3 : Int32) < Int32.ofNat l from fun z => by have := (o_lt (a := 3) (by omega) (by omega)).mp z; omega), if_neg (show ¬ (4 : Int32) ≤ Int32.ofNat l from fun z => by have := (o_le (a := 4) (by omega) (by omega)).mp z; omega), bnw_of (setLast_c (t := 74) (l := l) (show i < 6 by omega)), bnw_of w1, bnd_of w3, w2.1, bnd_of (show fX9_chanceBy Z 139 (Int32.ofNat (aiA (rLa r i l) i k v G)) (Int32.ofNat (ntA (rLa r i l) i k G)) W = some (Int32.ofNat (cnA (rLa r i l) i k v G)) from w2.ch (aiA_le hI2) hN), gin_o (by omega) (by omega), nm_eq, i32n (by omega), bnw_of v1]
    have go : ∀ f g : Int32, ∃ a Wc Wm, fX11_forget_96 Z (fX11_forget_34 Z q1) (Int32.ofNat i) x2 o f g (Int32.ofNat l) W = some (a, Wc) ∧ fX12_forget_75 (fX12_forget_36 q2) (Int32.ofNat i) x2 (Int32.ofNat (rL r i)) f g (Int32.ofNat l) V = some (a, Wm) ∧ eqC Xc Wc ∧ eqN Xm Wm ∧ RM Wm n r := by
      intro f g
      unfold fX11_forget_96 fX12_forget_75
      rw [nm_eq, nm_eq, show Int32.ofNat l + 1 = Int32.ofNat (l + 1) from o_add l 1]
      exact ih (l + 1) q1 q2 l f g W V (by omega) (by omega) (by omega) (by omega) w5 w4 (hm2.trans v2.N) (hr2'.p v2)
    by_cases z : Int32.ofNat (cnA (rLa r i l) i k v G) ≤ g
    · rw [if_pos z, if_neg (show ¬ g < _ from fun y => by
        rw [Int32.lt_iff_toInt_lt] at y
        rw [Int32.le_iff_toInt_le] at z
        omega)]
      exact go f g
    · rw [if_neg z, if_pos (lt_of_not z)]
      exact go _ _
theorem st18 : St18 Rel := by
  intro Z Xc Xm a1 a2 ⟨n, m, r, h⟩
  unfold fX11_forget fX12_forget
  rcases h.2.1.find a1 with ⟨f1, f2⟩ | ⟨i, o, k, v, hi, rfl, ho, hc, hm, f1, f2⟩
  · rw [bnd_of f1, bnd_of f2]
    exact h.fin rfl rfl eqC.rfl eqM.rfl
  rw [bnd_of f1, bnd_of f2, mto_some, if_neg ne10]
  rcases half_cases (Z := Z) a2 with ⟨-, s1, s2⟩ | ⟨hs, s1, s2⟩
  · rw [bnd_of (s1 _), bnd_of (s2 _)]
    exact h.fin rfl rfl eqC.rfl eqM.rfl
  rw [bnd_of (s1 _), bnd_of (s2 _), if_neg ne10, if_neg ne10]
  have hn := h.2.1.1
  obtain ⟨G, g1, g2⟩ := h.ask
  obtain ⟨Y, y1, y2, y3, -⟩ := sup_c (Z := Z) h.2.2.1.1
  rw [bnw_of y1, gin_o (by omega) (by omega), nm_eq, i32n (by omega), h.2.2.1.2.1.1 i hi]
  obtain ⟨a, Wc, Wm, w1, w2, w3, w4, w5⟩ := forget_lp (x2 := a2) h g1 g2.2.2.2 hi hc hm 4 0 FU FU (rL r i) 0 (-1) Y Xm rfl (FU_gt (by decide)) (FU_gt (by decide)) (h.2.2.1.2.2.1 i) y3 (by rw [rLa_r]; exact y2) eqN.rfl (by rw [rLa_r]; exact h.2.2.1.2.1)
  exact ⟨a, Wc, Wm, w1, w2, n, m, r, h.back w3 w4 w5⟩
/-- the state of a pair of rounds beside -/
def PS (X0 M0 Xc Xm : XD) (n : Nat) (r r' : Rnd) : Prop := eqC X0 Xc ∧ RT Xc 74 r' ∧ RI n r' ∧ eqN M0 Xm ∧ RM Xm n r' ∧ RK Xm n r
theorem caught_lp {Z : XS} {Xc Xm : XD} {n m i o k v nn : Nat} {r : Rnd} {G : List Cl} (h : RB Z Xc Xm n m r) (hG : HC Xc G) (hM : HM Xm G) (hi : i < n) (hc : CK Z Xc o i k v) (hm : MK Xm i k v) (hnn : nn ≤ 20) : ∀ (d l q1 q2 c : Nat) (r' : Rnd) (Yc Ym : XD), l + d = nn → d < q1 → d < q2 → PS Xc Xm Yc Ym n r r' → ∃ a Wc Wm, fX11_caught_37 Z q1 (Int32.ofNat i) (Int32.ofNat nn) o (Int32.ofNat c) (Int32.ofNat l) Yc = some (a, Wc) ∧ fX12_caught_33 q2 (Int32.ofNat i) (Int32.ofNat nn) (Int32.ofNat c) (Int32.ofNat l) Ym = some (a, Wm) ∧ eqC Xc Wc ∧ eqN Xm Wm ∧ RM Wm n r := by
  have hn := h.2.1.1
  intro d
  induction d with
  | zero =>
    intro l q1 q2 c r' Yc Ym h1 h2 h3 ⟨p1, p2, p3, p4, p5, p6⟩
    obtain ⟨q1, rfl⟩ : ∃ q, q1 = q + 1 := ⟨q1 - 1, by omega⟩
    obtain ⟨q2, rfl⟩ : ∃ q, q2 = q + 1 := ⟨q2 - 1, by omega⟩
    obtain ⟨W, w1, w2, w3, -⟩ := put_m hn p6
    rw [fX11_caught_37_s, fX12_caught_33_s, if_pos ((o_le (by omega) (by omega)).mpr (by omega)), if_pos ((o_le (by omega) (by omega)).mpr (by omega)), bnw_of w1]
    exact ⟨_, _, _, rfl, rfl, p1, p4.trans w3, w2⟩
  | succ d ih =>
    intro l q1 q2 c r' Yc Ym h1 h2 h3 ⟨p1, p2, p3, p4, p5, p6⟩
    obtain ⟨q1, rfl⟩ : ∃ q, q1 = q + 1 := ⟨q1 - 1, by omega⟩
    obtain ⟨q2, rfl⟩ : ∃ q, q2 = q + 1 := ⟨q2 - 1, by omega⟩
    obtain ⟨W, w1, w2, w3, w4, w5⟩ := tlook (t := 74) h.1.1 (by decide) (by decide) p1 p2 p3 hG hc
    obtain ⟨U, u1, u2⟩ := nt_m (v := v) ⟨hn, p5, p3, hM.n p4⟩ hi (hm.n p4)
    obtain ⟨V, v1, v2, v3⟩ := go_m (v := v) (b := false) ⟨hn, p5.p u2, p3, hM.n (p4.trans u2.N)⟩ hi (hm.n (p4.trans u2.N))
    obtain ⟨T, t1, t2, t3, -, -⟩ := tshot (Z := Z) (t := 74) (s := aiA r' i k v G) (b := false) (by decide) (by decide) w5 w4 p3 (show i < 6 by omega)
    have hN : ntA r' i k G ≤ 2 := noteA_le (p3.1 i)
    have hA : aiA r' i k v G ≤ 2 := aiA_le p3
    have hP : PS Xc Xm T V n r (rGo r' i (aiA r' i k v G) false) := ⟨t3, t2, v2.2.2.1, p4.trans (u2.N.trans v3.N), v2.2.1, (p6.g u2.G).g v3⟩
    have e1 : Int32.ofNat l + 1 = Int32.ofNat (l + 1) := o_add l 1
    rw [fX11_caught_37_s, fX12_caught_33_s, if_neg (show ¬ Int32.ofNat nn ≤ Int32.ofNat l by rw [o_le (by omega) (by omega)]; omega), if_neg (show ¬ Int32.ofNat nn ≤ Int32.ofNat l by rw [o_le (by omega) (by omega)]; omega), bnw_of w1, bnd_of w3, w2.1, bnw_of u1, bnw_of (show fX12_goes (Int32.ofNat i) 0 U = _ from v1)]
    have go : ∀ c : Nat, ∃ a Wc Wm, fX11_caught_77 Z (fX11_caught_37 Z q1) (Int32.ofNat i) (Int32.ofNat nn) o (Int32.ofNat c) (Int32.ofNat l) (Int32.ofNat (aiA r' i k v G)) W = some (a, Wc) ∧ fX12_caught_33 q2 (Int32.ofNat i) (Int32.ofNat nn) (Int32.ofNat c) (Int32.ofNat (l + 1)) V = some (a, Wm) ∧ eqC Xc Wc ∧ eqN Xm Wm ∧ RM Wm n r := by
      intro c
      unfold fX11_caught_77
      rw [bnw_of (show fX6_addShot Z 74 (Int32.ofNat i) (Int32.ofNat (aiA r' i k v G)) 0 W = _ from t1), nm_eq, e1]
      exact ih (l + 1) q1 q2 c _ T V (by omega) (by omega) (by omega) hP
    unfold fX12_caught_63
    rw [nm_eq, nm_eq, nm_eq, nm_eq, nm_eq, e1, show Int32.ofNat c + 1 = Int32.ofNat (c + 1) from o_add c 1, show Int32.ofNat c + 0 = Int32.ofNat c from o_add c 0]
    by_cases z : aiA r' i k v G = ntA r' i k G
    · rw [if_pos (by rw [z]), if_pos (by rw [z])]
      exact go (c + 1)
    · rw [if_neg (fun y => z ((o_eq (by omega) (by omega)).mp y)), if_neg (fun y => z ((o_eq (by omega) (by omega)).mp y))]
      exact go c
theorem RB.beg {Z : XS} {Xc Xm : XD} {n m : Nat} {r : Rnd} (h : RB Z Xc Xm n m r) : ∃ Yc Ym, fX11_supposed Z Xc = some ((), Yc) ∧ fX12_save Xm = some ((), Ym) ∧ PS Xc Xm Yc Ym n r r := by
  obtain ⟨Y, y1, y2, y3, -⟩ := sup_c (Z := Z) h.2.2.1.1
  obtain ⟨W, w1, w2, w3, w4, -⟩ := save_m h.2.1.1 h.2.2.1.2.1
  exact ⟨Y, W, y1, w1, y3, y2, h.2.2.1.2.2, w4, w3, w2⟩
theorem st19 : St19 Rel := by
  intro Z Xc Xm a1 a2 ⟨n, m, r, h⟩
  unfold fX11_caught fX12_caught
  rcases h.2.1.find a1 with ⟨f1, f2⟩ | ⟨i, o, k, v, hi, rfl, ho, hc, hm, f1, f2⟩
  · rw [bnd_of f1, bnd_of f2]
    exact h.fin rfl rfl eqC.rfl eqM.rfl
  rw [bnd_of f1, bnd_of f2, mto_some, if_neg ne10]
  rcases rng a2 (k := 20) (by decide) with hr | ⟨nn, hnn, rfl⟩
  · rw [bnd_of (show fX12_in a2 0 20 Xm = some 0 from in_0 hr), if_pos rfl]
    by_cases z : a2 < 0
    · rw [if_pos z]
      exact h.fin rfl rfl eqC.rfl eqM.rfl
    · rw [if_neg z, if_neg (show ¬ a2 ≤ 20 from fun y => by
        have := hr.resolve_left z
        exact not_lt_of this y)]
      exact h.fin rfl rfl eqC.rfl eqM.rfl
  rw [bnd_of (show fX12_in (Int32.ofNat nn) 0 20 Xm = some 1 from in_1 (hi := 20) hnn (by decide)), if_neg ne10, if_neg (o_ge0 (by omega)), if_pos (show Int32.ofNat nn ≤ 20 from (o_le (b := 20) (by omega) (by omega)).mpr hnn)]
  obtain ⟨G, g1, g2⟩ := h.ask
  obtain ⟨Yc, Ym, y1, y2, y3⟩ := h.beg
  rw [bnw_of y1, bnw_of y2]
  obtain ⟨a, Wc, Wm, w1, w2, w3, w4, w5⟩ := caught_lp h g1 g2.2.2.2 hi hc hm hnn nn 0 FU FU 0 r Yc Ym (by omega) (FU_gt (by omega)) (FU_gt (by omega)) y3
  exact ⟨a, Wc, Wm, w1, w2, n, m, r, h.back w3 w4 w5⟩
theorem at_c {Z : XS} {X : XD} {a n cap j : Nat} (hl : sL Z (a + 1) = cap) (hs : X.1 a 1 = Int32.ofNat n) (hc : cap ≤ 1000) (hn : n ≤ cap) (hj : j < n) : fX3_at Z a (Int32.ofNat j) X = some (X.1 (a + 1) j) := by
  unfold fX3_at
  rw [hs, hl, if_neg (o_ge0 (by omega)), if_neg (show ¬ Int32.ofNat n ≤ Int32.ofNat j by rw [o_le (by omega) (by omega)]; omega), if_neg (show ¬ Int32.ofNat cap ≤ Int32.ofNat j by rw [o_le (by omega) (by omega)]; omega), gin_o (by omega) (by omega), i32n (by omega)]
theorem seen_lp {Z : XS} {Xc Xm : XD} {n m i o k v nn : Nat} {r : Rnd} {G : List Cl} (h : RB Z Xc Xm n m r) (hG : HC Xc G) (hM : HM Xm G) (hi : i < n) (hc : CK Z Xc o i k v) (hm : MK Xm i k v) (hnn : nn ≤ 6) (s1 : Xc.1 54 1 = Int32.ofNat nn) (s2 : Xm.1 0 38 = Int32.ofNat nn) (s3 : ∀ j, j < nn → Xc.1 55 j = Xm.1 25 j) : ∀ (d l q1 q2 : Nat) (r' : Rnd) (Yc Ym : XD), l + d = nn → d < q1 → d + 1 < q2 → PS Xc Xm Yc Ym n r r' → ∃ a Wc Wm, fX11_goesAsSeen_7 Z o q1 (Int32.ofNat l) Yc = some (b2 a, Wc) ∧ fX12_isSeen_8 q2 (Int32.ofNat i) 1 (Int32.ofNat l) Ym = some (b2 a, Wm) ∧ eqC Xc Wc ∧ eqN Xm Wm ∧ RM Wm n r := by
  have hn := h.2.1.1
  have h55 : sL Z 55 = 6 := h.1.2.2.2.2.1
  intro d
  induction d with
  | zero =>
    intro l q1 q2 r' Yc Ym h1 h2 h3 ⟨p1, p2, p3, p4, p5, p6⟩
    obtain ⟨q1, rfl⟩ : ∃ q, q1 = q + 1 := ⟨q1 - 1, by omega⟩
    obtain ⟨q2, rfl⟩ : ∃ q, q2 = q + 1 := ⟨q2 - 1, by omega⟩
    obtain ⟨W, w1, w2, w3, -⟩ := put_m hn p6
    have e1 : Yc.1 54 1 = Int32.ofNat nn := by rw [p1.1 54 (by unfold scrC; omega)]; exact s1
    have e2 : Ym.1 0 38 = Int32.ofNat nn := by rw [p4.2.2 38 (by decide) (by decide) (by decide) (by decide)]; exact s2
    rw [fX11_goesAsSeen_7_s, fX12_isSeen_8_s, e1, e2, if_pos ((o_le (by omega) (by omega)).mpr (by omega)), if_pos ((o_le (by omega) (by omega)).mpr (by omega))]
    unfold fX12_isSeen_47
    rw [bnw_of w1]
    exact ⟨true, _, _, rfl, gb_1, p1, p4.trans w3, w2⟩
  | succ d ih =>
    intro l q1 q2 r' Yc Ym h1 h2 h3 ⟨p1, p2, p3, p4, p5, p6⟩
    obtain ⟨q1, rfl⟩ : ∃ q, q1 = q + 1 := ⟨q1 - 1, by omega⟩
    obtain ⟨q2, rfl⟩ : ∃ q, q2 = q + 1 := ⟨q2 - 1, by omega⟩
    have e1 : Yc.1 54 1 = Int32.ofNat nn := by rw [p1.1 54 (by unfold scrC; omega)]; exact s1
    have e2 : Ym.1 0 38 = Int32.ofNat nn := by rw [p4.2.2 38 (by decide) (by decide) (by decide) (by decide)]; exact s2
    obtain ⟨W, w1, w2, w3, w4, w5⟩ := tlook (t := 74) h.1.1 (by decide) (by decide) p1 p2 p3 hG hc
    obtain ⟨V, v1, v2, v3⟩ := go_m (v := v) (b := false) ⟨hn, p5, p3, hM.n p4⟩ hi (hm.n p4)
    have hat := at_c (Z := Z) (X := W) (a := 54) (n := nn) (j := l) h55 (by rw [w5.1 54 (by unfold scrC; omega)]; exact s1) (by decide) hnn (by omega)
    have e3 : W.1 (54 + 1) l = Xm.1 25 l := by rw [w5.1 55 (by unfold scrC; omega)]; exact s3 l (by omega)
    have e4 : V.1 25 l = Xm.1 25 l := by rw [(p4.trans v3.N).2.1 25 (by decide) (by decide) (by decide) (by decide) (by decide)]
    have e5 : W.1 o 0 = Int32.ofNat i := (hc.c w5).2.2.2.1
    have el : Int32.ofNat l + 1 = Int32.ofNat (l + 1) := o_add l 1
    rw [fX11_goesAsSeen_7_s, fX12_isSeen_8_s, e1, e2, if_neg (show ¬ Int32.ofNat nn ≤ Int32.ofNat l by rw [o_le (by omega) (by omega)]; omega), if_neg (show ¬ Int32.ofNat nn ≤ Int32.ofNat l by rw [o_le (by omega) (by omega)]; omega), bnw_of w1, bnd_of w3, bnd_of hat, e3, if_neg ne10, bnw_of (show fX12_goes (Int32.ofNat i) 0 Ym = _ from v1), gin_o (by omega) (by omega), i32n (by omega), e4, e5]
    unfold fX12_isSeen_40
    rw [nm_eq, nm_eq, el]
    by_cases z : Int32.ofNat (aiA r' i k v G) = Xm.1 25 l
    · rw [if_pos z, if_pos z]
      obtain ⟨T, t1, t2, t3, -, -⟩ := tshot (Z := Z) (t := 74) (s := aiA r' i k v G) (b := false) (by decide) (by decide) w5 w4 p3 (show i < 6 by omega)
      rw [bnw_of (show fX6_addShot Z 74 (Int32.ofNat i) (Int32.ofNat (aiA r' i k v G)) 0 W = _ from t1), nm_eq]
      exact ih (l + 1) q1 q2 _ T V (by omega) (by omega) (by omega) ⟨t3, t2, v2.2.2.1, p4.trans v3.N, v2.2.1, p6.g v3⟩
    · rw [if_neg z, if_neg z]
      obtain ⟨q2, rfl⟩ : ∃ q, q2 = q + 1 := ⟨q2 - 1, by omega⟩
      obtain ⟨U, u1, u2, u3, -⟩ := put_m hn (p6.g v3)
      refine ⟨false, W, U, rfl, ?_, w5, (p4.trans v3.N).trans u3, u2⟩
      have e6 : V.1 0 38 = Int32.ofNat nn := by rw [(p4.trans v3.N).2.2 38 (by decide) (by decide) (by decide) (by decide)]; exact s2
      rw [fX12_isSeen_8_s, e6]
      unfold fX12_isSeen_47
      rw [bnw_of u1, gb_0]
      by_cases y : Int32.ofNat nn ≤ Int32.ofNat (l + 1)
      · rw [if_pos y]; rfl
      · rw [if_neg y, if_pos rfl]; rfl
theorem who_lp {Z : XS} {n m : Nat} {r : Rnd} : ∀ (d i q1 q2 : Nat) (x : Int32) (Xc Xm : XD), i + d = n → d < q1 → d < q2 → RB Z Xc Xm n m r → ∃ a Yc Ym, fX11_who_4 Z q1 x (Int32.ofNat i) Xc = some (a, Yc) ∧ fX12_who_4 q2 x (Int32.ofNat i) Xm = some (a, Ym) ∧ RB Z Yc Ym n m r := by
  intro d
  induction d with
  | zero =>
    intro i q1 q2 x Xc Xm h1 h2 h3 h
    obtain ⟨q1, rfl⟩ : ∃ q, q1 = q + 1 := ⟨q1 - 1, by omega⟩
    obtain ⟨q2, rfl⟩ : ∃ q, q2 = q + 1 := ⟨q2 - 1, by omega⟩
    have h1 : i = n := h1
    subst h1
    rw [fX11_who_4_s, fX12_who_4_s, h.2.1.2.1, h.2.1.2.2.1, if_pos (Int32.le_refl _), if_pos (Int32.le_refl _)]
    exact ⟨_, _, _, rfl, rfl, h⟩
  | succ d ih =>
    intro i q1 q2 x Xc Xm h1 h2 h3 h
    obtain ⟨q1, rfl⟩ : ∃ q, q1 = q + 1 := ⟨q1 - 1, by omega⟩
    obtain ⟨q2, rfl⟩ : ∃ q, q2 = q + 1 := ⟨q2 - 1, by omega⟩
    have hn := h.2.1.1
    obtain ⟨G, g1, g2⟩ := h.ask
    obtain ⟨o, k, v, c1, c2, c3⟩ := h.2.1.2.2.2 i (by omega)
    obtain ⟨Yc, Ym, y1, y2, y3⟩ := h.beg
    obtain ⟨-, ⟨hs1, nn, hs2, hs3, hs4⟩, -⟩ := h.2.2.2.2.2.1
    obtain ⟨a, Wc, Wm, w1, w2, w3, w4, w5⟩ := seen_lp h g1 g2.2.2.2 (show i < n by omega) c2 c3 hs2 (hs1.trans hs3) hs3 (fun j hj => (hs4 j hj).1) nn 0 FU FU r Yc Ym (by omega) (FU_gt (by omega)) (FU_gt (by omega)) y3
    have hw := h.back w3 w4 w5
    have E1 : fX11_goesAsSeen Z o Xc = some (b2 a, Wc) := by
      unfold fX11_goesAsSeen
      rw [bnw_of y1]
      exact w1
    have E2 : fX12_isSeen (Int32.ofNat i) Xm = some (b2 a, Wm) := by
      unfold fX12_isSeen
      rw [bnw_of y2]
      exact w2
    have el : Int32.ofNat i + 1 = Int32.ofNat (i + 1) := o_add i 1
    rw [fX11_who_4_s, fX12_who_4_s, h.2.1.2.1, h.2.1.2.2.1, if_neg (show ¬ Int32.ofNat n ≤ Int32.ofNat i by rw [o_le (by omega) (by omega)]; omega), if_neg (show ¬ Int32.ofNat n ≤ Int32.ofNat i by rw [o_le (by omega) (by omega)]; omega), bnd_of (find_1 h.2.1.2.1 hn (show i < n by omega) c1), mto_some, bnw_of E1, bnw_of E2]
    unfold fX11_who_39 fX12_who_28
    rw [nm_eq, nm_eq, nm_eq, nm_eq, nm_eq, el]
    cases a with
    | false =>
      rw [if_pos (show b2 false = 0 by decide), if_pos (show b2 false = 0 by decide), Int32.or_zero]
      exact ih (i + 1) q1 q2 x Wc Wm (by omega) (by omega) (by omega) hw
    | true =>
      rw [if_neg (show ¬ b2 true = 0 by decide), if_neg (show ¬ b2 true = 0 by decide), nm_eq]
      exact ih (i + 1) q1 q2 _ Wc Wm (by omega) (by omega) (by omega) hw
theorem st21 : St21 Rel := by
  intro Z Xc Xm ⟨n, m, r, h⟩
  have hn := h.2.1.1
  obtain ⟨a, Yc, Ym, y1, y2, y3⟩ := who_lp n 0 FU FU 0 Xc Xm (by omega) (FU_gt (by omega)) (FU_gt (by omega)) h
  unfold fX11_who fX12_who
  exact ⟨a, Yc, Ym, y1, y2, n, m, r, y3⟩
