set_option maxHeartbeats 40000000
set_option maxRecDepth 100000
/-! fractions in lowest terms; ODDS, MEAN -/
theorem i64n {a : Nat} (h : a < 9223372036854775808) : (Int64.ofNat a).toInt = a := Int64.toInt_ofNat_of_lt (by omega)
theorem l_inj {a b : Nat} (ha : a < 9223372036854775808) (hb : b < 9223372036854775808) : Int64.ofNat a = Int64.ofNat b ↔ a = b := by
  constructor
  · intro h
    have h2 := congrArg Int64.toInt h
    rw [i64n ha, i64n hb] at h2
    omega
  · intro h; rw [h]
theorem l_lt {a b : Nat} (ha : a < 9223372036854775808) (hb : b < 9223372036854775808) : Int64.ofNat a < Int64.ofNat b ↔ a < b := by
  rw [Int64.lt_iff_toInt_lt, i64n ha, i64n hb]
  omega
theorem l_cmp {a b : Nat} (ha : a < 9223372036854775808) (hb : b < 9223372036854775808) : lg_cmp (Int64.ofNat a) (Int64.ofNat b) = if b < a then 1 else if a = b then 0 else -1 := by
  unfold lg_cmp
  by_cases q : b < a
  · rw [if_pos (show Int64.ofNat a > Int64.ofNat b from (l_lt hb ha).mpr q), if_pos q]
  · rw [if_neg (show ¬ Int64.ofNat a > Int64.ofNat b from fun z => q ((l_lt hb ha).mp z)), if_neg q]
    by_cases q2 : a = b
    · rw [if_pos (by rw [q2]), if_pos q2]
    · rw [if_neg (fun z => q2 ((l_inj ha hb).mp z)), if_neg q2]
theorem l_cmp0 {a : Nat} (ha : a < 9223372036854775808) : lg_cmp (Int64.ofNat a) 0 = 0 ↔ a = 0 := by
  rw [show (0 : Int64) = Int64.ofNat 0 from rfl, l_cmp ha (by decide)]
  by_cases q : 0 < a
  · rw [if_pos q]
    constructor
    · intro z; exact absurd z (by decide)
    · intro z; omega
  · rw [if_neg q, if_pos (by omega)]
    constructor
    · intro z; omega
    · intro z; rfl
theorem l_div {a b : Nat} (ha : a < 9223372036854775808) (hb : b < 9223372036854775808) : Int64.ofNat a / Int64.ofNat b = Int64.ofNat (a / b) := (Int64.ofNat_div (by omega) (by omega)).symm
theorem l_rem {a b : Nat} (ha : a < 9223372036854775808) (hb : b < 9223372036854775808) : Int64.ofNat a - Int64.ofNat a / Int64.ofNat b * Int64.ofNat b = Int64.ofNat (a % b) := by
  rw [l_div ha hb, ← Int64.ofNat_mul, ← Int64.ofNat_sub _ _ (Nat.div_mul_le_self a b), n_rem]
theorem l_add (a b : Nat) : Int64.ofNat a + Int64.ofNat b = Int64.ofNat (a + b) := (Int64.ofNat_add a b).symm
theorem l_mul (a b : Nat) : Int64.ofNat a * Int64.ofNat b = Int64.ofNat (a * b) := (Int64.ofNat_mul a b).symm
theorem gnzl_o {α : Type} {a : Nat} {x : Option α} (h : 0 < a) (ha : a < 9223372036854775808) : gnzl (Int64.ofNat a) x = x := by
  unfold gnzl
  rw [if_neg (fun z => by have := (l_inj (b := 0) ha (by decide)).mp z; omega)]
theorem gcd_lp {Z : XS} {Xc Xm : XD} {x0 x2 : Int64} {x4 : Int32} : ∀ (k p q c n1 n2 : Nat), q < 2 ^ k → 0 < p + q → p < 4611686018427387904 → q < 4611686018427387904 → c + 2 * k < 1000 → 2 * k < n1 → 2 * k < n2 → ∃ g, 0 < g ∧ g < 4611686018427387904 ∧ fX11_lowest_9 Z n1 x0 x2 x4 (Int64.ofNat p) (Int64.ofNat q) (Int32.ofNat c) Xc = fX11_lowest_45 Z x0 x2 x4 (Int64.ofNat g) Xc ∧ fX12_divisor_6 n2 (Int64.ofNat p) (Int64.ofNat q) Xm = some (Int64.ofNat g) := by
  have base : ∀ (p c n1 n2 : Nat), 0 < p → p < 4611686018427387904 → c < 1000 → 0 < n1 → 0 < n2 → ∃ g, 0 < g ∧ g < 4611686018427387904 ∧ fX11_lowest_9 Z n1 x0 x2 x4 (Int64.ofNat p) (Int64.ofNat 0) (Int32.ofNat c) Xc = fX11_lowest_45 Z x0 x2 x4 (Int64.ofNat g) Xc ∧ fX12_divisor_6 n2 (Int64.ofNat p) (Int64.ofNat 0) Xm = some (Int64.ofNat g) := by
    intro p c n1 n2 hp hp2 hc h1 h2
    obtain ⟨n1, rfl⟩ : ∃ q, n1 = q + 1 := ⟨n1 - 1, by omega⟩
    obtain ⟨n2, rfl⟩ : ∃ q, n2 = q + 1 := ⟨n2 - 1, by omega⟩
    refine ⟨p, hp, hp2, ?_, ?_⟩
    · rw [fX11_lowest_9_s, if_neg (show ¬ (1000 : Int32) ≤ Int32.ofNat c from fun z => by have := (o_le (a := 1000) (by omega) (by omega)).mp z; omega), if_pos (by decide)]
    · rw [fX12_divisor_6_s, if_pos (by decide)]
  have step : ∀ (p q c n1 n2 : Nat), 0 < q → p < 4611686018427387904 → q < 4611686018427387904 → c < 1000 → fX11_lowest_9 Z (n1 + 1) x0 x2 x4 (Int64.ofNat p) (Int64.ofNat q) (Int32.ofNat c) Xc = fX11_lowest_9 Z n1 x0 x2 x4 (Int64.ofNat q) (Int64.ofNat (p % q)) (Int32.ofNat (c + 1)) Xc ∧ fX12_divisor_6 (n2 + 1) (Int64.ofNat p) (Int64.ofNat q) Xm = fX12_divisor_6 n2 (Int64.ofNat q) (Int64.ofNat (p % q)) Xm := by
    intro p q c n1 n2 hq hp2 hq2 hc
    have hz : ¬ lg_cmp (Int64.ofNat q) 0 = 0 := fun z => by have := (l_cmp0 (by omega)).mp z; omega
    constructor
    · rw [fX11_lowest_9_s, if_neg (show ¬ (1000 : Int32) ≤ Int32.ofNat c from fun z => by have := (o_le (a := 1000) (by omega) (by omega)).mp z; omega), if_neg hz, gnzl_o hq (by omega), nm_eq, nm_eq, l_rem (by omega) (by omega), show Int32.ofNat c + 1 = Int32.ofNat (c + 1) from o_add c 1]
    · rw [fX12_divisor_6_s, if_neg hz, gnzl_o hq (by omega), nm_eq, l_rem (by omega) (by omega)]
  intro k
  induction k with
  | zero =>
    intro p q c n1 n2 h1 h2 h3 h4 h5 h6 h7
    have hq : q = 0 := by simpa using h1
    subst hq
    exact base p c n1 n2 (by omega) h3 (by omega) (by omega) (by omega)
  | succ k ih =>
    intro p q c n1 n2 h1 h2 h3 h4 h5 h6 h7
    by_cases hq : q = 0
    · subst hq
      exact base p c n1 n2 (by omega) h3 (by omega) (by omega) (by omega)
    obtain ⟨n1, rfl⟩ : ∃ q, n1 = q + 2 := ⟨n1 - 2, by omega⟩
    obtain ⟨n2, rfl⟩ : ∃ q, n2 = q + 2 := ⟨n2 - 2, by omega⟩
    obtain ⟨s1, s2⟩ := step p q c (n1 + 1) (n2 + 1) (by omega) h3 h4 (by omega)
    have hr : p % q < q := Nat.mod_lt _ (by omega)
    by_cases hz : p % q = 0
    · obtain ⟨g, g1, g2, g3, g4⟩ := base q (c + 1) (n1 + 1) (n2 + 1) (by omega) h4 (by omega) (by omega) (by omega)
      rw [hz] at s1 s2
      exact ⟨g, g1, g2, s1.trans g3, s2.trans g4⟩
    · obtain ⟨t1, t2⟩ := step q (p % q) (c + 1) n1 n2 (by omega) h4 (by omega) (by omega)
      have hb : q % (p % q) < p % q := Nat.mod_lt _ (by omega)
      have hb2 : q % (p % q) ≤ q - p % q := by
        have e := Nat.div_add_mod q (p % q)
        have e2 : 1 ≤ q / (p % q) := (Nat.one_le_div_iff (by omega)).mpr (by omega)
        have e3 := Nat.mul_le_mul_left (p % q) e2
        omega
      have hk : q % (p % q) < 2 ^ k := by
        have : 2 ^ (k + 1) = 2 * 2 ^ k := by rw [Nat.pow_succ]; omega
        omega
      obtain ⟨g, g1, g2, g3, g4⟩ := ih (p % q) (q % (p % q)) (c + 1 + 1) n1 n2 hk (by omega) (by omega) (by omega) (by omega) (by omega) (by omega)
      exact ⟨g, g1, g2, (s1.trans t1).trans g3, (s2.trans t2).trans g4⟩
theorem low_both {Z : XS} {Xc Xm : XD} {a b : Nat} {x : Int32} (ha : a < 4611686018427387904) (hb : 0 < b) (hb2 : b < 1152921504606846976) : ∃ q, fX11_lowest Z (Int64.ofNat a) (Int64.ofNat b) x Xc = some q ∧ fX12_lowest (Int64.ofNat a) (Int64.ofNat b) x Xm = some q := by
  obtain ⟨g, g1, g2, g3, g4⟩ := gcd_lp (Z := Z) (Xc := Xc) (Xm := Xm) (x0 := Int64.ofNat a) (x2 := Int64.ofNat b) (x4 := x) 60 a b 0 FU FU (by show b < 1152921504606846976; exact hb2) (by omega) ha (by omega) (by decide) (FU_gt (by decide)) (FU_gt (by decide))
  unfold fX11_lowest fX12_lowest fX12_divisor
  rw [bnd_of g4, show fX11_lowest_9 Z FU (Int64.ofNat a) (Int64.ofNat b) x (Int64.ofNat a) (Int64.ofNat b) 0 Xc = _ from g3]
  unfold fX11_lowest_45
  rw [if_neg (fun z => by have := (l_cmp0 (by omega)).mp z; omega), gnzl_o g1 (by omega), gnzl_o g1 (by omega)]
  by_cases z : x = 0
  · rw [if_pos z]
    exact ⟨_, rfl, rfl⟩
  · rw [if_neg z]
    exact ⟨_, rfl, rfl⟩
theorem st22 : St22 Rel := by
  intro Z Xc Xm a1 a2 ⟨n, m, r, h⟩
  unfold fX11_odds fX12_odds
  rcases h.2.1.find a1 with ⟨f1, f2⟩ | ⟨i, o, k, v, hi, rfl, ho, hc, hm, f1, f2⟩
  · rw [bnd_of f1, bnd_of f2]
    exact h.fin rfl rfl eqC.rfl eqM.rfl
  rw [bnd_of f1, bnd_of f2, mto_some, if_neg ne10]
  rcases half_cases (Z := Z) a2 with ⟨-, s1, s2⟩ | ⟨hs, s1, s2⟩
  · rw [bnd_of (s1 _), bnd_of (s2 _)]
    exact h.fin rfl rfl eqC.rfl eqM.rfl
  rw [bnd_of (s1 _), bnd_of (s2 _), if_neg ne10, if_neg ne10]
  obtain ⟨G, g1, g2⟩ := h.ask
  obtain ⟨Y, y1, y2, y3⟩ := h.lk g1 hc
  have hN := h.nt (i := i) (k := k) (G := G)
  obtain ⟨W, w1, w2⟩ := nt_m g2 hi hm
  obtain ⟨V, v1, v2⟩ := ch_m (g2.p w2) hi (hm.p w2) (s := 0) (by decide) hN
  obtain ⟨U, u1, u2⟩ := ch_m (g2.p (w2.trans v2)) hi (hm.p (w2.trans v2)) (s := 1) (by decide) hN
  obtain ⟨T, t1, t2⟩ := ch_m (g2.p ((w2.trans v2).trans u2)) hi (hm.p ((w2.trans v2).trans u2)) (s := 2) (by decide) hN
  rw [bnw_of y1, bnw_of w1, bnw_of (show fX12_chanceOf (Int32.ofNat i) 0 (Int32.ofNat (ntA r i k G)) W = _ from v1), bnw_of (show fX12_chanceOf (Int32.ofNat i) 1 (Int32.ofNat (ntA r i k G)) V = _ from u1), bnw_of (show fX12_chanceOf (Int32.ofNat i) 2 (Int32.ofNat (ntA r i k G)) U = _ from t1)]
  have b0 := chA_le (r := r) (i := i) (k := k) (G := G) (s := 0) (d := ntA r i k G)
  have b1 := chA_le (r := r) (i := i) (k := k) (G := G) (s := 1) (d := ntA r i k G)
  have b2 := chA_le (r := r) (i := i) (k := k) (G := G) (s := 2) (d := ntA r i k G)
  have st : ∀ s q acc, s ≤ 2 → fX11_odds_36 Z (q + 1) a2 (Int64.ofNat acc) (Int32.ofNat s) Y = fX11_odds_36 Z q a2 (Int64.ofNat (acc + chA r i k G s (ntA r i k G))) (Int32.ofNat (s + 1)) Y := by
    intro s q acc hs
    have b := chA_le (r := r) (i := i) (k := k) (G := G) (s := s) (d := ntA r i k G)
    rw [fX11_odds_36_s, if_neg (show ¬ (3 : Int32) ≤ Int32.ofNat s from fun z => by have := (o_le (a := 3) (by omega) (by omega)).mp z; omega), y2.1, bnd_of (y2.ch hs hN), nm_eq, nm_eq, o_64 (by omega), l_add, show Int32.ofNat s + 1 = Int32.ofNat (s + 1) from o_add s 1]
  obtain ⟨q, e1, e2⟩ := low_both (Z := Z) (Xc := Y) (Xm := T) (x := a2) (a := chA r i k G 0 (ntA r i k G) + chA r i k G 1 (ntA r i k G) + chA r i k G 2 (ntA r i k G)) (b := 300) (by omega) (by decide) (by decide)
  have e3 : fX11_odds_36 Z FU a2 0 0 Y = some (q, Y) := by
    obtain ⟨p, hp⟩ : ∃ p, FU = p + 4 := ⟨999996, rfl⟩
    rw [hp]
    refine (st 0 (p + 3) 0 (by decide)).trans ((st 1 (p + 2) _ (by decide)).trans ((st 2 (p + 1) _ (by decide)).trans ?_))
    rw [fX11_odds_36_s, if_pos (by decide), show 0 + chA r i k G 0 (ntA r i k G) + chA r i k G 1 (ntA r i k G) + chA r i k G 2 (ntA r i k G) = chA r i k G 0 (ntA r i k G) + chA r i k G 1 (ntA r i k G) + chA r i k G 2 (ntA r i k G) by omega, bnd_of (show fX11_lowest Z _ 300 a2 Y = _ from e1)]
  rw [o_add, o_add, o_64 (by omega), bnd_of (show fX12_lowest _ 300 a2 T = _ from e2)]
  exact h.fin e3 rfl y3.C (((w2.trans v2).trans u2).trans t2).M
theorem mean_lp {Z : XS} {n m : Nat} {r : Rnd} {x : Int32} (hn1 : 1 ≤ n) : ∀ (d i q1 q2 acc : Nat) (Xc Xm : XD), i + d = n → d < q1 → d < q2 → acc ≤ 100 * i → RB Z Xc Xm n m r → ∃ a Yc Ym, fX11_mean_27 Z q1 x (Int64.ofNat acc) (Int32.ofNat i) Xc = some (a, Yc) ∧ fX12_mean_26 q2 x (Int64.ofNat acc) (Int32.ofNat i) Xm = some (a, Ym) ∧ RB Z Yc Ym n m r := by
  intro d
  induction d with
  | zero =>
    intro i q1 q2 acc Xc Xm h1 h2 h3 h4 h
    obtain ⟨q1, rfl⟩ : ∃ q, q1 = q + 1 := ⟨q1 - 1, by omega⟩
    obtain ⟨q2, rfl⟩ : ∃ q, q2 = q + 1 := ⟨q2 - 1, by omega⟩
    have hn := h.2.1.1
    have h1 : i = n := h1
    subst h1
    obtain ⟨q, e1, e2⟩ := low_both (Z := Z) (Xc := Xc) (Xm := Xm) (x := x) (a := acc) (b := i) (by omega) (by omega) (by omega)
    refine ⟨q, Xc, Xm, ?_, ?_, h⟩
    · rw [fX11_mean_27_s, h.2.1.2.1, if_pos (Int32.le_refl _), o_64 (by omega), bnd_of e1]
    · rw [fX12_mean_26_s, h.2.1.2.2.1, if_pos (Int32.le_refl _), o_64 (by omega), bnd_of e2]
  | succ d ih =>
    intro i q1 q2 acc Xc Xm h1 h2 h3 h4 h
    obtain ⟨q1, rfl⟩ : ∃ q, q1 = q + 1 := ⟨q1 - 1, by omega⟩
    obtain ⟨q2, rfl⟩ : ∃ q, q2 = q + 1 := ⟨q2 - 1, by omega⟩
    have hn := h.2.1.1
    obtain ⟨G, g1, g2⟩ := h.ask
    obtain ⟨o, k, v, c1, c2, c3⟩ := h.2.1.2.2.2 i (by omega)
    obtain ⟨Y, y1, y2, y3⟩ := h.lk g1 c2
    obtain ⟨W, w1, w2⟩ := cn_m g2 (show i < n by omega) c3
    have b := cnA_le (r := r) (i := i) (k := k) (v := v) (G := G)
    obtain ⟨a, Yc, Ym, k1, k2, k3⟩ := ih (i + 1) q1 q2 (acc + cnA r i k v G) Y W (by omega) (by omega) (by omega) (by omega) (h.frame y3.C w2.M)
    refine ⟨a, Yc, Ym, ?_, ?_, k3⟩
    · rw [fX11_mean_27_s, h.2.1.2.1, if_neg (show ¬ Int32.ofNat n ≤ Int32.ofNat i by rw [o_le (by omega) (by omega)]; omega), bnd_of (find_1 h.2.1.2.1 hn (show i < n by omega) c1), mto_some, bnw_of y1, bnd_of (h.sd c2 y2 y3), y2.1, bnd_of (show fX9_chanceBy Z 139 (Int32.ofNat (aiA r i k v G)) (Int32.ofNat (ntA r i k G)) Y = some (Int32.ofNat (cnA r i k v G)) from y2.ch h.ai h.nt), nm_eq]
      unfold fX11_mean_93
      rw [nm_eq, o_64 (by omega), l_add, show Int32.ofNat i + 1 = Int32.ofNat (i + 1) from o_add i 1]
      exact k1
    · rw [fX12_mean_26_s, h.2.1.2.2.1, if_neg (show ¬ Int32.ofNat n ≤ Int32.ofNat i by rw [o_le (by omega) (by omega)]; omega), bnw_of w1, nm_eq, nm_eq, o_64 (by omega), l_add, show Int32.ofNat i + 1 = Int32.ofNat (i + 1) from o_add i 1]
      exact k2
theorem st23 : St23 Rel := by
  intro Z Xc Xm a1 ⟨n, m, r, h⟩
  have hn := h.2.1.1
  unfold fX11_mean fX12_mean
  rcases half_cases (Z := Z) a1 with ⟨-, s1, s2⟩ | ⟨hs, s1, s2⟩
  · rw [bnd_of (s1 _), bnd_of (s2 _)]
    exact h.fin rfl rfl eqC.rfl eqM.rfl
  rw [bnd_of (s1 _), bnd_of (s2 _), if_neg ne10, if_neg ne10, h.2.1.2.1, h.2.1.2.2.1]
  by_cases z : n = 0
  · rw [if_neg (show ¬ (1 : Int32) ≤ Int32.ofNat n by rw [z]; decide), if_pos (show Int32.ofNat n = 0 by rw [z]; rfl)]
    exact h.fin rfl rfl eqC.rfl eqM.rfl
  · rw [if_pos (show (1 : Int32) ≤ Int32.ofNat n from (o_le (a := 1) (by omega) (by omega)).mpr (by omega)), if_neg (show ¬ Int32.ofNat n = 0 from fun q => z ((o_eq (b := 0) (by omega) (by omega)).mp q))]
    obtain ⟨a, Yc, Ym, k1, k2, k3⟩ := mean_lp (x := a1) (show 1 ≤ n by omega) n 0 FU FU 0 Xc Xm (by omega) (FU_gt (by omega)) (FU_gt (by omega)) (by omega) h
    exact ⟨a, Yc, Ym, k1, k2, n, m, r, k3⟩
