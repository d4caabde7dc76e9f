set_option maxHeartbeats 40000000
set_option maxRecDepth 100000
/-! LOOKED at-/
theorem looked_lp {Z : XS} {Xc Xm : XD} {n m nn : Nat} {r : Rnd} {G : List Cl} (h : RB Z Xc Xm n m r) (hG : HC Xc G) (hM : HM Xm G) (hnn : nn ≤ 10) (s1 : Xc.1 56 1 = Int32.ofNat nn) (s2 : Xm.1 0 40 = Int32.ofNat nn) (s3 : ∀ j, j < nn → Xc.1 57 j = Xm.1 26 j ∧ belN n (Xm.1 26 j)) (s4 : Xc.1 58 1 = Int32.ofNat nn) (s5 : ∀ j, j < nn → Xc.1 59 j = Xm.1 27 j ∧ uptoN 99 (Xm.1 27 j)) : ∀ (d l q1 q2 : Nat) (r' : Rnd) (Yc Ym : XD), l + d = nn → d < q1 → d + 1 < q2 → PS Xc Xm Yc Ym n r r' → ∃ a Wc Wm, fX11_looked_7 Z q1 (Int32.ofNat l) Yc = some (a, Wc) ∧ fX12_looked_9 q2 (-5) (Int32.ofNat l) Ym = some (a, Wm) ∧ eqC Xc Wc ∧ eqN Xm Wm ∧ RM Wm n r := by
  have hn := h.2.1.1
  have h57 : sL Z 57 = 10 := h.1.2.2.2.2.2.1
  have h59 : sL Z 59 = 10 := h.1.2.2.2.2.2.2.1
  intro d
  induction d with
  | zero =>
    intro l q1 q2 r' Yc Ym h1 h2 h3 ⟨p1, p2, p3, p4, p5, p6⟩
    obtain ⟨q1, rfl⟩ : ∃ q, q1 = q + 1 := ⟨q1 - 1, by omega⟩
    obtain ⟨q2, rfl⟩ : ∃ q, q2 = q + 1 := ⟨q2 - 1, by omega⟩
    obtain ⟨W, w1, w2, w3, -⟩ := put_m hn p6
    have e1 : Yc.1 56 1 = Int32.ofNat nn := by rw [p1.1 56 (by unfold scrC; omega)]; exact s1
    have e2 : Ym.1 0 40 = Int32.ofNat nn := by rw [p4.2.2 40 (by decide) (by decide) (by decide) (by decide)]; exact s2
    rw [fX11_looked_7_s, fX12_looked_9_s, e1, e2, if_pos ((o_le (by omega) (by omega)).mpr (by omega)), if_pos ((o_le (by omega) (by omega)).mpr (by omega))]
    unfold fX12_looked_76
    rw [bnw_of w1]
    exact ⟨_, _, _, rfl, rfl, p1, p4.trans w3, w2⟩
  | succ d ih =>
    intro l q1 q2 r' Yc Ym h1 h2 h3 ⟨p1, p2, p3, p4, p5, p6⟩
    obtain ⟨q1, rfl⟩ : ∃ q, q1 = q + 1 := ⟨q1 - 1, by omega⟩
    obtain ⟨q2, rfl⟩ : ∃ q, q2 = q + 1 := ⟨q2 - 1, by omega⟩
    have e1 : Yc.1 56 1 = Int32.ofNat nn := by rw [p1.1 56 (by unfold scrC; omega)]; exact s1
    have e2 : Ym.1 0 40 = Int32.ofNat nn := by rw [p4.2.2 40 (by decide) (by decide) (by decide) (by decide)]; exact s2
    obtain ⟨ba, i, hi, bb⟩ := s3 l (by omega)
    obtain ⟨bc, w, hw, bd⟩ := s5 l (by omega)
    obtain ⟨o, k, v, c1, c2, c3⟩ := h.2.1.2.2.2 i hi
    obtain ⟨W, w1, w2, w3, w4, w5⟩ := tlook (t := 74) h.1.1 (by decide) (by decide) p1 p2 p3 hG c2
    obtain ⟨U, u1, u2⟩ := cn_m (v := v) ⟨hn, p5, p3, hM.n p4⟩ hi (c3.n p4)
    have hN : ntA r' i k G ≤ 2 := noteA_le (p3.1 i)
    have hA : aiA r' i k v G ≤ 2 := aiA_le p3
    have hcn := cnA_le (r := r') (i := i) (k := k) (v := v) (G := G)
    have at1 : fX3_at Z 56 (Int32.ofNat l) Yc = some (Int32.ofNat i) := by
      rw [at_c (Z := Z) (X := Yc) (a := 56) (n := nn) (j := l) h57 e1 (by decide) hnn (by omega), p1.1 57 (by unfold scrC; omega), ba, bb]
    have at2 : fX3_at Z 58 (Int32.ofNat l) W = some (Int32.ofNat w) := by
      rw [at_c (Z := Z) (X := W) (a := 58) (n := nn) (j := l) h59 (by rw [w5.1 58 (by unfold scrC; omega)]; exact s4) (by decide) hnn (by omega), w5.1 59 (by unfold scrC; omega), bc, bd]
    have m1 : Ym.1 26 l = Int32.ofNat i := by rw [p4.2.1 26 (by decide) (by decide) (by decide) (by decide) (by decide)]; exact bb
    have m2 : Ym.1 27 l = Int32.ofNat w := by rw [p4.2.1 27 (by decide) (by decide) (by decide) (by decide) (by decide)]; exact bd
    have m3 : U.1 26 l = Int32.ofNat i := by rw [(p4.trans u2.N).2.1 26 (by decide) (by decide) (by decide) (by decide) (by decide)]; exact bb
    have e5 : W.1 o 0 = Int32.ofNat i := (c2.c w5).2.2.2.1
    have el : Int32.ofNat l + 1 = Int32.ofNat (l + 1) := o_add l 1
    have fi := find_1 (Z := Z) (X := Yc) (by rw [p1.1 47 (by unfold scrC; omega)]; exact h.2.1.2.1) hn hi c1
    rw [fX11_looked_7_s, fX12_looked_9_s, e1, e2, if_neg (show ¬ Int32.ofNat nn ≤ Int32.ofNat l by rw [o_le (by omega) (by omega)]; omega), if_neg (show ¬ Int32.ofNat nn ≤ Int32.ofNat l by rw [o_le (by omega) (by omega)]; omega), bnd_of at1, bnd_of fi, mto_some, bnw_of w1, bnd_of w3, bnd_of at2, w2.1, bnd_of (show fX9_chanceBy Z 139 (Int32.ofNat (aiA r' i k v G)) (Int32.ofNat (ntA r' i k G)) W = some (Int32.ofNat (cnA r' i k v G)) from w2.ch hA hN), e5, if_neg (show ¬ (0 : Int32) ≤ -5 by decide), gin_o (by omega) (by omega), gin_o (by omega) (by omega), i32n (by omega), m1, bnw_of u1, m2]
    have go : ∀ b : Bool, ∃ V, fX12_looked_45 (fX12_looked_9 q2) (Int32.ofNat l) (b2 b) U = fX12_looked_9 q2 (if b then -5 else Int32.ofNat l) (Int32.ofNat (l + 1)) V ∧ MA V n (rGo r' i (aiA r' i k v G) b) G ∧ eqN Xm V ∧ RK V n r := by
      intro b
      obtain ⟨V, v1, v2, v3⟩ := go_m (v := v) (b := b) ⟨hn, p5.p u2, p3, hM.n (p4.trans u2.N)⟩ hi (c3.n (p4.trans u2.N))
      refine ⟨V, ?_, v2, (p4.trans u2.N).trans v3.N, (p6.g u2.G).g v3⟩
      unfold fX12_looked_45 fX12_looked_69
      rw [gin_o (by omega) (by omega), i32n (by omega), m3, bnw_of v1]
      cases b with
      | false => rw [if_pos (show b2 false = 0 by decide), nm_eq, el]; rfl
      | true => rw [if_neg (show ¬ b2 true = 0 by decide), nm_eq, el]; rfl
    by_cases z : w < cnA r' i k v G
    · rw [if_pos ((o_lt (by omega) (by omega)).mpr z), if_neg (show ¬ Int32.ofNat (cnA r' i k v G) ≤ Int32.ofNat w by rw [o_le (by omega) (by omega)]; omega)]
      obtain ⟨V, v1, v2, v3, v4⟩ := go true
      obtain ⟨T, t1, t2, t3, -, -⟩ := tshot (Z := Z) (t := 74) (s := aiA r' i k v G) (b := true) (by decide) (by decide) w5 w4 p3 (show i < 6 by omega)
      obtain ⟨a, Wc, Wm, k1, k2, k3⟩ := ih (l + 1) q1 q2 _ T V (by omega) (by omega) (by omega) ⟨t3, t2, v2.2.2.1, v3, v2.2.1, v4⟩
      refine ⟨a, Wc, Wm, ?_, v1.trans k2, k3⟩
      rw [bnw_of (show fX6_addShot Z 74 (Int32.ofNat i) (Int32.ofNat (aiA r' i k v G)) 1 W = _ from t1)]
      unfold fX11_looked_101
      rw [nm_eq, el]
      exact k1
    · rw [if_neg (fun y => z ((o_lt (by omega) (by omega)).mp y)), if_pos ((o_le (by omega) (by omega)).mpr (by omega))]
      obtain ⟨V, v1, v2, v3, v4⟩ := go false
      obtain ⟨q2, rfl⟩ : ∃ q, q2 = q + 1 := ⟨q2 - 1, by omega⟩
      obtain ⟨S, x1, x2, x3, -⟩ := put_m hn v4
      refine ⟨_, W, S, rfl, v1.trans ?_, w5, v3.trans x3, x2⟩
      have e6 : V.1 0 40 = Int32.ofNat nn := by rw [v3.2.2 40 (by decide) (by decide) (by decide) (by decide)]; exact s2
      rw [if_neg (by decide), fX12_looked_9_s, e6]
      unfold fX12_looked_76
      rw [bnw_of x1]
      by_cases y : Int32.ofNat nn ≤ Int32.ofNat (l + 1)
      · rw [if_pos y]
      · rw [if_neg y, if_pos (show (0 : Int32) ≤ Int32.ofNat l from (o_le (a := 0) (by omega) (by omega)).mpr (by omega))]
theorem st25 : St25 Rel := by
  intro Z Xc Xm ⟨n, m, r, h⟩
  obtain ⟨G, g1, g2⟩ := h.ask
  obtain ⟨Yc, Ym, y1, y2, y3⟩ := h.beg
  obtain ⟨-, -, ⟨hs1, nn, hs2, hs3, hs4⟩, ⟨ht1, mm, ht2, ht3, ht4⟩⟩ := h.2.2.2.2.2.1
  have e : mm = nn := (o_eq (by omega) (by omega)).mp (ht3.symm.trans hs3)
  subst e
  unfold fX11_looked fX12_looked
  rw [bnw_of y1, bnw_of y2]
  obtain ⟨a, Wc, Wm, w1, w2, w3, w4, w5⟩ := looked_lp h g1 g2.2.2.2 hs2 (hs1.trans hs3) hs3 hs4 (ht1.trans hs3) ht4 mm 0 FU FU r Yc Ym (by omega) (FU_gt (by omega)) (FU_gt (by omega)) y3
  exact ⟨a, Wc, Wm, w1, w2, n, m, r, h.back w3 w4 w5⟩
