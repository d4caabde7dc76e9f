set_option maxHeartbeats 40000000
set_option maxRecDepth 100000
/-! ORDER-/
def vl (G : List Cl) (kd vd ln : Nat → Nat) (r : Rnd) (n : Nat) (l : List Nat) : Nat := sF (fun g => if 2 * g ≤ n then 0 else Dd G kd vd (shs (fun q => ln (l.getD q 0)) 0 n) r 0 1 g) 0 5
def fo (v : List Nat → Nat) (s : Int64 × List Nat) (l : List Nat) : Int64 × List Nat := if lg_cmp (Int64.ofNat (v l)) s.1 ≤ 0 then s else (Int64.ofNat (v l), l)
theorem fo_t {v : List Nat → Nat} {s : Int64 × List Nat} {l : List Nat} (h : lg_cmp (Int64.ofNat (v l)) s.1 ≤ 0) : fo v s l = s := if_pos h
theorem fo_f {v : List Nat → Nat} {s : Int64 × List Nat} {l : List Nat} (h : ¬ lg_cmp (Int64.ofNat (v l)) s.1 ≤ 0) : fo v s l = (Int64.ofNat (v l), l) := if_neg h
theorem fm_n {f : Nat → Option (List Nat)} {c d : Nat} (h : f c = none) : fm f c (d + 1) = fm f (c + 1) d := by
  rw [fm, h]
theorem fm_s {f : Nat → Option (List Nat)} {c d : Nat} {l : List Nat} (h : f c = some l) : fm f c (d + 1) = l :: fm f (c + 1) d := by
  rw [fm, h]
theorem fm_cons {f : Nat → Option (List Nat)} {c d : Nat} : fm f c (d + 1) = match f c with
    | none => fm f (c + 1) d
    | some l => l :: fm f (c + 1) d := rfl
theorem half_c {Z : XS} {X : XD} {n : Nat} {P : Nat → Nat} (hn : n ≤ 4) (hP : ∀ j, j < 5 → X.2 153 j = Int64.ofNat (P j)) : fX11_moreThanHalf Z (Int32.ofNat n) X = some (Int64.ofNat (sF (fun g => if 2 * g ≤ n then 0 else P g) 0 5)) := by
  have lp : ∀ (d g m acc : Nat), g + d = 5 → d < m → fX11_moreThanHalf_5 Z m (Int32.ofNat n) (Int64.ofNat acc) (Int32.ofNat g) X = some (Int64.ofNat (acc + sF (fun g => if 2 * g ≤ n then 0 else P g) g d)) := by
    intro d
    induction d with
    | zero =>
      intro g m acc h1 h2
      obtain ⟨m, rfl⟩ : ∃ q, m = q + 1 := ⟨m - 1, by omega⟩
      rw [fX11_moreThanHalf_5_s, if_pos (show (5 : Int32) ≤ Int32.ofNat g from (o_le (a := 5) (by omega) (by omega)).mpr (by omega))]
      rfl
    | succ d ih =>
      intro g m acc h1 h2
      obtain ⟨m, rfl⟩ : ∃ q, m = q + 1 := ⟨m - 1, by omega⟩
      have e : sF (fun g => if 2 * g ≤ n then 0 else P g) g (d + 1) = (if 2 * g ≤ n then 0 else P g) + sF (fun g => if 2 * g ≤ n then 0 else P g) (g + 1) d := rfl
      have eg : Int32.ofNat g + 1 = Int32.ofNat (g + 1) := o_add g 1
      rw [fX11_moreThanHalf_5_s, if_neg (show ¬ (5 : Int32) ≤ Int32.ofNat g from fun z => by have := (o_le (a := 5) (by omega) (by omega)).mp z; omega), show (2 : Int32) * Int32.ofNat g = Int32.ofNat (2 * g) from o_mul (a := 2), e]
      unfold fX11_moreThanHalf_33
      by_cases z : 2 * g ≤ n
      · rw [if_pos ((o_le (by omega) (by omega)).mpr z), if_pos z, nm_eq, eg, ih (g + 1) m acc (by omega) (by omega), Nat.zero_add]
      · rw [if_neg (fun y => z ((o_le (by omega) (by omega)).mp y)), if_neg z, gin_o (by omega) (by omega), nm_eq, nm_eq, i32n (by omega), hP g (by omega), l_add, eg, ih (g + 1) m (acc + P g) (by omega) (by omega), Nat.add_assoc]
  have := lp 5 0 FU 0 rfl (FU_gt (by decide))
  rw [Nat.zero_add] at this
  unfold fX11_moreThanHalf
  exact this
/-- the sum of the reference, up to the line's length -/
theorem half_sum {n : Nat} {P : Nat → Nat} (hn : n ≤ 4) (hP : ∀ j, n < j → P j = 0) : sF (fun g => if 2 * g ≤ n then 0 else P g) 0 (n + 1) = sF (fun g => if 2 * g ≤ n then 0 else P g) 0 5 := by
  rcases (show n = 0 ∨ n = 1 ∨ n = 2 ∨ n = 3 ∨ n = 4 by omega) with rfl | rfl | rfl | rfl | rfl
  all_goals
    try have p1 := hP 1 (by decide)
    try have p2 := hP 2 (by decide)
    try have p3 := hP 3 (by decide)
    try have p4 := hP 4 (by decide)
    simp [sF, *]
theorem cho_c {Z : XS} {X0 M0 : XD} {n N : Nat} {r : Rnd} {G : List Cl} {kd vd ln : Nat → Nat} (hL : LayC Z) (hLen : LenC Z) (hG : HC X0 G) (hW : Who Z X0 M0 n kd vd) (hn : n ≤ 6) (h0 : X0.1 47 0 = Int32.ofNat n) (hN : N ≤ 4) (hl : LnC X0 N n ln) (hr : RT X0 47 r) (hI : RI n r) : ∀ (d c m : Nat) (s : Int64 × List Nat) (X : XD), c + d = 4 ^ N → d < m → eqC X0 X → (s.2 ≠ [] → ∀ j, j < N → X.1 156 j = Int32.ofNat (s.2.getD j 0)) → ∃ Y, fX11_chooseOrder_14 Z m (Int32.ofNat N) s.1 (Int32.ofNat (4 ^ N)) (Int32.ofNat c) X = some ((), Y) ∧ eqC X0 Y ∧ (((fm (arrN N) c d).foldl (fo (vl G kd vd ln r N)) s).2 ≠ [] → ∀ j, j < N → Y.1 156 j = Int32.ofNat (((fm (arrN N) c d).foldl (fo (vl G kd vd ln r N)) s).2.getD j 0)) := by
  have h4 : 4 ^ N ≤ 256 := by rcases (show N = 0 ∨ N = 1 ∨ N = 2 ∨ N = 3 ∨ N = 4 by omega) with rfl | rfl | rfl | rfl | rfl <;> decide
  intro d
  induction d with
  | zero =>
    intro c m s X h1 h2 h3 h5
    obtain ⟨m, rfl⟩ : ∃ q, m = q + 1 := ⟨m - 1, by omega⟩
    rw [fX11_chooseOrder_14_s, if_pos ((o_le (by omega) (by omega)).mpr (by omega))]
    exact ⟨X, rfl, h3, h5⟩
  | succ d ih =>
    intro c m s X h1 h2 h3 h5
    obtain ⟨m, rfl⟩ : ∃ q, m = q + 1 := ⟨m - 1, by omega⟩
    obtain ⟨A, a1, a2, a3, a4, a5⟩ := arr_c (Z := Z) (n := N) (code := c) hN (by omega) N 0 0 FU X (by omega) (FU_gt (by omega)) (by decide)
    have a1 : fX11_arrange Z (Int32.ofNat c) (Int32.ofNat N) X = some (b2 (arrN N c).isSome, A) := a1
    have hcA : eqC X0 A := h3.trans ⟨fun q hq => a4 q (by unfold scrC at hq; omega), fun q _ => by rw [a5]⟩
    have h156 : A.1 156 = X.1 156 := a4 156 (by decide)
    have ec : Int32.ofNat c + 1 = Int32.ofNat (c + 1) := o_add c 1
    rw [fX11_chooseOrder_14_s, if_neg (show ¬ Int32.ofNat (4 ^ N) ≤ Int32.ofNat c by rw [o_le (by omega) (by omega)]; omega), bnw_of a1]
    unfold fX11_chooseOrder_77
    cases ha : arrN N c with
    | none =>
      rw [fm_n ha, if_pos (show b2 (none : Option (List Nat)).isSome = 0 from rfl), nm_eq, ec]
      exact ih (c + 1) m s A (by omega) (by omega) hcA (fun z j hj => by rw [h156]; exact h5 z j hj)
    | some l =>
      have hok := okL_s (by have := arr_ok N (by omega) c (by omega); rw [ha] at this; exact this)
      have hpl : ∀ j, j < N → A.1 155 j = Int32.ofNat (l.getD j 0) := fun j hj => by
        have := a2 l ha j hj
        rw [Nat.zero_add] at this
        exact this
      obtain ⟨Y, Y', y1, y2, y3, y4, y5, y6, y7⟩ := reck_c (pl := fun k => l.getD k 0) (ln := ln) hL hLen hG hW hn h0 hN hl hok.2 hr hI hcA hpl
      have hhalf := half_c (Z := Z) (X := Y') hN y7
      rw [if_neg (show ¬ b2 (some l : Option (List Nat)).isSome = 0 from ne10), bnw_of y1, bnw_of (show fX11_spreadN Z 6 0 0 1 Y = _ from y2), bnd_of hhalf]
      rw [fm_s ha, List.foldl_cons]
      have hv : sF (fun g => if 2 * g ≤ N then 0 else Dd G kd vd (shs (fun q => ln (l.getD q 0)) 0 N) r 0 1 g) 0 5 = vl G kd vd ln r N l := rfl
      rw [hv]
      by_cases z : lg_cmp (Int64.ofNat (vl G kd vd ln r N l)) s.1 ≤ 0
      · rw [if_pos z, fo_t z, nm_eq, ec]
        exact ih (c + 1) m s Y' (by omega) (by omega) y3 (fun w j hj => by rw [y5, h156]; exact h5 w j hj)
      · rw [if_neg z, fo_f z, show ∀ {α : Type} (x : Option α), gcp 0 0 4 4 4 x = x from fun x => if_neg (by decide), nm_eq, nm_eq, ec]
        have n4 : (4 : Int32).toNatClampNeg = 4 := i32n (k := 4) (by decide)
        refine ih (c + 1) m (Int64.ofNat (vl G kd vd ln r N l), l) (cpI Y' 155 0 156 0 4) (by omega) (by omega) (y3.trans ⟨fun q hq => cpI_o (by unfold scrC at hq; omega), fun q _ => rfl⟩) (fun w j hj => ?_)
        rw [cpI_s (by rw [n4]; omega), y4]
        exact hpl j hj
theorem ord_m {M0 : XD} {n N kq : Nat} {r : Rnd} {G : List Cl} {kd vd ln : Nat → Nat} (hM : HM M0 G) (hW : ∀ i, i < n → MK M0 i (kd i) (vd i)) (hn : n ≤ 6) (hN1 : 1 ≤ N) (hN : N ≤ 4) (hl : LnM M0 N n ln) (hI : RI n r) (hkq : kq < N) : ∀ (d c m : Nat) (s : Int64 × List Nat) (X : XD), c + d = fac N → d < m → eqB M0 X → RM X n r → (s.2 ≠ [] → ∀ j, j < N → X.1 22 j = Int32.ofNat (s.2.getD j 0)) → ∃ Y, fX12_order_30 m (Int32.ofNat kq) s.1 (Int32.ofNat c) X = some (Y.1 22 kq, Y) ∧ eqB M0 Y ∧ RM Y n r ∧ (((fm (layN N) c d).foldl (fo (vl G kd vd ln r N)) s).2 ≠ [] → ∀ j, j < N → Y.1 22 j = Int32.ofNat (((fm (layN N) c d).foldl (fo (vl G kd vd ln r N)) s).2.getD j 0)) := by
  have hf : fac N < 100 := by rcases (show N = 1 ∨ N = 2 ∨ N = 3 ∨ N = 4 by omega) with rfl | rfl | rfl | rfl <;> decide
  intro d
  induction d with
  | zero =>
    intro c m s X h1 h2 h3 h4 h5
    obtain ⟨m, rfl⟩ : ∃ q, m = q + 1 := ⟨m - 1, by omega⟩
    have h1 : c = fac N := h1
    subst h1
    rw [fX12_order_30_s, bnw_of (lay_end hN1 hN (by rw [h3.2.1 32 (by decide) (by decide) (by decide) (by decide)]; exact hl.1)), if_pos rfl, gin_o (by omega) (by omega), i32n (by omega)]
    exact ⟨X, rfl, h3, h4, h5⟩
  | succ d ih =>
    intro c m s X h1 h2 h3 h4 h5
    obtain ⟨m, rfl⟩ : ∃ q, m = q + 1 := ⟨m - 1, by omega⟩
    have hls := lay_ok N (by omega) c (by omega)
    have ec : Int32.ofNat c + 1 = Int32.ofNat (c + 1) := o_add c 1
    cases ha : layN N c with
    | none => rw [ha] at hls; cases hls
    | some l =>
      rw [ha] at hls
      have hok := okL_s (n := N) (l := l) hls
      obtain ⟨A, a1, a2, a3, a4⟩ := lay_num hN1 hN (by rw [h3.2.1 32 (by decide) (by decide) (by decide) (by decide)]; exact hl.1) (show c < fac N by omega) ha
      have hB : eqB M0 A := h3.trans ⟨fun q _ _ _ _ e => a3 q (by unfold scrM at e; omega), fun k _ _ _ _ => by rw [a3 0 (by decide)], by rw [a4]⟩
      have hRA : RM A n r := h4.eq (by rw [a3 0 (by decide)]) (by rw [a3 0 (by decide)]) (fun k x y => a3 k (by omega))
      obtain ⟨V, v1, v2, v3, v4, v5⟩ := lay_m (pl := fun k => l.getD k 0) (ln := ln) (hM.b hB) (fun i hi => (hW i hi).b hB) hn hN (hl.b hB) (fun k hk => ⟨a2 k hk, hok.2 k hk⟩) hI hRA
      have hBV := hB.trans (v2.B (v4 41 (by decide)))
      have e32 : V.1 0 32 = Int32.ofNat N := by rw [hBV.2.1 32 (by decide) (by decide) (by decide) (by decide)]; exact hl.1
      have p21 : ∀ j, j < N → V.1 21 j = Int32.ofNat (l.getD j 0) := fun j hj => by rw [v2.1 21 (by decide) (by decide) (by decide) (by decide) (by decide)]; exact a2 j hj
      have p22 : V.1 22 = X.1 22 := by rw [v2.1 22 (by decide) (by decide) (by decide) (by decide) (by decide), a3 22 (by decide)]
      obtain ⟨P, eP⟩ : ∃ P : Nat → Nat, P = Dd G kd vd (shs (fun q => ln (l.getD q 0)) 0 N) r 0 1 := ⟨_, rfl⟩
      have hP0 : ∀ j, N < j → P j = 0 := fun j hj => by rw [eP]; exact Dd_hi _ _ _ _ _ (by rw [shs_len]; omega)
      have hv : sF (fun g => if 2 * g ≤ N then 0 else P g) 0 (N + 1) = vl G kd vd ln r N l := by rw [half_sum hN hP0, eP]; rfl
      -- the sum
      have sum : ∀ (e g q acc : Nat), g + e = N + 1 → e < q → fX12_order_49 (fX12_order_30 m) q (Int32.ofNat kq) s.1 (Int32.ofNat c) (Int64.ofNat acc) (Int32.ofNat g) V = if 0 < lg_cmp (Int64.ofNat (acc + sF (fun g => if 2 * g ≤ N then 0 else P g) g e)) s.1 then fX12_order_107 (fX12_order_30 m) FU (Int32.ofNat kq) (Int64.ofNat (acc + sF (fun g => if 2 * g ≤ N then 0 else P g) g e)) (Int32.ofNat c) 0 V else fX12_order_133 (fX12_order_30 m) (Int32.ofNat kq) s.1 (Int32.ofNat c) V := by
        intro e
        induction e with
        | zero =>
          intro g q acc h1 h2
          obtain ⟨q, rfl⟩ : ∃ p, q = p + 1 := ⟨q - 1, by omega⟩
          rw [fX12_order_49_s, e32, if_pos ((o_lt (by omega) (by omega)).mpr (by omega))]
          rfl
        | succ e ih2 =>
          intro g q acc h1 h2
          obtain ⟨q, rfl⟩ : ∃ p, q = p + 1 := ⟨q - 1, by omega⟩
          have es : sF (fun g => if 2 * g ≤ N then 0 else P g) g (e + 1) = (if 2 * g ≤ N then 0 else P g) + sF (fun g => if 2 * g ≤ N then 0 else P g) (g + 1) e := rfl
          have eg : Int32.ofNat g + 1 = Int32.ofNat (g + 1) := o_add g 1
          have vg : V.2 23 g = Int64.ofNat (P g) := by rw [eP]; exact v5 g (by omega)
          rw [fX12_order_49_s, e32, if_neg (show ¬ Int32.ofNat N < Int32.ofNat g by rw [o_lt (by omega) (by omega)]; omega), show (2 : Int32) * Int32.ofNat g = Int32.ofNat (2 * g) from o_mul (a := 2), es]
          unfold fX12_order_82
          by_cases z : 2 * g ≤ N
          · rw [if_pos ((o_le (by omega) (by omega)).mpr z), if_pos z, nm_eq, nm_eq, eg, show Int64.ofNat acc + 0 = Int64.ofNat acc from Int64.add_zero _, ih2 (g + 1) q acc (by omega) (by omega), Nat.zero_add]
          · rw [if_neg (fun y => z ((o_le (by omega) (by omega)).mp y)), if_neg z, gin_o (by omega) (by omega), nm_eq, nm_eq, i32n (by omega), vg, l_add, eg, ih2 (g + 1) q (acc + P g) (by omega) (by omega), Nat.add_assoc]
      have hsum := sum (N + 1) 0 FU 0 (by omega) (FU_gt (by omega))
      rw [Nat.zero_add, hv] at hsum
      -- the copy
      have cop : ∀ (e g q : Nat) (W : XD), g + e = 4 → e < q → (∀ p, p ≠ 22 → W.1 p = V.1 p) → W.2 = V.2 → (∀ j, j < g → W.1 22 j = V.1 21 j) → ∃ W', fX12_order_107 (fX12_order_30 m) q (Int32.ofNat kq) (Int64.ofNat (vl G kd vd ln r N l)) (Int32.ofNat c) (Int32.ofNat g) W = fX12_order_30 m (Int32.ofNat kq) (Int64.ofNat (vl G kd vd ln r N l)) (Int32.ofNat (c + 1)) W' ∧ (∀ p, p ≠ 22 → W'.1 p = V.1 p) ∧ W'.2 = V.2 ∧ ∀ j, j < 4 → W'.1 22 j = V.1 21 j := by
        intro e
        induction e with
        | zero =>
          intro g q W h1 h2 w1 w2 w3
          obtain ⟨q, rfl⟩ : ∃ p, q = p + 1 := ⟨q - 1, by omega⟩
          rw [fX12_order_107_s, if_pos (show (4 : Int32) ≤ Int32.ofNat g from (o_le (a := 4) (by omega) (by omega)).mpr (by omega))]
          unfold fX12_order_133
          rw [nm_eq, ec]
          exact ⟨W, rfl, w1, w2, fun j hj => w3 j (by omega)⟩
        | succ e ih2 =>
          intro g q W h1 h2 w1 w2 w3
          obtain ⟨q, rfl⟩ : ∃ p, q = p + 1 := ⟨q - 1, by omega⟩
          rw [fX12_order_107_s, if_neg (show ¬ (4 : Int32) ≤ Int32.ofNat g from fun z => by have := (o_le (a := 4) (by omega) (by omega)).mp z; omega), gin_o (by omega) (by omega), gin_o (by omega) (by omega), nm_eq, nm_eq, i32n (by omega), show Int32.ofNat g + 1 = Int32.ofNat (g + 1) from o_add g 1]
          refine ih2 (g + 1) q _ (by omega) (by omega) (fun p hp => by rw [wI_c hp]; exact w1 p hp) w2 (fun j hj => ?_)
          by_cases z : j = g
          · subst z; rw [wI_s, w1 21 (by decide)]
          · rw [wI_k z]; exact w3 j (by omega)
      rw [fX12_order_30_s, bnw_of a1, if_neg ne10, bnw_of v1, show fX12_order_49 (fX12_order_30 m) FU (Int32.ofNat kq) s.1 (Int32.ofNat c) 0 0 V = _ from hsum, fm_s ha, List.foldl_cons]
      by_cases z : lg_cmp (Int64.ofNat (vl G kd vd ln r N l)) s.1 ≤ 0
      · rw [if_neg (fun y => not_lt_of y z), fo_t z]
        unfold fX12_order_133
        rw [nm_eq, ec]
        exact ih (c + 1) m s V (by omega) (by omega) hBV v3 (fun w j hj => by rw [p22]; exact h5 w j hj)
      · rw [if_pos (lt_of_not z), fo_f z]
        obtain ⟨W', k1, k2, k3, k4⟩ := cop 4 0 FU V rfl (FU_gt (by decide)) (fun p _ => rfl) rfl (fun j hj => absurd hj (Nat.not_lt_zero j))
        rw [show fX12_order_107 (fX12_order_30 m) FU (Int32.ofNat kq) (Int64.ofNat (vl G kd vd ln r N l)) (Int32.ofNat c) 0 V = _ from k1]
        exact ih (c + 1) m (Int64.ofNat (vl G kd vd ln r N l), l) W' (by omega) (by omega) (hBV.trans ⟨fun q _ _ _ _ e => k2 q (by unfold scrM at e; omega), fun k _ _ _ _ => by rw [k2 0 (by decide)], by rw [k3]⟩) (v3.eq (by rw [k2 0 (by decide)]) (by rw [k2 0 (by decide)]) (fun k x y => k2 k (by omega))) (fun _ j hj => by rw [k4 j (by omega)]; exact p21 j hj)
theorem fo_ne {v : List Nat → Nat} : ∀ (L : List (List Nat)) (s : Int64 × List Nat), (∀ l ∈ L, l ≠ []) → s.2 ≠ [] → (L.foldl (fo v) s).2 ≠ [] := by
  intro L
  induction L with
  | nil => intro s _ h; exact h
  | cons l L ih =>
    intro s h1 h2
    refine ih _ (fun l h => h1 l (List.mem_cons_of_mem _ h)) ?_
    unfold fo
    split
    · exact h2
    · exact h1 l List.mem_cons_self
theorem perm_ne : ∀ n, n < 5 → 1 ≤ n → (fm (layN n) 0 (fac n)).all (fun l => !l.isEmpty) = true ∧ (fm (layN n) 0 (fac n)).isEmpty = false := by decide +kernel
theorem st14 : St14 Rel := by
  intro Z Xc Xm a1 ⟨n, m, r, h⟩
  have hn := h.2.1.1
  obtain ⟨N, ln, hN, hlc, hlm⟩ := h.ln
  unfold fX11_order fX12_order
  rcases rng a1 (k := 3) (by decide) with hr | ⟨k, hk, rfl⟩
  · rw [bnd_of (show fX12_in a1 0 3 Xm = some 0 from in_0 hr), if_pos rfl]
    by_cases z : a1 < 0
    · rw [if_pos z]
      exact h.fin rfl rfl eqC.rfl eqM.rfl
    · rw [if_neg z, if_neg (show ¬ a1 < 4 from fun y => by
        have h2 := hr.resolve_left z
        rw [Int32.lt_iff_toInt_lt, i32_ofN (by decide)] at h2
        rw [Int32.lt_iff_toInt_lt] at y
        have : (4 : Int32).toInt = 4 := rfl
        omega)]
      exact h.fin rfl rfl eqC.rfl eqM.rfl
  rw [bnd_of (show fX12_in (Int32.ofNat k) 0 3 Xm = some 1 from in_1 (hi := 3) hk (by decide)), if_neg ne10, if_neg (o_ge0 (by omega)), if_pos (show Int32.ofNat k < 4 from (o_lt (b := 4) (by omega) (by omega)).mpr (by omega)), hlc.1, hlm.1]
  by_cases z : k < N
  · rw [if_pos ((o_lt (by omega) (by omega)).mpr z), if_pos ((o_lt (by omega) (by omega)).mpr z)]
    obtain ⟨G, g1, g2⟩ := h.ask
    have hW := h.2.1.who
    have h4N : 4 ^ N < 1000 := by rcases (show N = 0 ∨ N = 1 ∨ N = 2 ∨ N = 3 ∨ N = 4 by omega) with rfl | rfl | rfl | rfl | rfl <;> decide
    have hfN : fac N < 1000 := by rcases (show N = 0 ∨ N = 1 ∨ N = 2 ∨ N = 3 ∨ N = 4 by omega) with rfl | rfl | rfl | rfl | rfl <;> decide
    obtain ⟨Yc, y1, y2, y3⟩ := cho_c (ln := ln) h.1.1 h.1.2.2 g1 hW hn h.2.1.2.1 hN hlc h.2.2.1.1 h.2.2.1.2.2 (4 ^ N) 0 FU (-1, []) Xc (by omega) (FU_gt (by omega)) eqC.rfl (fun w => absurd rfl w)
    obtain ⟨Ym, m1, m2, m3, m4⟩ := ord_m (kq := k) (ln := ln) g2.2.2.2 (fun i hi => by obtain ⟨o, -, -, c⟩ := hW i hi; exact c) hn (show 1 ≤ N by omega) hN hlm h.2.2.1.2.2 z (fac N) 0 FU (-1, []) Xm (by omega) (FU_gt (by omega)) eqB.rfl h.2.2.1.2.1 (fun w => absurd rfl w)
    rw [perm_eq N (by omega)] at y3
    have hne : ((fm (layN N) 0 (fac N)).foldl (fo (vl G (fun i => (Xm.1 1 i).toNatClampNeg) (fun i => (Xm.1 2 i).toNatClampNeg) ln r N)) (-1, [])).2 ≠ [] := by
      obtain ⟨p1, p2⟩ := perm_ne N (by omega) (by omega)
      revert p1 p2
      generalize fm (layN N) 0 (fac N) = L
      intro p1 p2
      have hall : ∀ l ∈ L, l ≠ [] := fun l hl e => by
        have := List.all_eq_true.mp p1 l hl
        rw [e] at this
        cases this
      cases L with
      | nil => cases p2
      | cons l L =>
        refine fo_ne L _ (fun l h => hall l (List.mem_cons_of_mem _ h)) ?_
        have hv : vl G (fun i => (Xm.1 1 i).toNatClampNeg) (fun i => (Xm.1 2 i).toNatClampNeg) ln r N l < 9223372036854775808 := by
          have b : ∀ g, Dd G (fun i => (Xm.1 1 i).toNatClampNeg) (fun i => (Xm.1 2 i).toNatClampNeg) (shs (fun q => ln (l.getD q 0)) 0 N) r 0 1 g ≤ 100000000 := fun g => by
            have := Dd_le (G := G) (kd := fun i => (Xm.1 1 i).toNatClampNeg) (vd := fun i => (Xm.1 2 i).toNatClampNeg) (shs (fun q => ln (l.getD q 0)) 0 N) r 0 1 g
            rw [shs_len, Nat.one_mul] at this
            refine Nat.le_trans this ?_
            rcases (show N = 0 ∨ N = 1 ∨ N = 2 ∨ N = 3 ∨ N = 4 by omega) with rfl | rfl | rfl | rfl | rfl <;> decide
          obtain ⟨F, hF⟩ : ∃ F : Nat → Nat, F = fun g => if 2 * g ≤ N then 0 else Dd G (fun i => (Xm.1 1 i).toNatClampNeg) (fun i => (Xm.1 2 i).toNatClampNeg) (shs (fun q => ln (l.getD q 0)) 0 N) r 0 1 g := ⟨_, rfl⟩
          have b2 : ∀ g, F g ≤ 100000000 := fun g => by
            rw [hF]
            dsimp only
            split
            · omega
            · exact b g
          have e : vl G (fun i => (Xm.1 1 i).toNatClampNeg) (fun i => (Xm.1 2 i).toNatClampNeg) ln r N l = sF F 0 5 := by rw [hF]; rfl
          have e5 : sF F 0 5 = F 0 + (F 1 + (F 2 + (F 3 + (F 4 + 0)))) := rfl
          have c0 := b2 0
          have c1 := b2 1
          have c2 := b2 2
          have c3 := b2 3
          have c4 := b2 4
          rw [e, e5]
          omega
        unfold fo
        rw [if_neg]
        · exact hall l List.mem_cons_self
        · have e : lg_cmp (Int64.ofNat (vl G (fun i => (Xm.1 1 i).toNatClampNeg) (fun i => (Xm.1 2 i).toNatClampNeg) ln r N l)) (-1) = 1 := by
            unfold lg_cmp
            rw [if_pos]
            show (-1 : Int64) < Int64.ofNat _
            rw [Int64.lt_iff_toInt_lt, i64n hv]
            have : (-1 : Int64).toInt = -1 := rfl
            omega
          show ¬ lg_cmp (Int64.ofNat _) (-1) ≤ 0
          rw [e]
          decide
    unfold fX11_chooseOrder
    have e22 := m4 hne k z
    have e156 := y3 hne k z
    rw [nm_eq, show (1 : Int32) <<< ((2 * Int32.ofNat N) &&& 31) = Int32.ofNat (4 ^ N) from by rcases (show N = 0 ∨ N = 1 ∨ N = 2 ∨ N = 3 ∨ N = 4 by omega) with rfl | rfl | rfl | rfl | rfl <;> decide, bnw_of (show fX11_chooseOrder_14 Z FU (Int32.ofNat N) (-1) (Int32.ofNat (4 ^ N)) 0 Xc = _ from y1), if_neg (show ¬ (4 : Int32) ≤ Int32.ofNat k from fun y => by have := (o_le (a := 4) (by omega) (by omega)).mp y; omega), gin_o (by omega) (by omega), i32n (by omega), e156]
    rw [e22] at m1
    exact ⟨_, _, _, rfl, m1, n, m, r, h.backB y2 m2 m3⟩
  · rw [if_neg (fun y => z ((o_lt (by omega) (by omega)).mp y)), if_neg (fun y => z ((o_lt (by omega) (by omega)).mp y))]
    exact h.fin rfl rfl eqC.rfl eqM.rfl
