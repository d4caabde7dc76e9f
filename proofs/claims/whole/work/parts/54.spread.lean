set_option maxHeartbeats 40000000
set_option maxRecDepth 100000
/-! how likely so many are in: the class's spread -/
def cnK (G : List Cl) (kd vd : Nat → Nat) (r : Rnd) (i : Nat) : Nat := cnA r i (kd i) (vd i) G
def aiK (G : List Cl) (kd vd : Nat → Nat) (r : Rnd) (i : Nat) : Nat := aiA r i (kd i) (vd i) G
def Dd (G : List Cl) (kd vd : Nat → Nat) : List Nat → Rnd → Nat → Nat → Nat → Nat
  | [], _, g, w, j => if j = g then w else 0
  | i :: L, r, g, w, j => Dd G kd vd L (rGo r i (aiK G kd vd r i) true) (g + 1) (w * cnK G kd vd r i) j + Dd G kd vd L (rGo r i (aiK G kd vd r i) false) g (w * (100 - cnK G kd vd r i)) j
theorem Dd_0 {G : List Cl} {kd vd : Nat → Nat} : ∀ (L : List Nat) (r : Rnd) (g j : Nat), Dd G kd vd L r g 0 j = 0 := by
  intro L
  induction L with
  | nil => intro r g j; show (if j = g then 0 else 0) = 0; split <;> rfl
  | cons i L ih =>
    intro r g j
    show Dd G kd vd L _ (g + 1) (0 * _) j + Dd G kd vd L _ g (0 * _) j = 0
    rw [Nat.zero_mul, Nat.zero_mul, ih, ih]
theorem Dd_le {G : List Cl} {kd vd : Nat → Nat} : ∀ (L : List Nat) (r : Rnd) (g w j : Nat), Dd G kd vd L r g w j ≤ w * 100 ^ L.length := by
  intro L
  induction L with
  | nil => intro r g w j; show (if j = g then w else 0) ≤ w * 1; split <;> omega
  | cons i L ih =>
    intro r g w j
    have h1 := ih (rGo r i (aiK G kd vd r i) true) (g + 1) (w * cnK G kd vd r i) j
    have h2 := ih (rGo r i (aiK G kd vd r i) false) g (w * (100 - cnK G kd vd r i)) j
    have hc : cnK G kd vd r i ≤ 100 := cnA_le
    have e : w * cnK G kd vd r i * 100 ^ L.length + w * (100 - cnK G kd vd r i) * 100 ^ L.length = w * 100 ^ (L.length + 1) := by
      rw [← Nat.add_mul, ← Nat.mul_add, show cnK G kd vd r i + (100 - cnK G kd vd r i) = 100 by omega, Nat.pow_succ, Nat.mul_assoc, Nat.mul_comm 100]
    show _ + _ ≤ w * 100 ^ (L.length + 1)
    omega
theorem Dd_hi {G : List Cl} {kd vd : Nat → Nat} : ∀ (L : List Nat) (r : Rnd) (g w j : Nat), g + L.length < j → Dd G kd vd L r g w j = 0 := by
  intro L
  induction L with
  | nil => intro r g w j h; show (if j = g then w else 0) = 0; rw [if_neg]; simp at h; omega
  | cons i L ih =>
    intro r g w j h
    have hl : (i :: L).length = L.length + 1 := rfl
    show Dd G kd vd L _ (g + 1) _ j + Dd G kd vd L _ g _ j = 0
    rw [ih _ _ _ _ (by omega), ih _ _ _ _ (by omega)]
/-- shooters by place: from the k-th on, d of them -/
def shs (f : Nat → Nat) : Nat → Nat → List Nat
  | _, 0 => []
  | k, d + 1 => f k :: shs f (k + 1) d
theorem shs_len {f : Nat → Nat} : ∀ {d k : Nat}, (shs f k d).length = d
  | 0, _ => rfl
  | d + 1, k => by show (shs f (k + 1) d).length + 1 = d + 1; rw [shs_len]
/-- the shooters there are, by number -/
def Who (Z : XS) (Xc Xm : XD) (n : Nat) (kd vd : Nat → Nat) : Prop := ∀ i, i < n → ∃ o, sR Z 1 i = some o ∧ CK Z Xc o i (kd i) (vd i) ∧ MK Xm i (kd i) (vd i)
theorem RSh.who {Z : XS} {Xc Xm : XD} {n : Nat} (h : RSh Z Xc Xm n) : Who Z Xc Xm n (fun i => (Xm.1 1 i).toNatClampNeg) (fun i => (Xm.1 2 i).toNatClampNeg) := by
  intro i hi
  obtain ⟨o, k, v, h1, h2, h3⟩ := h.2.2.2 i hi
  have e1 : (Xm.1 1 i).toNatClampNeg = k := by rw [h3.2.2.1]; exact i32n (by have := h3.1; omega)
  have e2 : (Xm.1 2 i).toNatClampNeg = v := by rw [h3.2.2.2]; exact i32n (by have := h3.2.1; omega)
  dsimp only
  rw [e1, e2]
  exact ⟨o, h1, h2, h3⟩
/-- the class's spread: what it is given, what it leaves -/
def SpO (X0 X X' : XD) (k : Nat) (D : Nat → Nat) : Prop := eqC X0 X' ∧ X'.1 155 = X.1 155 ∧ X'.1 156 = X.1 156 ∧ (∀ q, q ≠ 153 → X'.2 q = X.2 q) ∧ (∀ q, 74 ≤ q → q < 74 + 13 * (k + 1) → X'.1 q = X.1 q) ∧ ∀ j, j < 5 → X'.2 153 j = X.2 153 j + Int64.ofNat (D j)
theorem SpO.trans {X0 X A B : XD} {k : Nat} {D E : Nat → Nat} (h : SpO X0 X A k D) (h2 : SpO X0 A B k E) : SpO X0 X B k (fun j => D j + E j) := by
  obtain ⟨a1, a2, a3, a4, a5, a6⟩ := h
  obtain ⟨b1, b2, b3, b4, b5, b6⟩ := h2
  exact ⟨b1, b2.trans a2, b3.trans a3, fun q hq => (b4 q hq).trans (a4 q hq), fun q x y => (b5 q x y).trans (a5 q x y), fun j hj => by rw [b6 j hj, a6 j hj, Int64.add_assoc, l_add]⟩
theorem SpO.ext {X0 X A : XD} {k : Nat} {D E : Nat → Nat} (h : SpO X0 X A k D) (e : ∀ j, D j = E j) : SpO X0 X A k E := by
  obtain ⟨a1, a2, a3, a4, a5, a6⟩ := h
  exact ⟨a1, a2, a3, a4, a5, fun j hj => by rw [a6 j hj, e j]⟩
theorem SpO.look {X0 X W : XD} {k : Nat} (hk : k ≤ 3) (h : eqC X0 X) (q : eqV X W) : SpO X0 X W k (fun _ => 0) := ⟨h.trans q.C, q.at (by decide) (by decide), q.at (by decide) (by decide), fun p _ => by rw [q.1], fun p a b => q.at (by omega) (by omega), fun j _ => by rw [q.1, show Int64.ofNat 0 = 0 from rfl, Int64.add_zero]⟩
theorem spread_c {Z : XS} {X0 M0 : XD} {n N : Nat} {G : List Cl} {kd vd pl ln : Nat → Nat} (hL : LayC Z) (hLen : LenC Z) (hG : HC X0 G) (hW : Who Z X0 M0 n kd vd) (hn : n ≤ 6) (h0 : X0.1 47 0 = Int32.ofNat n) (hN : N ≤ 4) (hl : X0.1 52 1 = Int32.ofNat N) (hln : ∀ j, j < N → X0.1 53 j = Int32.ofNat (ln j) ∧ ln j < n) (hpl : ∀ k, k < N → pl k < N) : ∀ (d k m g w : Nat) (r : Rnd) (X : XD), k + d = N → d < m → g ≤ k → eqC X0 X → (∀ j, j < N → X.1 155 j = Int32.ofNat (pl j)) → RT X (74 + 13 * k) r → RI n r → ∃ X', fX11_spreadN Z m (Int32.ofNat k) (Int32.ofNat g) (Int64.ofNat w) X = some ((), X') ∧ SpO X0 X X' k (Dd G kd vd (shs (fun q => ln (pl q)) k d) r g w) := by
  intro d
  induction d with
  | zero =>
    intro k m g w r X h1 h2 h3 h4 h5 h6 h7
    obtain ⟨m, rfl⟩ : ∃ q, m = q + 1 := ⟨m - 1, by omega⟩
    have e1 : X.1 52 1 = Int32.ofNat N := by rw [h4.1 52 (by unfold scrC; omega)]; exact hl
    refine ⟨wJ X 153 g (X.2 153 g + Int64.ofNat w), ?_, h4.trans ⟨fun q _ => rfl, fun q hq => wJ_c (by omega)⟩, rfl, rfl, fun q hq => wJ_c hq, fun q _ _ => rfl, fun j hj => ?_⟩
    · show fX11_spread Z (fX11_spreadN Z m) (Int32.ofNat k) (Int32.ofNat g) (Int64.ofNat w) X = _
      unfold fX11_spread
      rw [if_neg (o_ge0 (by omega)), e1, if_pos ((o_le (by omega) (by omega)).mpr (by omega))]
      unfold fX11_spread_27
      rw [if_neg (o_ge0 (by omega)), if_neg (show ¬ (5 : Int32) ≤ Int32.ofNat g from fun z => by have := (o_le (a := 5) (by omega) (by omega)).mp z; omega), gin_o (by omega) (by omega), gin_o (by omega) (by omega), nm_eq, i32n (by omega)]
    · show _ = X.2 153 j + Int64.ofNat (if j = g then w else 0)
      by_cases e : j = g
      · subst e; rw [wJ_s, if_pos rfl]
      · rw [wJ_k e, if_neg e, show Int64.ofNat 0 = 0 from rfl, Int64.add_zero]
  | succ d ih =>
    intro k m g w r X h1 h2 h3 h4 h5 h6 h7
    obtain ⟨m, rfl⟩ : ∃ q, m = q + 1 := ⟨m - 1, by omega⟩
    have e1 : X.1 52 1 = Int32.ofNat N := by rw [h4.1 52 (by unfold scrC; omega)]; exact hl
    have hp := hpl k (by omega)
    obtain ⟨l1, l2⟩ := hln (pl k) hp
    obtain ⟨o, c1, c2, c3⟩ := hW (ln (pl k)) l2
    have at1 : fX3_at Z 52 (Int32.ofNat (pl k)) X = some (Int32.ofNat (ln (pl k))) := by
      rw [at_c (Z := Z) (X := X) (a := 52) (n := N) (j := pl k) hLen.2.1 e1 (by decide) hN hp, h4.1 53 (by unfold scrC; omega), l1]
    have fi := find_1 (Z := Z) (X := X) (by rw [h4.1 47 (by unfold scrC; omega)]; exact h0) hn l2 c1
    obtain ⟨W, w1, w2, w3⟩ := look_c hL (show 45 ≤ 74 + 13 * k by omega) (by omega) h6 h7 (hG.c h4) (c2.c h4)
    have hsd := side_c (Z := Z) (h6.v w3 (by omega) (by omega)) h7 ((c2.c h4).v w3) w2
    have hRT := h6.v w3 (by omega) (by omega)
    have hcW : eqC X0 W := h4.trans w3.C
    have hI := h7
    have hN2 : ntA r (ln (pl k)) (kd (ln (pl k))) G ≤ 2 := noteA_le (hI.1 _)
    have hA2 : aiA r (ln (pl k)) (kd (ln (pl k))) (vd (ln (pl k))) G ≤ 2 := aiA_le hI
    have hcn := cnA_le (r := r) (i := ln (pl k)) (k := kd (ln (pl k))) (v := vd (ln (pl k))) (G := G)
    obtain ⟨i, ei⟩ : ∃ i, i = ln (pl k) := ⟨_, rfl⟩
    rw [← ei] at l1 l2 c1 c2 c3 at1 fi w2 hsd hN2 hA2 hcn
    have hi6 : i < 6 := by omega
    have eshs : shs (fun q => ln (pl q)) k (d + 1) = i :: shs (fun q => ln (pl q)) (k + 1) d := by
      rw [ei]; rfl
    have e13 : 74 + 13 * (k + 1) ≤ 126 := by omega
    have e2 : Int32.ofNat k + 1 = Int32.ofNat (k + 1) := o_add k 1
    have e3 : Int32.ofNat g + 1 = Int32.ofNat (g + 1) := o_add g 1
    have branch : ∀ (b : Bool) (g' w' : Nat) (V : XD), g' ≤ k + 1 → eqC X0 V → V.1 155 = X.1 155 → RT V (74 + 13 * k) r → ∃ V', fX11_goOn Z (fX11_spreadN Z m) (Int32.ofNat k) (Int32.ofNat i) (Int32.ofNat (aiA r i (kd i) (vd i) G)) (b2 b) (Int32.ofNat g') (Int64.ofNat w') V = some ((), V') ∧ SpO X0 V V' k (Dd G kd vd (shs (fun q => ln (pl q)) (k + 1) d) (rGo r i (aiA r i (kd i) (vd i) G) b) g' w') := by
      intro b g' w' V hg hV h155 hR
      obtain ⟨V1, a1, a2, a3, a4, a5⟩ := ttake (Z := Z) (t := 74 + 13 * (k + 1)) (b := 74 + 13 * k) (by omega) (by omega) (by omega) hV hR
      obtain ⟨V2, d1, d2, d3, d4, d5⟩ := tshot (Z := Z) (t := 74 + 13 * (k + 1)) (s := aiA r i (kd i) (vd i) G) (b := b) (by omega) (by omega) a3 a2 h7 hi6
      have p155 : V2.1 155 = X.1 155 := by rw [d4 155 (by omega), a4 155 (by omega), h155]
      obtain ⟨V', f1, f2⟩ := ih (k + 1) m g' w' (rGo r i (aiA r i (kd i) (vd i) G) b) V2 (by omega) (by omega) hg d3 (fun j hj => by rw [p155]; exact h5 j hj) d2 (rGo_I h7 l2 hA2)
      obtain ⟨s1, s2, s3, s4, s5, s6⟩ := f2
      refine ⟨V', ?_, s1, ?_, ?_, fun q hq => ?_, fun q x y => ?_, fun j hj => ?_⟩
      · unfold fX11_goOn
        rw [if_neg (o_ge0 (by omega)), e2, if_pos (show Int32.ofNat (k + 1) < 5 from (o_lt (b := 5) (by omega) (by omega)).mpr (by omega)), gin_o (by omega) (by omega), gin_o (by omega) (by omega), i32n (show k < 2147483648 by omega), i32n (show k + 1 < 2147483648 by omega), bnw_of a1, gin_o (by omega) (by omega), bnw_of d1, bnw_of f1]
      · rw [s2, p155, h155]
      · rw [s3, d4 156 (by omega), a4 156 (by omega)]
      · rw [s4 q hq, d5, a5]
      · rw [s5 q x (by omega), d4 q (by omega), a4 q (by omega)]
      · rw [s6 j hj, d5, a5]
    -- what comes last: those who are not in
    have fall : ∀ (V : XD) (D : Nat → Nat), SpO X0 X V k D → RT V (74 + 13 * k) r → ∃ X', fX11_spread_161 Z (fX11_spreadN Z m) (Int32.ofNat k) (Int32.ofNat g) (Int64.ofNat w) o (Int32.ofNat (aiA r i (kd i) (vd i) G)) (Int32.ofNat (cnA r i (kd i) (vd i) G)) V = some ((), X') ∧ SpO X0 X X' k (fun j => D j + Dd G kd vd (shs (fun q => ln (pl q)) (k + 1) d) (rGo r i (aiA r i (kd i) (vd i) G) false) g (w * (100 - cnA r i (kd i) (vd i) G)) j) := by
      intro V D hV hR
      unfold fX11_spread_161
      by_cases z : 100 ≤ cnA r i (kd i) (vd i) G
      · rw [if_pos (show (100 : Int32) ≤ Int32.ofNat _ from (o_le (a := 100) (by omega) (by omega)).mpr z)]
        refine ⟨V, rfl, hV.ext fun j => ?_⟩
        rw [show 100 - cnA r i (kd i) (vd i) G = 0 by omega, Nat.mul_zero, Dd_0, Nat.add_zero]
      · rw [if_neg (show ¬ (100 : Int32) ≤ Int32.ofNat _ from fun y => z ((o_le (a := 100) (by omega) (by omega)).mp y))]
        obtain ⟨V', x4, x5⟩ := branch false g (w * (100 - cnA r i (kd i) (vd i) G)) V (by omega) hV.1 hV.2.1 hR
        rw [show V.1 o 0 = Int32.ofNat i from (c2.c hV.1).2.2.2.1, show (100 : Int32) - Int32.ofNat (cnA r i (kd i) (vd i) G) = Int32.ofNat (100 - cnA r i (kd i) (vd i) G) from o_sub (a := 100) hcn, o_64 (by omega), l_mul, bnw_of (show fX11_goOn Z (fX11_spreadN Z m) (Int32.ofNat k) (Int32.ofNat i) (Int32.ofNat (aiA r i (kd i) (vd i) G)) 0 _ _ V = _ from x4)]
        exact ⟨V', rfl, hV.trans x5⟩
    have hWo := SpO.look (k := k) (by omega) h4 w3
    show ∃ X', fX11_spread Z (fX11_spreadN Z m) (Int32.ofNat k) (Int32.ofNat g) (Int64.ofNat w) X = _ ∧ _
    unfold fX11_spread
    rw [if_neg (o_ge0 (by omega)), e1, if_neg (show ¬ Int32.ofNat N ≤ Int32.ofNat k by rw [o_le (by omega) (by omega)]; omega), if_pos (show Int32.ofNat k < 4 from (o_lt (b := 4) (by omega) (by omega)).mpr (by omega)), gin_o (by omega) (by omega), i32n (show k < 2147483648 by omega), h5 k (by omega), bnd_of at1, bnd_of fi, mto_some, if_pos (show Int32.ofNat k < 5 from (o_lt (b := 5) (by omega) (by omega)).mpr (by omega)), gin_o (by omega) (by omega), bnw_of w1, gin_o (by omega) (by omega), bnd_of hsd, w2.1, bnd_of (show fX9_chanceBy Z 139 (Int32.ofNat (aiA r i (kd i) (vd i) G)) (Int32.ofNat (ntA r i (kd i) G)) W = some (Int32.ofNat (cnA r i (kd i) (vd i) G)) from w2.ch hA2 hN2), show W.1 o 0 = Int32.ofNat i from (c2.c hcW).2.2.2.1, eshs]
    by_cases z : cnA r i (kd i) (vd i) G = 0
    · rw [if_pos (show Int32.ofNat (cnA r i (kd i) (vd i) G) ≤ 0 by rw [z]; decide)]
      obtain ⟨X', x1, x2⟩ := fall W _ hWo hRT
      refine ⟨X', x1, x2.ext fun j => ?_⟩
      show 0 + Dd G kd vd _ _ _ _ j = Dd G kd vd _ _ _ (w * cnA r i (kd i) (vd i) G) j + Dd G kd vd _ _ _ _ j
      have e0 : ∀ L r' g', Dd G kd vd L r' g' (w * cnA r i (kd i) (vd i) G) j = 0 := fun L r' g' => by rw [z, Nat.mul_zero, Dd_0]
      rw [e0]
      rfl
    · rw [if_neg (show ¬ Int32.ofNat (cnA r i (kd i) (vd i) G) ≤ 0 from fun y => by have := (o_le (b := 0) (by omega) (by omega)).mp y; omega)]
      obtain ⟨V', x4, x5⟩ := branch true (g + 1) (w * cnA r i (kd i) (vd i) G) W (by omega) hWo.1 hWo.2.1 hRT
      rw [e3, o_64 (by omega), l_mul, bnw_of (show fX11_goOn Z (fX11_spreadN Z m) (Int32.ofNat k) (Int32.ofNat i) (Int32.ofNat (aiA r i (kd i) (vd i) G)) 1 _ _ W = _ from x4)]
      obtain ⟨X', y1, y2⟩ := fall V' _ (hWo.trans x5) (hRT.eq (by rw [x5.2.2.2.2.1 _ (by omega) (by omega)]) (by rw [x5.2.2.2.2.1 _ (by omega) (by omega)]) (fun q a b => x5.2.2.2.2.1 _ (by omega) (by omega)))
      refine ⟨X', y1, y2.ext fun j => ?_⟩
      show 0 + Dd G kd vd _ _ _ _ j + Dd G kd vd _ _ _ _ j = Dd G kd vd _ _ _ (w * cnA r i (kd i) (vd i) G) j + Dd G kd vd _ _ _ _ j
      rw [Nat.zero_add]
      rfl
