set_option maxHeartbeats 40000000
set_option maxRecDepth 100000
/-! WIN -/
def oS (q : Nat) (O : Nat → Nat) : Nat → Nat := fun j => O j * (100 - q) + (if j = 0 then 0 else O (j - 1) * q)
def oN (q : Nat) : Nat → Nat → Nat
  | 0 => fun j => if j = 0 then 1 else 0
  | k + 1 => oS q (oN q k)
theorem oN_le {q : Nat} (hq : q ≤ 100) : ∀ k j, oN q k j ≤ 100 ^ k := by
  intro k
  induction k with
  | zero => intro j; show (if j = 0 then 1 else 0) ≤ 1; split <;> omega
  | succ k ih =>
    intro j
    have h1 := Nat.mul_le_mul_right (100 - q) (ih j)
    have h2 := Nat.mul_le_mul_right q (ih (j - 1))
    have e : 100 ^ k * (100 - q) + 100 ^ k * q = 100 ^ (k + 1) := by rw [← Nat.mul_add, show 100 - q + q = 100 by omega, Nat.pow_succ]
    show oN q k j * (100 - q) + (if j = 0 then 0 else oN q k (j - 1) * q) ≤ 100 ^ (k + 1)
    split <;> omega
theorem oN_hi {q : Nat} : ∀ k j, k < j → oN q k j = 0 := by
  intro k
  induction k with
  | zero => intro j h; show (if j = 0 then 1 else 0) = 0; rw [if_neg (by omega)]
  | succ k ih =>
    intro j h
    show oN q k j * (100 - q) + (if j = 0 then 0 else oN q k (j - 1) * q) = 0
    rw [ih j (by omega), ih (j - 1) (by omega), Nat.zero_mul, Nat.zero_mul]
    split <;> rfl
theorem oin_c {Z : XS} {q N i : Nat} {O : Nat → Nat} (hq : q ≤ 100) (kk : Int32 → Int32 → Int32 → XD → Option (Unit × XD)) : ∀ (d n : Nat) (X : XD), d ≤ 4 → d < n → (∀ j, j < 5 → X.2 154 j = Int64.ofNat (if d < j then oS q O j else O j)) → ∃ Y, fX11_reckonOthers_31 Z kk n (Int32.ofNat q) (Int32.ofNat N) (Int32.ofNat i) (Int32.ofNat d) X = kk (Int32.ofNat q) (Int32.ofNat N) (Int32.ofNat (i + 1)) Y ∧ Y.1 = X.1 ∧ (∀ p, p ≠ 154 → Y.2 p = X.2 p) ∧ ∀ j, j < 5 → Y.2 154 j = Int64.ofNat (oS q O j) := by
  have e100 : ((100 : Int32) - Int32.ofNat q).toInt64 = Int64.ofNat (100 - q) := by rw [show (100 : Int32) - Int32.ofNat q = Int32.ofNat (100 - q) from o_sub (a := 100) hq, o_64 (by omega)]
  have g0 : ∀ {α : Type} (x : Option α), gin (0 : Int32) 5 x = x := fun x => gin_o (k := 0) (by decide) (by decide)
  have n0 : (0 : Int32).toNatClampNeg = 0 := i32n (k := 0) (by decide)
  intro d
  induction d with
  | zero =>
    intro n X h1 h2 h3
    obtain ⟨n, rfl⟩ : ∃ q, n = q + 1 := ⟨n - 1, by omega⟩
    have a0 : X.2 154 0 = Int64.ofNat (O 0) := h3 0 (by decide)
    rw [fX11_reckonOthers_31_s, if_pos (show Int32.ofNat 0 ≤ 0 by decide), g0, g0, n0, nm_eq, nm_eq, a0, e100, l_mul, show Int32.ofNat i + 1 = Int32.ofNat (i + 1) from o_add i 1]
    refine ⟨_, rfl, rfl, fun p hp => wJ_c hp, fun j hj => ?_⟩
    by_cases e : j = 0
    · subst e; rw [wJ_s]; rfl
    · rw [wJ_k e, h3 j hj, if_pos (by omega)]
  | succ d ih =>
    intro n X h1 h2 h3
    obtain ⟨n, rfl⟩ : ∃ q, n = q + 1 := ⟨n - 1, by omega⟩
    have a1 : X.2 154 (d + 1) = Int64.ofNat (O (d + 1)) := by rw [h3 _ (by omega), if_neg (by omega)]
    have a2 : X.2 154 d = Int64.ofNat (O d) := by rw [h3 _ (by omega), if_neg (by omega)]
    obtain ⟨Y, y1, y2, y3, y4⟩ := ih n (wJ X 154 (d + 1) (Int64.ofNat (oS q O (d + 1)))) (by omega) (by omega) (fun j hj => by
      by_cases e : j = d + 1
      · subst e; rw [wJ_s, if_pos (by omega)]
      · rw [wJ_k e, h3 j hj]
        by_cases e2 : d < j
        · rw [if_pos (by omega), if_pos e2]
        · rw [if_neg (by omega), if_neg e2])
    refine ⟨Y, ?_, y2, fun p hp => by rw [y3 p hp, wJ_c hp], y4⟩
    rw [fX11_reckonOthers_31_s, if_neg (show ¬ Int32.ofNat (d + 1) ≤ 0 from fun z => by have := (o_le (b := 0) (by omega) (by omega)).mp z; omega), show Int32.ofNat (d + 1) - 1 = Int32.ofNat d from o_sub (b := 1) (by omega), gin_o (by omega) (by omega), gin_o (by omega) (by omega), gin_o (by omega) (by omega), nm_eq, nm_eq, i32n (by omega), i32n (by omega), a1, a2, e100, o_64 (by omega), l_mul, l_mul, l_add, show Int32.ofNat (d + 1) + -1 = Int32.ofNat d from o_addn (b := 1) (by omega)]
    exact y1
theorem oth_c {Z : XS} {q N : Nat} (hq : q ≤ 100) (hN : N ≤ 4) : ∀ (d i n : Nat) (X : XD), i + d = N → d < n → (∀ j, j < 5 → X.2 154 j = Int64.ofNat (oN q i j)) → ∃ Y, fX11_reckonOthers_17 Z n (Int32.ofNat q) (Int32.ofNat N) (Int32.ofNat i) X = some ((), Y) ∧ Y.1 = X.1 ∧ (∀ p, p ≠ 154 → Y.2 p = X.2 p) ∧ ∀ j, j < 5 → Y.2 154 j = Int64.ofNat (oN q N j) := by
  intro d
  induction d with
  | zero =>
    intro i n X h1 h2 h3
    obtain ⟨n, rfl⟩ : ∃ q, n = q + 1 := ⟨n - 1, by omega⟩
    have h1 : i = N := h1
    subst h1
    rw [fX11_reckonOthers_17_s, if_pos (Int32.le_refl _)]
    exact ⟨X, rfl, rfl, fun p _ => rfl, h3⟩
  | succ d ih =>
    intro i n X h1 h2 h3
    obtain ⟨n, rfl⟩ : ∃ q, n = q + 1 := ⟨n - 1, by omega⟩
    obtain ⟨Y, y1, y2, y3, y4⟩ := oin_c (Z := Z) (N := N) (i := i) (O := oN q i) hq (fX11_reckonOthers_17 Z n) 4 FU X (by decide) (FU_gt (by decide)) (fun j hj => by rw [if_neg (by omega)]; exact h3 j hj)
    obtain ⟨W, w1, w2, w3, w4⟩ := ih (i + 1) n Y (by omega) (by omega) y4
    rw [fX11_reckonOthers_17_s, if_neg (show ¬ Int32.ofNat N ≤ Int32.ofNat i by rw [o_le (by omega) (by omega)]; omega), nm_eq, show (5 : Int32) - 1 = Int32.ofNat 4 from rfl]
    exact ⟨W, y1.trans w1, w2.trans y2, fun p hp => (w3 p hp).trans (y3 p hp), w4⟩
theorem oin_m {q i : Nat} {O : Nat → Nat} (hq : q ≤ 100) (kk : Int32 → Int32 → XD → Option (Unit × XD)) : ∀ (d n : Nat) (X : XD), d ≤ 5 → d < n → (∀ j, j < 5 → X.2 24 j = Int64.ofNat (if d ≤ j then oS q O j else O j)) → ∃ Y, fX12_layOthers_40 kk n (Int32.ofNat q) (Int32.ofNat i) (Int32.ofNat d - 1) X = kk (Int32.ofNat q) (Int32.ofNat (i + 1)) Y ∧ Y.1 = X.1 ∧ (∀ p, p ≠ 24 → Y.2 p = X.2 p) ∧ ∀ j, j < 5 → Y.2 24 j = Int64.ofNat (oS q O j) := by
  have e100 : ((100 : Int32) - Int32.ofNat q).toInt64 = Int64.ofNat (100 - q) := by rw [show (100 : Int32) - Int32.ofNat q = Int32.ofNat (100 - q) from o_sub (a := 100) hq, o_64 (by omega)]
  intro d
  induction d with
  | zero =>
    intro n X h1 h2 h3
    obtain ⟨n, rfl⟩ : ∃ q, n = q + 1 := ⟨n - 1, by omega⟩
    rw [fX12_layOthers_40_s, if_pos (show Int32.ofNat 0 - 1 < 0 by decide), nm_eq, show Int32.ofNat i + 1 = Int32.ofNat (i + 1) from o_add i 1]
    exact ⟨X, rfl, rfl, fun p _ => rfl, fun j hj => by rw [h3 j hj, if_pos (Nat.zero_le _)]⟩
  | succ d ih =>
    intro n X h1 h2 h3
    obtain ⟨n, rfl⟩ : ∃ q, n = q + 1 := ⟨n - 1, by omega⟩
    have a1 : X.2 24 d = Int64.ofNat (O d) := by rw [h3 _ (by omega), if_neg (by omega)]
    obtain ⟨Y, y1, y2, y3, y4⟩ := ih n (wJ X 24 d (Int64.ofNat (oS q O d))) (by omega) (by omega) (fun j hj => by
      by_cases e : j = d
      · subst e; rw [wJ_s, if_pos (Nat.le_refl _)]
      · rw [wJ_k e, h3 j hj]
        by_cases e2 : d ≤ j
        · rw [if_pos (by omega), if_pos e2]
        · rw [if_neg (by omega), if_neg e2])
    refine ⟨Y, ?_, y2, fun p hp => by rw [y3 p hp, wJ_c hp], y4⟩
    rw [fX12_layOthers_40_s, show Int32.ofNat (d + 1) - 1 = Int32.ofNat d from o_sub (b := 1) (by omega), if_neg (o_ge0 (by omega)), gin_o (by omega) (by omega), i32n (by omega), a1, e100, l_mul]
    have fin : ∀ s : Nat, oS q O d = O d * (100 - q) + s → fX12_layOthers_80 kk (fX12_layOthers_40 kk n) (Int32.ofNat q) (Int32.ofNat i) (Int32.ofNat d) (Int64.ofNat s) (Int64.ofNat (O d * (100 - q))) (Int32.ofNat d) X = kk (Int32.ofNat q) (Int32.ofNat (i + 1)) Y := by
      intro s hs
      unfold fX12_layOthers_80
      rw [gin_o (by omega) (by omega), nm_eq, nm_eq, i32n (by omega), l_add, ← hs, show Int32.ofNat d + -1 = Int32.ofNat d - 1 from (Int32.sub_eq_add_neg _ _).symm]
      exact y1
    by_cases z : d = 0
    · subst z
      rw [if_pos (by decide)]
      exact fin 0 rfl
    · have a2 : X.2 24 (d - 1) = Int64.ofNat (O (d - 1)) := by rw [h3 _ (by omega), if_neg (by omega)]
      rw [if_neg (show ¬ Int32.ofNat d = 0 from fun y => z ((o_eq (b := 0) (by omega) (by omega)).mp y)), show Int32.ofNat d - 1 = Int32.ofNat (d - 1) from o_sub (b := 1) (by omega), gin_o (by omega) (by omega), i32n (by omega), a2, o_64 (by omega), l_mul]
      exact fin _ (by show _ + (if d = 0 then 0 else _) = _; rw [if_neg z])
theorem oth_m {q N : Nat} (hq : q ≤ 100) (hN : N ≤ 4) : ∀ (d i n : Nat) (X : XD), i + d = N → d < n → X.1 0 32 = Int32.ofNat N → (∀ j, j < 5 → X.2 24 j = Int64.ofNat (oN q i j)) → ∃ Y, fX12_layOthers_30 n (Int32.ofNat q) (Int32.ofNat i) X = some ((), Y) ∧ Y.1 = X.1 ∧ (∀ p, p ≠ 24 → Y.2 p = X.2 p) ∧ ∀ j, j < 5 → Y.2 24 j = Int64.ofNat (oN q N j) := by
  intro d
  induction d with
  | zero =>
    intro i n X h1 h2 h0 h3
    obtain ⟨n, rfl⟩ : ∃ q, n = q + 1 := ⟨n - 1, by omega⟩
    have h1 : i = N := h1
    subst h1
    rw [fX12_layOthers_30_s, h0, if_pos (Int32.le_refl _)]
    exact ⟨X, rfl, rfl, fun p _ => rfl, h3⟩
  | succ d ih =>
    intro i n X h1 h2 h0 h3
    obtain ⟨n, rfl⟩ : ∃ q, n = q + 1 := ⟨n - 1, by omega⟩
    obtain ⟨Y, y1, y2, y3, y4⟩ := oin_m (i := i) (O := oN q i) hq (fX12_layOthers_30 n) 5 FU X (by decide) (FU_gt (by decide)) (fun j hj => by rw [if_neg (by omega)]; exact h3 j hj)
    obtain ⟨W, w1, w2, w3, w4⟩ := ih (i + 1) n Y (by omega) (by omega) (by rw [y2]; exact h0) y4
    rw [fX12_layOthers_30_s, h0, if_neg (show ¬ Int32.ofNat N ≤ Int32.ofNat i by rw [o_le (by omega) (by omega)]; omega), show (4 : Int32) = Int32.ofNat 5 - 1 from rfl]
    exact ⟨W, y1.trans w1, w2.trans y2, fun p hp => (w3 p hp).trans (y3 p hp), w4⟩
theorem others_c {Z : XS} {X : XD} {q N : Nat} (h154 : sL Z 154 = 5) (hq : q ≤ 100) (hN : N ≤ 4) : ∃ Y, fX11_reckonOthers Z (Int32.ofNat q) (Int32.ofNat N) X = some ((), Y) ∧ Y.1 = X.1 ∧ (∀ p, p ≠ 154 → Y.2 p = X.2 p) ∧ ∀ j, j < 5 → Y.2 154 j = Int64.ofNat (oN q N j) := by
  obtain ⟨Y, y1, y2, y3, y4⟩ := oth_c (Z := Z) hq hN N 0 FU (wJ (fillJ X 154 5 0) 154 0 1) (by omega) (FU_gt (by omega)) (fun j hj => by
    by_cases e : j = 0
    · subst e; rw [wJ_s]; rfl
    · rw [wJ_k e, fillJ_in hj]; show _ = Int64.ofNat (if j = 0 then 1 else 0); rw [if_neg e]; rfl)
  refine ⟨Y, ?_, y2, fun p hp => by rw [y3 p hp, wJ_c hp]; exact fillJ_o hp, y4⟩
  unfold fX11_reckonOthers
  rw [bnw_of (fillJ_eq (by decide) h154), show gin (0 : Int32) 5 = fun x => x from funext fun x => gin_o (k := 0) (by decide) (by decide), nm_eq, show (0 : Int32).toNatClampNeg = 0 from i32n (k := 0) (by decide)]
  exact y1
theorem others_m {X : XD} {q N : Nat} (hq : q ≤ 100) (hN : N ≤ 4) (h0 : X.1 0 32 = Int32.ofNat N) : ∃ Y, fX12_layOthers (Int32.ofNat q) X = some ((), Y) ∧ Y.1 = X.1 ∧ (∀ p, p ≠ 24 → Y.2 p = X.2 p) ∧ ∀ j, j < 5 → Y.2 24 j = Int64.ofNat (oN q N j) := by
  have lp : ∀ (d i n : Nat) (V : XD), i + d = 5 → d < n → V.1 = X.1 → (∀ p, p ≠ 24 → V.2 p = X.2 p) → (∀ j, j < i → V.2 24 j = Int64.ofNat (oN q 0 j)) → ∃ W, fX12_layOthers_2 n (Int32.ofNat q) (Int32.ofNat i) V = fX12_layOthers_30 FU (Int32.ofNat q) 0 W ∧ W.1 = X.1 ∧ (∀ p, p ≠ 24 → W.2 p = X.2 p) ∧ ∀ j, j < 5 → W.2 24 j = Int64.ofNat (oN q 0 j) := by
    intro d
    induction d with
    | zero =>
      intro i n V h1 h2 h3 h4 h5
      obtain ⟨n, rfl⟩ : ∃ q, n = q + 1 := ⟨n - 1, by omega⟩
      rw [fX12_layOthers_2_s, if_pos (show (5 : Int32) ≤ Int32.ofNat i from (o_le (a := 5) (by omega) (by omega)).mpr (by omega))]
      exact ⟨V, rfl, h3, h4, fun j hj => h5 j (by omega)⟩
    | succ d ih =>
      intro i n V h1 h2 h3 h4 h5
      obtain ⟨n, rfl⟩ : ∃ q, n = q + 1 := ⟨n - 1, by omega⟩
      obtain ⟨W, w1, w2⟩ := ih (i + 1) n (wJ V 24 i (Int64.ofNat (if i = 0 then 1 else 0))) (by omega) (by omega) h3 (fun p hp => by rw [wJ_c hp]; exact h4 p hp) (fun j hj => by
        by_cases e : j = i
        · subst e; rw [wJ_s]; rfl
        · rw [wJ_k e]; exact h5 j (by omega))
      refine ⟨W, ?_, w2⟩
      rw [fX12_layOthers_2_s, if_neg (show ¬ (5 : Int32) ≤ Int32.ofNat i from fun z => by have := (o_le (a := 5) (by omega) (by omega)).mp z; omega)]
      unfold fX12_layOthers_21
      rw [gin_o (by omega) (by omega), gin_o (by omega) (by omega), nm_eq, nm_eq, nm_eq, nm_eq, i32n (by omega), show Int32.ofNat i + 1 = Int32.ofNat (i + 1) from o_add i 1]
      by_cases z : i = 0
      · rw [if_pos (show Int32.ofNat i = 0 by rw [z]; rfl)]
        rw [if_pos z] at w1
        exact w1
      · rw [if_neg (show ¬ Int32.ofNat i = 0 from fun y => z ((o_eq (b := 0) (by omega) (by omega)).mp y))]
        rw [if_neg z] at w1
        exact w1
  obtain ⟨W, w1, w2, w3, w4⟩ := lp 5 0 FU X rfl (FU_gt (by decide)) rfl (fun p _ => rfl) (fun j hj => absurd hj (Nat.not_lt_zero j))
  obtain ⟨Y, y1, y2, y3, y4⟩ := oth_m hq hN N 0 FU W (by omega) (FU_gt (by omega)) (by rw [w2]; exact h0) w4
  refine ⟨Y, ?_, y2.trans w2, fun p hp => (y3 p hp).trans (w3 p hp), y4⟩
  unfold fX12_layOthers
  exact w1.trans y1
/-! the sums -/
def sF (t : Nat → Nat) : Nat → Nat → Nat
  | _, 0 => 0
  | b, d + 1 => t b + sF t (b + 1) d
def tW (x : Bool) (P O : Nat → Nat) (a b : Nat) : Nat := if x then (if b < a then P a * O b else 0) else (if a = b then P a * O b else 0)
theorem win_in {X : XD} {x : Bool} {x3 : Int32} {N a : Nat} {P O : Nat → Nat} (hN : N ≤ 4) (ha : a ≤ 4) (h0 : X.1 0 32 = Int32.ofNat N) (hP : ∀ j, j < 5 → X.2 23 j = Int64.ofNat (P j)) (hO : ∀ j, j < 5 → X.2 24 j = Int64.ofNat (O j)) (kk : Int32 → Int32 → Int64 → Int32 → XD → Option (Int64 × XD)) : ∀ (d b n acc : Nat), b + d = N + 1 → d < n → fX12_win_62 kk n (if x then 0 else 1) x3 (Int64.ofNat acc) (Int32.ofNat a) (Int32.ofNat b) X = kk (if x then 0 else 1) x3 (Int64.ofNat (acc + sF (tW x P O a) b d)) (Int32.ofNat (a + 1)) X := by
  intro d
  induction d with
  | zero =>
    intro b n acc h1 h2
    obtain ⟨n, rfl⟩ : ∃ q, n = q + 1 := ⟨n - 1, by omega⟩
    rw [fX12_win_62_s, h0, if_pos ((o_lt (by omega) (by omega)).mpr (by omega)), nm_eq, show Int32.ofNat a + 1 = Int32.ofNat (a + 1) from o_add a 1]
    rfl
  | succ d ih =>
    intro b n acc h1 h2
    obtain ⟨n, rfl⟩ : ∃ q, n = q + 1 := ⟨n - 1, by omega⟩
    have eb : Int32.ofNat b + 1 = Int32.ofNat (b + 1) := o_add b 1
    have e : sF (tW x P O a) b (d + 1) = tW x P O a b + sF (tW x P O a) (b + 1) d := rfl
    have go : ∀ s : Nat, s = tW x P O a b → fX12_win_115 kk (fX12_win_62 kk n) (if x then 0 else 1) x3 (Int32.ofNat a) (Int32.ofNat b) (Int64.ofNat s) (Int64.ofNat acc) X = kk (if x then 0 else 1) x3 (Int64.ofNat (acc + sF (tW x P O a) b (d + 1))) (Int32.ofNat (a + 1)) X := by
      intro s hs
      unfold fX12_win_115
      rw [nm_eq, nm_eq, l_add, eb, e, ← Nat.add_assoc, ← hs]
      exact ih (b + 1) n (acc + s) (by omega) (by omega)
    have go1 : P a * O b = tW x P O a b → fX12_win_96 kk (fX12_win_62 kk n) (if x then 0 else 1) x3 (Int32.ofNat a) (Int32.ofNat b) (Int64.ofNat acc) X = kk (if x then 0 else 1) x3 (Int64.ofNat (acc + sF (tW x P O a) b (d + 1))) (Int32.ofNat (a + 1)) X := by
      intro hs
      unfold fX12_win_96
      rw [gin_o (by omega) (by omega), gin_o (by omega) (by omega), i32n (by omega), i32n (by omega), hP a (by omega), hO b (by omega), l_mul]
      exact go _ hs
    have go0 : 0 = tW x P O a b → fX12_win_114 kk (fX12_win_62 kk n) (if x then 0 else 1) x3 (Int32.ofNat a) (Int32.ofNat b) (Int64.ofNat acc) X = kk (if x then 0 else 1) x3 (Int64.ofNat (acc + sF (tW x P O a) b (d + 1))) (Int32.ofNat (a + 1)) X := by
      intro hs
      unfold fX12_win_114
      exact go 0 hs
    rw [fX12_win_62_s, h0, if_neg (show ¬ Int32.ofNat N < Int32.ofNat b by rw [o_lt (by omega) (by omega)]; omega)]
    cases x with
    | true =>
      rw [if_pos (show (if true = true then (0 : Int32) else 1) = 0 from rfl)]
      by_cases z : b < a
      · rw [if_pos ((o_lt (by omega) (by omega)).mpr z)]
        exact go1 (by show _ = if b < a then _ else _; rw [if_pos z])
      · rw [if_neg (fun y => z ((o_lt (by omega) (by omega)).mp y))]
        unfold fX12_win_84
        rw [if_neg (show ¬ (if true = true then (0 : Int32) else 1) = 1 by decide)]
        exact go0 (by show _ = if b < a then _ else _; rw [if_neg z])
    | false =>
      rw [if_neg (show ¬ (if false = true then (0 : Int32) else 1) = 0 by decide)]
      unfold fX12_win_84
      rw [if_pos (show (if false = true then (0 : Int32) else 1) = 1 from rfl)]
      by_cases z : a = b
      · rw [if_pos (by rw [z])]
        exact go1 (by show _ = if a = b then _ else _; rw [if_pos z])
      · rw [if_neg (fun y => z ((o_eq (by omega) (by omega)).mp y))]
        exact go0 (by show _ = if a = b then _ else _; rw [if_neg z])
theorem win_m {X : XD} {x : Bool} {x3 : Int32} {N : Nat} {P O : Nat → Nat} (hN : N ≤ 4) (h0 : X.1 0 32 = Int32.ofNat N) (hP : ∀ j, j < 5 → X.2 23 j = Int64.ofNat (P j)) (hO : ∀ j, j < 5 → X.2 24 j = Int64.ofNat (O j)) : ∀ (d a n acc : Nat), a + d = N + 1 → d < n → fX12_win_50 n (if x then 0 else 1) x3 (Int64.ofNat acc) (Int32.ofNat a) X = bnd (fX12_lowest (Int64.ofNat (acc + sF (fun a => sF (tW x P O a) 0 (N + 1)) a d)) (Int64.ofNat (100 ^ (2 * N))) x3 X) (fun r => some (r, X)) := by
  intro d
  induction d with
  | zero =>
    intro a n acc h1 h2
    obtain ⟨n, rfl⟩ : ∃ q, n = q + 1 := ⟨n - 1, by omega⟩
    rw [fX12_win_50_s, h0, if_pos ((o_lt (by omega) (by omega)).mpr (by omega)), show (2 : Int32) * Int32.ofNat N = Int32.ofNat (2 * N) from o_mul (a := 2), bnd_of (hun_m (by omega))]
    rfl
  | succ d ih =>
    intro a n acc h1 h2
    obtain ⟨n, rfl⟩ : ∃ q, n = q + 1 := ⟨n - 1, by omega⟩
    rw [fX12_win_50_s, h0, if_neg (show ¬ Int32.ofNat N < Int32.ofNat a by rw [o_lt (by omega) (by omega)]; omega)]
    refine (win_in hN (show a ≤ 4 by omega) h0 hP hO (fX12_win_50 n) (N + 1) 0 FU acc (by omega) (FU_gt (by omega))).trans ?_
    rw [ih (a + 1) n _ (by omega) (by omega)]
    show bnd (fX12_lowest (Int64.ofNat (acc + sF (tW x P O a) 0 (N + 1) + sF _ (a + 1) d)) _ _ _) _ = bnd (fX12_lowest (Int64.ofNat (acc + (sF (tW x P O a) 0 (N + 1) + sF _ (a + 1) d))) _ _ _) _
    rw [Nat.add_assoc]
def wnM (P O : Nat → Nat) : Nat := P 1 * O 0 + P 2 * (O 0 + O 1) + P 3 * (O 0 + O 1 + O 2) + P 4 * (O 0 + O 1 + O 2 + O 3)
def wnE (P O : Nat → Nat) : Nat := P 0 * O 0 + P 1 * O 1 + P 2 * O 2 + P 3 * O 3 + P 4 * O 4
theorem win_c {Z : XS} {X : XD} {x2 x3 : Int32} {P O : Nat → Nat} (hP : ∀ j, j < 5 → X.2 153 j = Int64.ofNat (P j)) (hO : ∀ j, j < 5 → X.2 154 j = Int64.ofNat (O j)) : fX11_win_59 Z FU x2 x3 0 0 0 0 X = if x2 = 0 then fX11_win_143 Z x3 (Int64.ofNat (wnM P O)) X else fX11_win_143 Z x3 (Int64.ofNat (wnE P O)) X := by
  have st : ∀ (i n a e f : Nat), i < 5 → fX11_win_59 Z (n + 1) x2 x3 (Int64.ofNat a) (Int64.ofNat e) (Int64.ofNat f) (Int32.ofNat i) X = fX11_win_59 Z n x2 x3 (Int64.ofNat (a + P i * f)) (Int64.ofNat (e + P i * O i)) (Int64.ofNat (f + O i)) (Int32.ofNat (i + 1)) X := by
    intro i n a e f hi
    have g5 : ∀ {α : Type} (x : Option α), gin (Int32.ofNat i) 5 x = x := fun x => gin_o (by omega) (by omega)
    rw [fX11_win_59_s, if_neg (show ¬ (5 : Int32) ≤ Int32.ofNat i from fun z => by have := (o_le (a := 5) (by omega) (by omega)).mp z; omega), if_neg (show ¬ (5 : Int32) ≤ Int32.ofNat i from fun z => by have := (o_le (a := 5) (by omega) (by omega)).mp z; omega), g5, nm_eq, g5, g5, nm_eq, g5, nm_eq, nm_eq, i32n (by omega), hP i hi, hO i hi, l_mul, l_mul, l_add, l_add, l_add, show Int32.ofNat i + 1 = Int32.ofNat (i + 1) from o_add i 1]
  obtain ⟨m, hm⟩ : ∃ m, FU = m + 6 := ⟨999994, rfl⟩
  rw [hm]
  refine (st 0 (m + 5) 0 0 0 (by decide)).trans ((st 1 (m + 4) _ _ _ (by decide)).trans ((st 2 (m + 3) _ _ _ (by decide)).trans ((st 3 (m + 2) _ _ _ (by decide)).trans ((st 4 (m + 1) _ _ _ (by decide)).trans ?_))))
  rw [fX11_win_59_s, if_pos (by decide)]
  unfold fX11_win_132
  have e1 : 0 + P 0 * 0 + P 1 * (0 + O 0) + P 2 * (0 + O 0 + O 1) + P 3 * (0 + O 0 + O 1 + O 2) + P 4 * (0 + O 0 + O 1 + O 2 + O 3) = wnM P O := by
    unfold wnM
    rw [Nat.mul_zero, Nat.zero_add, Nat.zero_add]
  have e2 : 0 + P 0 * O 0 + P 1 * O 1 + P 2 * O 2 + P 3 * O 3 + P 4 * O 4 = wnE P O := by
    unfold wnE
    rw [Nat.zero_add]
  rw [e1, e2]
theorem win_sum {x : Bool} {N : Nat} {P O : Nat → Nat} (hN : N ≤ 4) (hP : ∀ j, N < j → P j = 0) (hO : ∀ j, N < j → O j = 0) : sF (fun a => sF (tW x P O a) 0 (N + 1)) 0 (N + 1) = if x then wnM P O else wnE P O := by
  rcases (show N = 0 ∨ N = 1 ∨ N = 2 ∨ N = 3 ∨ N = 4 by omega) with rfl | rfl | rfl | rfl | rfl <;> cases x
  all_goals
    try have p1 := hP 1 (by decide)
    try have p2 := hP 2 (by decide)
    try have p3 := hP 3 (by decide)
    try have p4 := hP 4 (by decide)
    simp [sF, tW, wnM, wnE, Nat.mul_add, *]
    try omega
theorem st15 : St15 Rel := by
  intro Z Xc Xm a1 a2 a3 ⟨n, m, r, h⟩
  unfold fX11_win fX12_win
  rcases rng a1 (k := 100) (by decide) with hr | ⟨q, hq, rfl⟩
  · rw [bnd_of (show fX12_in a1 0 100 Xm = some 0 from in_0 hr), if_pos rfl]
    by_cases z : a1 < 0
    · rw [if_pos z]
      exact h.fin rfl rfl eqC.rfl eqM.rfl
    · rw [if_neg z, if_pos (show (100 : Int32) < a1 from hr.resolve_left z)]
      exact h.fin rfl rfl eqC.rfl eqM.rfl
  rw [bnd_of (show fX12_in (Int32.ofNat q) 0 100 Xm = some 1 from in_1 (hi := 100) hq (by decide)), if_neg ne10, if_neg (o_ge0 (by omega)), if_neg (show ¬ (100 : Int32) < Int32.ofNat q from fun z => by have := (o_lt (a := 100) (by omega) (by omega)).mp z; omega)]
  rcases half_cases (Z := Z) a2 with ⟨-, s1, s2⟩ | ⟨hs, s1, s2⟩
  · rw [bnd_of (s1 _), bnd_of (s2 _)]
    exact h.fin rfl rfl eqC.rfl eqM.rfl
  rw [bnd_of (s1 _), bnd_of (s2 _), if_neg ne10, if_neg ne10]
  rcases half_cases (Z := Z) a3 with ⟨-, t1, t2⟩ | ⟨-, t1, t2⟩
  · rw [bnd_of (t1 _), bnd_of (t2 _)]
    exact h.fin rfl rfl eqC.rfl eqM.rfl
  rw [bnd_of (t1 _), bnd_of (t2 _), if_neg ne10, if_neg ne10]
  obtain ⟨N, P, Yc, Ym, hN, -, hP, hP0, y1, y2, y3, y4, y5, y6, y7, y8, y9⟩ := line_both h
  obtain ⟨Wc, w1, w2, w3, w4⟩ := others_c (Z := Z) (X := Yc) (lay_11_14 h.1.1).2.2.2 hq hN
  obtain ⟨Wm, v1, v2, v3, v4⟩ := others_m hq hN y7
  rw [bnw_of y1, bnw_of y2, y6, bnw_of w1, bnw_of v1, win_c (P := P) (O := oN q N) (fun j hj => by rw [w3 153 (by decide)]; exact y8 j hj) w4]
  have hb := pow100 (show 2 * N ≤ 8 by omega)
  have hp4 := pow100 (show N ≤ 8 by omega)
  have hle : 100 ^ N ≤ 100000000 := by rcases (show N = 0 ∨ N = 1 ∨ N = 2 ∨ N = 3 ∨ N = 4 by omega) with rfl | rfl | rfl | rfl | rfl <;> decide
  have bP : ∀ j, P j ≤ 100000000 := fun j => Nat.le_trans (hP j) hle
  have bO : ∀ j, oN q N j ≤ 100000000 := fun j => Nat.le_trans (oN_le hq N j) hle
  have bPO : ∀ i s, s ≤ 400000000 → P i * s ≤ 40000000000000000 := fun i s hs => Nat.le_trans (Nat.mul_le_mul (bP i) hs) (by decide)
  obtain ⟨x, hx⟩ : ∃ x : Bool, a2 = if x then 0 else 1 := by
    rcases hs with rfl | rfl
    · exact ⟨true, rfl⟩
    · exact ⟨false, rfl⟩
  have hbig : (if x then wnM P (oN q N) else wnE P (oN q N)) < 4611686018427387904 := by
    have o0 := bO 0
    have o1 := bO 1
    have o2 := bO 2
    have o3 := bO 3
    have o4 := bO 4
    cases x with
    | true =>
      show wnM P (oN q N) < _
      unfold wnM
      have := bPO 1 (oN q N 0) (by omega)
      have := bPO 2 (oN q N 0 + oN q N 1) (by omega)
      have := bPO 3 (oN q N 0 + oN q N 1 + oN q N 2) (by omega)
      have := bPO 4 (oN q N 0 + oN q N 1 + oN q N 2 + oN q N 3) (by omega)
      omega
    | false =>
      show wnE P (oN q N) < _
      unfold wnE
      have := bPO 0 (oN q N 0) (by omega)
      have := bPO 1 (oN q N 1) (by omega)
      have := bPO 2 (oN q N 2) (by omega)
      have := bPO 3 (oN q N 3) (by omega)
      have := bPO 4 (oN q N 4) (by omega)
      omega
  obtain ⟨res, e1, e2⟩ := low_both (Z := Z) (Xc := Wc) (Xm := Wm) (x := a3) (a := if x then wnM P (oN q N) else wnE P (oN q N)) (b := 100 ^ (2 * N)) hbig hb.2 (by omega)
  have hm := win_m (x := x) (x3 := a3) (P := P) (O := oN q N) hN (by rw [v2]; exact y7) (fun j hj => by rw [v3 23 (by decide)]; exact y9 j hj) v4 (N + 1) 0 FU 0 (by omega) (FU_gt (by omega))
  rw [Nat.zero_add, win_sum hN hP0 (fun j hj => oN_hi N j hj), bnd_of e2] at hm
  have hcl : ∀ s, fX11_lowest Z (Int64.ofNat s) (Int64.ofNat (100 ^ (2 * N))) a3 Wc = some res → fX11_win_143 Z a3 (Int64.ofNat s) Wc = some (res, Wc) := by
    intro s es
    unfold fX11_win_143
    rw [show Wc.1 52 1 = Int32.ofNat N by rw [w2]; exact y6, show (2 : Int32) * Int32.ofNat N = Int32.ofNat (2 * N) from o_mul (a := 2), bnd_of (hun_c (by omega)), bnd_of es]
  have hc' : (if a2 = 0 then fX11_win_143 Z a3 (Int64.ofNat (wnM P (oN q N))) Wc else fX11_win_143 Z a3 (Int64.ofNat (wnE P (oN q N))) Wc) = some (res, Wc) := by
    cases x with
    | true => rw [if_pos (by rw [hx]; rfl)]; exact hcl _ e1
    | false => rw [if_neg (by rw [hx]; decide)]; exact hcl _ e1
  have hmm : fX12_win_50 FU a2 a3 0 0 Wm = some (res, Wm) := by rw [hx]; exact hm
  exact ⟨res, Wc, Wm, hc', hmm, n, m, r, h.backB (y3.trans ⟨fun i _ => by rw [w2], fun i hi => w3 i (by omega)⟩) (y4.trans ⟨fun i _ _ _ _ _ => by rw [v2], fun k _ _ _ _ => by rw [v2], v3 41 (by decide)⟩) (y5.eq (by rw [v2]) (by rw [v2]) (fun k _ _ => by rw [v2]))⟩
