set_option maxHeartbeats 40000000
set_option maxRecDepth 100000
/-! judge, shift -/
theorem judge_lp {Z : XS} {Xc Xm : XD} {n m t l j : Nat} {r : Rnd} (h : RB Z Xc Xm n m r) (ht : t < 6) (hl : l ≤ 60) (hj : j < l) (c2 : Xc.1 152 t = Int32.ofNat l) (m2 : Xm.1 40 t = Int32.ofNat l) (m1 : Xm.1 39 t = 0) (it : ∀ p, p < 60 → Xc.2 (145 + t) p = Xm.2 41 (60 * t + p)) : ∀ (d k q1 q2 : Nat), k + d = n → d < q1 → d < q2 → ∃ a, fX11_judge_34 Z q1 (Int32.ofNat t) (Int32.ofNat j) (Int32.ofNat k) Xc = some a ∧ fX12_judge_24 q2 (Int32.ofNat t) (Int32.ofNat j) (Int32.ofNat k) Xm = some a := by
  have hn := h.2.1.1
  have g6 : ∀ {α : Type} (x : Option α), gin (Int32.ofNat t) 6 x = x := fun x => gin_o (by omega) (by omega)
  intro d
  induction d with
  | zero =>
    intro k q1 q2 h1 h2 h3
    obtain ⟨q1, rfl⟩ : ∃ q, q1 = q + 1 := ⟨q1 - 1, by omega⟩
    obtain ⟨q2, rfl⟩ : ∃ q, q2 = q + 1 := ⟨q2 - 1, by omega⟩
    rw [fX11_judge_34_s, fX12_judge_24_s, h.2.1.2.1, h.2.1.2.2.1, if_pos ((o_le (by omega) (by omega)).mpr (by omega)), if_pos ((o_le (by omega) (by omega)).mpr (by omega))]
    exact ⟨_, rfl, rfl⟩
  | succ d ih =>
    intro k q1 q2 h1 h2 h3
    obtain ⟨q1, rfl⟩ : ∃ q, q1 = q + 1 := ⟨q1 - 1, by omega⟩
    obtain ⟨q2, rfl⟩ : ∃ q, q2 = q + 1 := ⟨q2 - 1, by omega⟩
    have nk : ¬ Int32.ofNat n ≤ Int32.ofNat k := by rw [o_le (by omega) (by omega)]; omega
    have ek : Int32.ofNat k + 1 = Int32.ofNat (k + 1) := o_add k 1
    have p1 : fX11_hasPlace Z (Int32.ofNat t) (Int32.ofNat j) Xc = some 1 := by
      rcases place_cases (Z := Z) (Xc := Xc) ht hl c2 (Int32.ofNat j) with ⟨p0, -, -⟩ | ⟨j', -, -, p, -⟩
      · rcases p0 with p0 | p0
        · exact absurd p0 (o_ge0 (by omega))
        · have := (o_le (by omega) (by omega)).mp p0; omega
      · exact p
    rw [fX11_judge_34_s, fX12_judge_24_s, h.2.1.2.1, h.2.1.2.2.1, if_neg nk, if_neg nk, bnd_of p1, if_neg ne10]
    simp only [g6]
    rw [i32n (show t < 2147483648 by omega), m1, if_neg (show ¬ (0 : Int32) < 0 by decide), if_neg (o_ge0 (by omega)), m2, o_add]
    have cond : (Int32.ofNat j ≤ Int32.ofNat l - Int32.ofNat k - 1) ↔ j + k < l := by
      rw [Int32.le_iff_toInt_le, i32_ofN (by omega)]
      have e1 : (Int32.ofNat l - Int32.ofNat k).toInt = (l : Int) - k := by
        rw [Int32.toInt_sub, i32_ofN (by omega), i32_ofN (by omega)]
        exact Int.bmod_eq_of_le (by omega) (by omega)
      have e2 : (Int32.ofNat l - Int32.ofNat k - 1).toInt = (l : Int) - k - 1 := by
        rw [Int32.toInt_sub, e1, show (1 : Int32).toInt = 1 from rfl]
        exact Int.bmod_eq_of_le (by omega) (by omega)
      rw [e2]
      omega
    rcases place_cases (Z := Z) (Xc := Xc) ht hl c2 (Int32.ofNat (j + k)) with ⟨p0, p2, -⟩ | ⟨j', hj', ej, p2, -⟩
    · have hge : l ≤ j + k := by
        rcases p0 with p0 | p0
        · exact absurd p0 (o_ge0 (by omega))
        · exact (o_le (by omega) (by omega)).mp p0
      rw [bnd_of p2, if_pos rfl, if_neg (fun y => by have := cond.mp y; omega)]
      exact ⟨_, rfl, rfl⟩
    · have ej : j + k = j' := (o_eq (by omega) (by omega)).mp ej
      have h60 : (60 : Int32) * Int32.ofNat t + Int32.ofNat j + Int32.ofNat k = Int32.ofNat (60 * t + (j + k)) := by rw [show (60 : Int32) * Int32.ofNat t = Int32.ofNat (60 * t) from o_mul (a := 60), o_add, o_add, Nat.add_assoc]
      rw [bnd_of p2, if_neg ne10, if_pos (cond.mpr (by omega)), h60, gin_o (by omega) (by omega), gin_o (by omega) (by omega), gin_o (by omega) (by omega), i32n (by omega), i32n (by omega), i32n (by omega), it (j + k) (by omega), bnd_of (lastOf_r h.2.2.1.1 (show k < 6 by omega)), h.2.2.1.2.1.1 k (by omega)]
      by_cases z : lg_cmp (Xm.2 41 (60 * t + (j + k))) (Int32.ofNat (rL r k)).toInt64 = 0
      · rw [if_pos z, if_pos z, nm_eq, nm_eq, ek]
        exact ih (k + 1) q1 q2 (by omega) (by omega) (by omega)
      · rw [if_neg z, if_neg z]
        exact ⟨_, rfl, rfl⟩
theorem st26 : St26 Rel := by
  intro Z Xc Xm a1 a2 ⟨n, m, r, h⟩
  have hn := h.2.1.1
  unfold fX11_judge fX12_judge fX11_judge_32
  rcases tape_cases (Z := Z) a1 with ⟨s1, s2⟩ | ⟨t, ht, rfl, s1, s2⟩
  · rw [bnd_of (s1 _), bnd_of (s2 _)]
    exact ⟨_, rfl, rfl, n, m, r, h⟩
  obtain ⟨e1, e2, ⟨l, hl, e3, e4⟩, e5⟩ := h.2.2.2.2.2.2.2.2.1 t ht
  have g6 : ∀ {α : Type} (x : Option α), gin (Int32.ofNat t) 6 x = x := fun x => gin_o (by omega) (by omega)
  rw [bnd_of (s1 _), bnd_of (s2 _), if_neg ne10, if_neg ne10]
  simp only [g6]
  rw [i32n (by omega), e1]
  obtain ⟨m', hm'⟩ : ∃ m, FU = m + 1 := ⟨999999, rfl⟩
  have none_there : (a2 < 0 ∨ Int32.ofNat l ≤ a2) → (Xm.1 39 t < 0 ∨ Xm.1 39 t = 0) → ∃ a, fX11_judge_34 Z FU (Int32.ofNat t) a2 0 Xc = some a ∧ fX12_judge_24 FU (Int32.ofNat t) a2 0 Xm = some a := by
    intro ho hs
    rw [hm', fX11_judge_34_s, fX12_judge_24_s, h.2.1.2.1, h.2.1.2.2.1]
    by_cases z : Int32.ofNat n ≤ 0
    · rw [if_pos z, if_pos z]; exact ⟨_, rfl, rfl⟩
    · have p1 : fX11_hasPlace Z (Int32.ofNat t) a2 Xc = some 0 := by
        rcases place_cases (Z := Z) (Xc := Xc) ht hl (e2.trans e3) a2 with ⟨-, p, -⟩ | ⟨j, hj, rfl, -, -⟩
        · exact p
        · rcases ho with ho | ho
          · exact absurd ho (o_ge0 (by omega))
          · have := (o_le (by omega) (by omega)).mp ho; omega
      rw [if_neg z, if_neg z, bnd_of p1, if_pos rfl, g6, i32n (by omega), e3]
      refine ⟨_, rfl, ?_⟩
      by_cases y : Xm.1 39 t < 0
      · rw [if_pos y]
      · rw [if_neg y]
        by_cases y2 : a2 < 0
        · rw [if_pos y2]
        · have hge := ho.resolve_left y2
          rw [if_neg y2, g6, if_neg (show ¬ a2 ≤ Int32.ofNat l - 0 - 1 from fun w => by
            rw [Int32.le_iff_toInt_le, show Int32.ofNat l - 0 = Int32.ofNat l from o_sub (b := 0) (by omega), o_sub1 (by omega)] at w
            rw [Int32.le_iff_toInt_le, i32_ofN (by omega)] at hge
            omega)]
  rcases e4 with ⟨e4, e6⟩ | ⟨a, ha, e4⟩
  · rw [e4, if_pos rfl, if_pos (by decide)]
    have ho : a2 < 0 ∨ Int32.ofNat l ≤ a2 := by
      by_cases y : a2 < 0
      · exact Or.inl y
      · right
        rw [e6]
        exact le_of_not y
    obtain ⟨w, w1, w2⟩ := none_there ho (Or.inl (by rw [e4]; decide))
    exact ⟨w, w1, w2, n, m, r, h⟩
  · rw [e4, if_neg (m1_ne (by omega))]
    by_cases z : a = 0
    · rw [if_pos (show Int32.ofNat a = 0 by rw [z]; rfl), if_pos (show Int32.ofNat a ≤ 0 by rw [z]; decide)]
      rcases place_cases (Z := Z) (Xc := Xc) ht hl (e2.trans e3) a2 with ⟨p0, -, -⟩ | ⟨j, hj, rfl, -, -⟩
      · obtain ⟨w, w1, w2⟩ := none_there p0 (Or.inr (by rw [e4, z]; rfl))
        exact ⟨w, w1, w2, n, m, r, h⟩
      · obtain ⟨w, w1, w2⟩ := judge_lp h ht hl hj (e2.trans e3) e3 (by rw [e4, z]; rfl) e5 n 0 FU FU (by omega) (FU_gt (by omega)) (FU_gt (by omega))
        exact ⟨w, w1, w2, n, m, r, h⟩
    · rw [if_neg (show ¬ Int32.ofNat a = 0 from fun y => z ((o_eq (b := 0) (by omega) (by omega)).mp y)), if_neg (show ¬ Int32.ofNat a ≤ 0 from fun y => by have := (o_le (b := 0) (by omega) (by omega)).mp y; omega)]
      exact ⟨_, rfl, rfl, n, m, r, h⟩
theorem sh1_m {t o i j nn : Nat} (ht : t < 6) (ho : o < 6) (hi : i + nn ≤ 60) (hj : j + nn ≤ 60) : ∀ (d k q : Nat) (X : XD), k + d = nn → d < q → ∃ Y, fX12_shift_104 q (Int32.ofNat t) (Int32.ofNat i) (Int32.ofNat o) (Int32.ofNat j) (Int32.ofNat nn) (Int32.ofNat k) X = fX12_shift_141 FU (Int32.ofNat o) (Int32.ofNat j) (Int32.ofNat nn) 0 Y ∧ Y.1 = X.1 ∧ Y.2 41 = X.2 41 ∧ (∀ p, k ≤ p → p < nn → Y.2 42 p = X.2 41 (60 * t + i + p)) ∧ ∀ p, p < k → Y.2 42 p = X.2 42 p := by
  intro d
  induction d with
  | zero =>
    intro k q X h1 h2
    obtain ⟨q, rfl⟩ : ∃ p, q = p + 1 := ⟨q - 1, by omega⟩
    rw [fX12_shift_104_s, if_pos ((o_le (by omega) (by omega)).mpr (by omega))]
    exact ⟨X, rfl, rfl, rfl, fun p a b => by omega, fun p _ => rfl⟩
  | succ d ih =>
    intro k q X h1 h2
    obtain ⟨q, rfl⟩ : ∃ p, q = p + 1 := ⟨q - 1, by omega⟩
    obtain ⟨Y, y1, y2, y3, y4, y5⟩ := ih (k + 1) q (wJ X 42 k (X.2 41 (60 * t + i + k))) (by omega) (by omega)
    refine ⟨Y, ?_, y2, by rw [y3, wJ_c (by decide)], fun p a b => ?_, fun p a => ?_⟩
    · rw [fX12_shift_104_s, if_neg (show ¬ Int32.ofNat nn ≤ Int32.ofNat k by rw [o_le (by omega) (by omega)]; omega), show (60 : Int32) * Int32.ofNat t + Int32.ofNat i + Int32.ofNat k = Int32.ofNat (60 * t + i + k) from by rw [show (60 : Int32) * Int32.ofNat t = Int32.ofNat (60 * t) from o_mul (a := 60), o_add, o_add], gin_o (by omega) (by omega), gin_o (by omega) (by omega), nm_eq, nm_eq, i32n (by omega), i32n (by omega), show Int32.ofNat k + 1 = Int32.ofNat (k + 1) from o_add k 1]
      exact y1
    · by_cases z : p = k
      · rw [y5 p (by omega), z, wJ_s]
      · rw [y4 p (by omega) b, wJ_c (by decide)]
    · rw [y5 p (by omega), wJ_k (by omega)]
theorem sh2_m {o j nn : Nat} (ho : o < 6) (hj : j + nn ≤ 60) : ∀ (d k q : Nat) (X : XD), k + d = nn → d < q → ∃ Y, fX12_shift_141 q (Int32.ofNat o) (Int32.ofNat j) (Int32.ofNat nn) (Int32.ofNat k) X = some (Int32.ofNat nn, Y) ∧ Y.1 = X.1 ∧ (∀ p, k ≤ p → p < nn → Y.2 41 (60 * o + j + p) = X.2 42 p) ∧ ∀ p, (p < 60 * o + j + k ∨ 60 * o + j + nn ≤ p) → Y.2 41 p = X.2 41 p := by
  intro d
  induction d with
  | zero =>
    intro k q X h1 h2
    obtain ⟨q, rfl⟩ : ∃ p, q = p + 1 := ⟨q - 1, by omega⟩
    rw [fX12_shift_141_s, if_pos ((o_le (by omega) (by omega)).mpr (by omega))]
    exact ⟨X, rfl, rfl, fun p a b => by omega, fun p _ => rfl⟩
  | succ d ih =>
    intro k q X h1 h2
    obtain ⟨q, rfl⟩ : ∃ p, q = p + 1 := ⟨q - 1, by omega⟩
    obtain ⟨Y, y1, y2, y3, y4⟩ := ih (k + 1) q (wJ X 41 (60 * o + j + k) (X.2 42 k)) (by omega) (by omega)
    refine ⟨Y, ?_, y2, fun p a b => ?_, fun p a => ?_⟩
    · rw [fX12_shift_141_s, if_neg (show ¬ Int32.ofNat nn ≤ Int32.ofNat k by rw [o_le (by omega) (by omega)]; omega), gin_o (by omega) (by omega), show (60 : Int32) * Int32.ofNat o + Int32.ofNat j + Int32.ofNat k = Int32.ofNat (60 * o + j + k) from by rw [show (60 : Int32) * Int32.ofNat o = Int32.ofNat (60 * o) from o_mul (a := 60), o_add, o_add], gin_o (by omega) (by omega), nm_eq, nm_eq, i32n (by omega), i32n (by omega), show Int32.ofNat k + 1 = Int32.ofNat (k + 1) from o_add k 1]
      exact y1
    · by_cases z : p = k
      · rw [y4 _ (by omega), z, wJ_s]
      · rw [y3 p (by omega) b, wJ_c (by decide)]
    · rw [y4 p (by omega), wJ_k (by omega)]
theorem part_cases {Z : XS} {Xc : XD} {t l : Nat} (ht : t < 6) (hl : l ≤ 60) (hs : Xc.1 152 t = Int32.ofNat l) (x y : Int32) : (fX11_hasPart Z (Int32.ofNat t) x y Xc = some 0 ∧ (y < 0 ∨ x < 0 ∨ (¬ y < 0 ∧ ¬ x < 0 ∧ Int32.ofNat l - y < x))) ∨ ∃ i k, i + k ≤ l ∧ x = Int32.ofNat i ∧ y = Int32.ofNat k ∧ fX11_hasPart Z (Int32.ofNat t) x y Xc = some 1 ∧ ¬ Int32.ofNat l - y < x := by
  have g6 : ∀ {α : Type} (x : Option α), gin (Int32.ofNat t) 6 x = x := fun x => gin_o (by omega) (by omega)
  have n6 : (Int32.ofNat t).toNatClampNeg = t := i32n (by omega)
  unfold fX11_hasPart
  rw [g6, n6, hs]
  by_cases q : y < 0
  · exact Or.inl ⟨by rw [if_pos q], Or.inl q⟩
  by_cases q2 : x < 0
  · exact Or.inl ⟨by rw [if_neg q, if_pos q2], Or.inr (Or.inl q2)⟩
  obtain ⟨i, hi, rfl⟩ := o_of q2
  obtain ⟨k, hk, rfl⟩ := o_of q
  have eS : (Int32.ofNat l - Int32.ofNat k).toInt = (l : Int) - k := by
    rw [Int32.toInt_sub, i32_ofN (by omega), i32_ofN (by omega)]
    exact Int.bmod_eq_of_le (by omega) (by omega)
  have cS : (Int32.ofNat l - Int32.ofNat k < Int32.ofNat i) ↔ l < i + k := by
    rw [Int32.lt_iff_toInt_lt, eS, i32_ofN hi]
    omega
  rw [if_neg q, if_neg q2]
  by_cases z : Int32.ofNat l < Int32.ofNat k
  · refine Or.inl ⟨by rw [if_pos z], Or.inr (Or.inr ⟨q, q2, cS.mpr ?_⟩)⟩
    have := (o_lt (by omega) hk).mp z
    omega
  rw [if_neg z, g6]
  by_cases w : Int32.ofNat l - Int32.ofNat k < Int32.ofNat i
  · exact Or.inl ⟨by rw [if_pos w], Or.inr (Or.inr ⟨q, q2, w⟩)⟩
  · exact Or.inr ⟨i, k, by have := mt cS.mpr w; omega, rfl, rfl, by rw [if_neg w], w⟩
theorem st36 : St36 Rel := by
  intro Z Xc Xm a1 a2 a3 a4 a5 ⟨n, m, r, h⟩
  unfold fX11_shift fX12_shift
  rcases tape_cases (Z := Z) a1 with ⟨s1, s2⟩ | ⟨t, ht, rfl, s1, s2⟩
  · rw [bnd_of (s1 _), bnd_of (s2 _)]
    exact h.fin rfl rfl eqC.rfl eqM.rfl
  rw [bnd_of (s1 _), bnd_of (s2 _), if_neg ne10, if_neg ne10]
  rcases tape_cases (Z := Z) a3 with ⟨s3, s4⟩ | ⟨o, ho, rfl, s3, s4⟩
  · rw [bnd_of (s3 _), bnd_of (s4 _)]
    exact h.fin rfl rfl eqC.rfl eqM.rfl
  obtain ⟨e1, e2, ⟨l, hl, e3, e4⟩, e5⟩ := h.2.2.2.2.2.2.2.2.1 t ht
  obtain ⟨f1, f2, ⟨p, hp, f3, f4⟩, f5⟩ := h.2.2.2.2.2.2.2.2.1 o ho
  have gt : ∀ {α : Type} (x : Option α), gin (Int32.ofNat t) 6 x = x := fun x => gin_o (by omega) (by omega)
  have go : ∀ {α : Type} (x : Option α), gin (Int32.ofNat o) 6 x = x := fun x => gin_o (by omega) (by omega)
  rw [bnd_of (s3 _), bnd_of (s4 _), if_neg ne10, if_neg ne10]
  simp only [gt, go]
  rw [i32n (show t < 2147483648 by omega), i32n (show o < 2147483648 by omega), e1, f1, e3, f3]
  rcases e4 with ⟨e4, e6⟩ | ⟨a, ha, e4⟩
  · rw [e4, if_pos rfl, if_pos (by decide)]
    exact h.fin rfl rfl eqC.rfl eqM.rfl
  rw [e4, if_neg (m1_ne (by omega)), if_neg (o_ge0 (by omega))]
  rcases f4 with ⟨f4, f6⟩ | ⟨b, hb, f4⟩
  · rw [f4, if_pos rfl, if_neg (show ¬ (0 : Int32) ≤ -1 by decide)]
    exact h.fin rfl rfl eqC.rfl eqM.rfl
  rw [f4, if_neg (m1_ne (by omega)), if_pos (show (0 : Int32) ≤ Int32.ofNat b from (o_le (a := 0) (by omega) (by omega)).mpr (by omega))]
  by_cases z : Int32.ofNat a = Int32.ofNat b
  · rw [if_pos z, if_pos z]
    rcases part_cases (Z := Z) (Xc := Xc) ht hl (e2.trans e3) a2 a5 with ⟨k1, k2⟩ | ⟨i, nn, hin, rfl, rfl, k1, k2⟩
    · rw [bnd_of k1, if_pos rfl]
      refine h.fin (a := -13) rfl ?_ eqC.rfl eqM.rfl
      by_cases w : a5 < 0
      · rw [if_pos w]
      · rw [if_neg w]
        by_cases w2 : a2 < 0
        · rw [if_pos w2]
        · rw [if_neg w2]
          by_cases w4 : a4 < 0
          · rw [if_pos w4]
          · rw [if_neg w4]
            rcases k2 with k2 | k2 | ⟨-, -, k2⟩
            · exact absurd k2 w
            · exact absurd k2 w2
            · rw [if_pos k2]
    · rw [bnd_of k1, if_neg ne10, if_neg (o_ge0 (by omega)), if_neg (o_ge0 (by omega))]
      rcases part_cases (Z := Z) (Xc := Xc) ho hp (f2.trans f3) a4 (Int32.ofNat nn) with ⟨q1, q2⟩ | ⟨j, nn', hjn, rfl, en, q1, q2⟩
      · rw [bnd_of q1, if_pos rfl]
        refine h.fin (a := -13) rfl ?_ eqC.rfl eqM.rfl
        by_cases w4 : a4 < 0
        · rw [if_pos w4]
        · rw [if_neg w4, if_neg k2]
          rcases q2 with q2 | q2 | ⟨-, -, q2⟩
          · exact absurd q2 (o_ge0 (by omega))
          · exact absurd q2 w4
          · rw [if_neg (fun y => not_lt_of q2 y)]
      · have en : nn' = nn := ((o_eq (by omega) (by omega)).mp en).symm
        subst en
        have hcp : ∀ {α : Type} (x : Option α), gcp (Int32.ofNat i) (Int32.ofNat j) (Int32.ofNat nn') 60 60 x = x := fun x => by
          unfold gcp
          rw [if_neg]
          rw [i32n (by omega), i32n (by omega), i32n (by omega)]
          intro y
          rcases y with y | y | y | y | y
          · exact o_ge0 (by omega) y
          · exact o_ge0 (by omega) y
          · exact o_ge0 (by omega) y
          · omega
          · omega
        rw [bnd_of q1, if_neg ne10, hcp, nm_eq, if_neg (o_ge0 (by omega)), if_neg k2, if_pos (le_of_not q2)]
        obtain ⟨Y, y1, y2, y3, y4, -⟩ := sh1_m (i := i) (j := j) (nn := nn') ht ho (by omega) (by omega) nn' 0 FU Xm (by omega) (FU_gt (by omega))
        obtain ⟨W, w1, w2, w3, w4⟩ := sh2_m (j := j) (nn := nn') ho (by omega) nn' 0 FU Y (by omega) (FU_gt (by omega))
        refine ⟨_, _, _, rfl, y1.trans w1, n, m, r, h.tp (fun u hu => ?_) (fun q _ => rfl) (fun q q0 _ => by rw [w2, y2]) (fun q _ => by rw [w2, y2])⟩
        obtain ⟨x1, x2, x3, x4⟩ := h.2.2.2.2.2.2.2.2.1 u hu
        rw [w2, y2]
        refine ⟨x1, x2, x3, fun c hc => ?_⟩
        show (if 145 + u = 145 + o then va_cpy (Xc.2 (145 + t)) (Xc.2 (145 + o)) (Int32.ofNat i).toNatClampNeg (Int32.ofNat j).toNatClampNeg (Int32.ofNat nn').toNatClampNeg else Xc.2 (145 + u)) c = W.2 41 (60 * u + c)
        rw [i32n (by omega), i32n (by omega), i32n (by omega)]
        by_cases zu : u = o
        · subst zu
          rw [if_pos rfl]
          unfold va_cpy
          by_cases zc : j ≤ c ∧ c < j + nn'
          · have e := w3 (c - j) (by omega) (by omega)
            rw [show 60 * u + j + (c - j) = 60 * u + c by omega] at e
            rw [if_pos zc, e, y4 (c - j) (by omega) (by omega), e5 (i + (c - j)) (by omega), Nat.add_assoc]
          · rw [if_neg zc, w4 _ (by omega), y3]
            exact f5 c hc
        · rw [if_neg (by omega), w4 _ (by omega), y3]
          exact x4 c hc
  · rw [if_neg z, if_neg z]
    exact h.fin rfl rfl eqC.rfl eqM.rfl
