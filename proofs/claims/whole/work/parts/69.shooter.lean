set_option maxHeartbeats 40000000
set_option maxRecDepth 100000
/-! shooter -/
theorem sh91 {n : Nat} (hn : n < 6) : ∀ (d i q : Nat) (X : XD), i + d = 4 → d < q → X.1 0 0 = Int32.ofNat n → ∃ Y, fX12_shooter_91 q (Int32.ofNat i) X = some (Int32.ofNat n, Y) ∧ (∀ j, 4 * n + i ≤ j → j < 4 * n + 4 → Y.1 6 j = 0) ∧ (∀ j, j < 4 * n + i → Y.1 6 j = X.1 6 j) ∧ Y.1 0 0 = Int32.ofNat (n + 1) ∧ (∀ k, k ≠ 0 → Y.1 0 k = X.1 0 k) ∧ (∀ p, p ≠ 0 → p ≠ 6 → Y.1 p = X.1 p) ∧ Y.2 = X.2 := by
  intro d
  induction d with
  | zero =>
    intro i q X h1 h2 h0
    obtain ⟨q, rfl⟩ : ∃ p, q = p + 1 := ⟨q - 1, by omega⟩
    have e1 : Int32.ofNat n + 1 = Int32.ofNat (n + 1) := o_add n 1
    refine ⟨wI X 0 0 (Int32.ofNat (n + 1)), ?_, fun j a b => by omega, fun j _ => by rw [wI_c (by decide)], wI_s, fun k hk => wI_k hk, fun p p0 _ => wI_c p0, rfl⟩
    rw [fX12_shooter_91_s, if_pos (show (4 : Int32) ≤ Int32.ofNat i from (o_le (a := 4) (by omega) (by omega)).mpr (by omega)), nm_eq, h0, e1, wI_s, show Int32.ofNat (n + 1) - 1 = Int32.ofNat n from o_sub (b := 1) (by omega)]
  | succ d ih =>
    intro i q X h1 h2 h0
    obtain ⟨q, rfl⟩ : ∃ p, q = p + 1 := ⟨q - 1, by omega⟩
    obtain ⟨Y, y1, y2, y3, y4, y5, y6, y7⟩ := ih (i + 1) q (wI X 6 (4 * n + i) 0) (by omega) (by omega) (by rw [wI_c (by decide)]; exact h0)
    refine ⟨Y, ?_, fun j a b => ?_, fun j a => ?_, y4, fun k hk => by rw [y5 k hk, wI_c (by decide)], fun p p0 p6 => by rw [y6 p p0 p6, wI_c p6], y7⟩
    · rw [fX12_shooter_91_s, if_neg (show ¬ (4 : Int32) ≤ Int32.ofNat i from fun z => by have := (o_le (a := 4) (by omega) (by omega)).mp z; omega), h0, show (4 : Int32) * Int32.ofNat n + Int32.ofNat i = Int32.ofNat (4 * n + i) from by rw [show (4 : Int32) * Int32.ofNat n = Int32.ofNat (4 * n) from o_mul (a := 4), o_add], gin_o (by omega) (by omega), nm_eq, nm_eq, i32n (by omega), show Int32.ofNat i + 1 = Int32.ofNat (i + 1) from o_add i 1]
      exact y1
    · by_cases z : j = 4 * n + i
      · rw [y3 j (by omega), z, wI_s]
      · exact y2 j (by omega) b
    · rw [y3 j (by omega), wI_k (by omega)]
theorem shz_s {Z : XS} {k : Int32} {j : Nat} : sn (shZ Z k j) = sn Z + 1 := rfl
theorem shz_K {Z : XS} {k : Int32} {j o : Nat} (h : o ≠ sn Z) : sK (shZ Z k j) o = sK Z o := if_neg h
theorem shz_Kn {Z : XS} {k : Int32} {j : Nat} : sK (shZ Z k j) (sn Z) = nk k := if_pos rfl
theorem shz_1 {Z : XS} {k : Int32} {i j : Nat} (h : i ≠ j) (hs : 1 < sn Z) : sR (shZ Z k j) 1 i = sR Z 1 i := by
  show (if 1 = 1 ∧ i = j then some (sn Z) else (if 1 = sn Z then fun _ => none else sR Z 1) i) = sR Z 1 i
  rw [if_neg (fun z => h z.2), if_neg (by omega)]
theorem shz_1n {Z : XS} {k : Int32} {j : Nat} : sR (shZ Z k j) 1 j = some (sn Z) := if_pos ⟨rfl, rfl⟩
theorem st0 : St0 Rel := by
  intro Z Xc Xm a1 a2 ⟨n, m, r, h⟩
  have hn := h.2.1.1
  obtain ⟨hL, hZ, hLen⟩ := h.1
  unfold gShoot fX12_shooter
  rcases rng a1 (k := 6) (by decide) with hr | ⟨k, hk, rfl⟩
  · rw [bnd_of (show fX12_in a1 0 6 Xm = some 0 from in_0 hr), if_pos rfl]
    by_cases z : a1 < 0
    · rw [if_pos z]
      exact ⟨_, _, _, _, rfl, rfl, n, m, r, h⟩
    · rw [if_neg z, if_neg (show ¬ a1 < 7 from fun y => by
        have h2 := hr.resolve_left z
        rw [Int32.lt_iff_toInt_lt, i32_ofN (by decide)] at h2
        rw [Int32.lt_iff_toInt_lt] at y
        have : (7 : Int32).toInt = 7 := rfl
        omega)]
      exact ⟨_, _, _, _, rfl, rfl, n, m, r, h⟩
  rw [bnd_of (show fX12_in (Int32.ofNat k) 0 6 Xm = some 1 from in_1 (hi := 6) hk (by decide)), if_neg ne10, if_neg (o_ge0 (by omega)), if_pos (show Int32.ofNat k < 7 from (o_lt (b := 7) (by omega) (by omega)).mpr (by omega))]
  rcases rng a2 (k := 9) (by decide) with hr | ⟨v, hv, rfl⟩
  · rw [bnd_of (show fX12_in a2 0 9 Xm = some 0 from in_0 hr), if_pos rfl]
    by_cases z : a2 < 0
    · rw [if_pos z]
      exact ⟨_, _, _, _, rfl, rfl, n, m, r, h⟩
    · rw [if_neg z, if_neg (show ¬ a2 ≤ 9 from not_lt_of (hr.resolve_left z))]
      exact ⟨_, _, _, _, rfl, rfl, n, m, r, h⟩
  rw [bnd_of (show fX12_in (Int32.ofNat v) 0 9 Xm = some 1 from in_1 (hi := 9) hv (by decide)), if_neg ne10, if_neg (o_ge0 (by omega)), if_pos (show Int32.ofNat v ≤ 9 from (o_le (b := 9) (by omega) (by omega)).mpr hv), h.2.1.2.1, h.2.1.2.2.1, if_neg (o_ge0 (by omega))]
  by_cases y : n = 6
  · rw [if_neg (show ¬ Int32.ofNat n < 6 by rw [y]; decide), if_pos (show Int32.ofNat n = 6 by rw [y]; rfl)]
    exact ⟨_, _, _, _, rfl, rfl, n, m, r, h⟩
  have hn6 : n < 6 := by omega
  rw [if_pos (show Int32.ofNat n < 6 from (o_lt (b := 6) (by omega) (by omega)).mpr hn6), if_neg (show ¬ Int32.ofNat n = 6 from fun z => y ((o_eq (b := 6) (by omega) (by omega)).mp z)), gin_o hn6 (by omega), i32n (show n < 2147483648 by omega), show Int32.ofNat n + 1 = Int32.ofNat (n + 1) from o_add n 1]
  have g6 : ∀ {α : Type} (x : Option α), gin (Int32.ofNat n) 6 x = x := fun x => gin_o hn6 (by omega)
  have e0 : ∀ {X : XD} {q j : Nat} {w : Int32}, q ≠ 0 → (wI X q j w).1 0 0 = X.1 0 0 := fun hq => by rw [wI_c (fun z => hq z.symm)]
  rw [g6, nm_eq, e0 (by decide), h.2.1.2.2.1, i32n (show n < 2147483648 by omega), g6, nm_eq, e0 (by decide), e0 (by decide), h.2.1.2.2.1, i32n (show n < 2147483648 by omega), g6, nm_eq, e0 (by decide), e0 (by decide), e0 (by decide), h.2.1.2.2.1, i32n (show n < 2147483648 by omega), g6, nm_eq, e0 (by decide), e0 (by decide), e0 (by decide), e0 (by decide), h.2.1.2.2.1, i32n (show n < 2147483648 by omega), g6, nm_eq]
  obtain ⟨Y, y1, y2, y3, y4, y5, y6, y7⟩ := sh91 hn6 4 0 FU (wI (wI (wI (wI (wI Xm 1 n (Int32.ofNat k)) 2 n (Int32.ofNat v)) 3 n 3) 4 n 0) 5 n 0) rfl (FU_gt (by decide)) (by rw [e0 (by decide), e0 (by decide), e0 (by decide), e0 (by decide), e0 (by decide)]; exact h.2.1.2.2.1)
  have yr : ∀ p, p ≠ 0 → p ≠ 6 → p ≠ 1 → p ≠ 2 → p ≠ 3 → p ≠ 4 → p ≠ 5 → Y.1 p = Xm.1 p := fun p p0 p6 a b c d e => by rw [y6 p p0 p6, wI_c e, wI_c d, wI_c c, wI_c b, wI_c a]
  have yf : ∀ j, j ≠ 0 → Y.1 0 j = Xm.1 0 j := fun j hj => by rw [y5 j hj, wI_c (by decide), wI_c (by decide), wI_c (by decide), wI_c (by decide), wI_c (by decide)]
  have r1 : ∀ j, Y.1 1 j = if j = n then Int32.ofNat k else Xm.1 1 j := fun j => by
    rw [y6 1 (by decide) (by decide), wI_c (by decide), wI_c (by decide), wI_c (by decide), wI_c (by decide)]
    by_cases z : j = n
    · rw [if_pos z, z, wI_s]
    · rw [if_neg z, wI_k z]
  have r2 : ∀ j, Y.1 2 j = if j = n then Int32.ofNat v else Xm.1 2 j := fun j => by
    rw [y6 2 (by decide) (by decide), wI_c (by decide), wI_c (by decide), wI_c (by decide)]
    by_cases z : j = n
    · rw [if_pos z, z, wI_s]
    · rw [if_neg z, wI_k z, wI_c (by decide)]
  have r3 : ∀ j, Y.1 3 j = if j = n then 3 else Xm.1 3 j := fun j => by
    rw [y6 3 (by decide) (by decide), wI_c (by decide), wI_c (by decide)]
    by_cases z : j = n
    · rw [if_pos z, z, wI_s]
    · rw [if_neg z, wI_k z, wI_c (by decide), wI_c (by decide)]
  have r4 : ∀ j, Y.1 4 j = if j = n then 0 else Xm.1 4 j := fun j => by
    rw [y6 4 (by decide) (by decide), wI_c (by decide)]
    by_cases z : j = n
    · rw [if_pos z, z, wI_s]
    · rw [if_neg z, wI_k z, wI_c (by decide), wI_c (by decide), wI_c (by decide)]
  have r5 : ∀ j, Y.1 5 j = if j = n then 0 else Xm.1 5 j := fun j => by
    rw [y6 5 (by decide) (by decide)]
    by_cases z : j = n
    · rw [if_pos z, z, wI_s]
    · rw [if_neg z, wI_k z, wI_c (by decide), wI_c (by decide), wI_c (by decide), wI_c (by decide)]
  obtain ⟨Xn, eX⟩ : ∃ Xn, Xn = wI (nSX Z Xc (Int32.ofNat n) (Int32.ofNat v)) 47 0 (Int32.ofNat (n + 1)) := ⟨_, rfl⟩
  rw [← eX]
  have zr : ∀ q, q ≠ sn Z → (nSX Z Xc (Int32.ofNat n) (Int32.ofNat v)).1 q = Xc.1 q := fun q hq => by
    unfold nSX
    rw [wI_c hq, wI_c hq]
    exact if_neg hq
  have cr : ∀ q, q ≠ 47 → q ≠ sn Z → Xn.1 q = Xc.1 q := fun q a b => by rw [eX, wI_c a, zr q b]
  have c47 : ∀ j, j ≠ 0 → Xn.1 47 j = Xc.1 47 j := fun j hj => by rw [eX, wI_k hj, zr 47 (by omega)]
  have c470 : Xn.1 47 0 = Int32.ofNat (n + 1) := by rw [eX, wI_s]
  have cn0 : Xn.1 (sn Z) 0 = Int32.ofNat n := by
    rw [eX, wI_c (by omega)]
    unfold nSX
    rw [wI_k (by decide), wI_s]
  have cn1 : Xn.1 (sn Z) 1 = Int32.ofNat v := by
    rw [eX, wI_c (by omega)]
    unfold nSX
    rw [wI_s]
  have c2 : ∀ q, q < sn Z → Xn.2 q = Xc.2 q := fun q hq => by
    rw [eX]
    show (zX Xc (sn Z)).2 q = Xc.2 q
    exact if_neg (by omega)
  have I := h.2.2.1.2.2
  refine ⟨Int32.ofNat n, shZ Z (Int32.ofNat k) n, Xn, Y, rfl, y1, n + 1, m, r, ⟨hL.sh (Int32.ofNat k) hn6, by rw [shz_s]; omega, hLen⟩, ⟨by omega, c470, y4, fun i hi => ?_⟩, ⟨?_, ⟨fun i hi => ?_, fun i hi => ?_, fun i hi => ?_, fun i hi => ?_, ?_, ?_⟩, ⟨I.1, I.2.1, I.2.2.1, I.2.2.2.1, I.2.2.2.2.1, I.2.2.2.2.2.1, fun i hi => I.2.2.2.2.2.2.1 i (by omega), fun i hi => I.2.2.2.2.2.2.2 i (by omega)⟩⟩, ?_, ?_, ?_, ?_, ?_, ?_, ?_⟩
  · by_cases z : i = n
    · subst z
      refine ⟨sn Z, k, v, shz_1n, ⟨hZ, ⟨by rw [shz_s]; omega, by rw [shz_Kn]; exact isSh_nk _⟩, shz_Kn, cn0, cn1, hk, hv, hn6⟩, hk, hv, ?_, ?_⟩
      · rw [r1, if_pos rfl]
      · rw [r2, if_pos rfl]
    · obtain ⟨o, k', v', b1, b2, b3⟩ := h.2.1.2.2.2 i (by omega)
      have ho : o ≠ sn Z := by have := b2.2.1.1; omega
      have ho2 := b2.1
      refine ⟨o, k', v', by rw [shz_1 z (by omega)]; exact b1, ⟨b2.1, shZ_KS b2.2.1, by rw [shz_K ho]; exact b2.2.2.1, by rw [cr o (by omega) ho]; exact b2.2.2.2.1, by rw [cr o (by omega) ho]; exact b2.2.2.2.2.1, b2.2.2.2.2.2⟩, b3.1, b3.2.1, ?_, ?_⟩
      · rw [r1, if_neg z]; exact b3.2.2.1
      · rw [r2, if_neg z]; exact b3.2.2.2
  · exact h.2.2.1.1.eq (c47 2 (by decide)) (c47 3 (by decide)) (fun p a b => cr _ (by omega) (by omega))
  · rw [r3]
    by_cases z : i = n
    · rw [if_pos z, (I.2.2.2.2.2.2.1 i (by omega)).1]; rfl
    · rw [if_neg z]; exact h.2.2.1.2.1.1 i (by omega)
  · rw [r4]
    by_cases z : i = n
    · rw [if_pos z, (I.2.2.2.2.2.2.1 i (by omega)).2.1]; rfl
    · rw [if_neg z]; exact h.2.2.1.2.1.2.1 i (by omega)
  · rw [r5]
    by_cases z : i = n
    · rw [if_pos z, (I.2.2.2.2.2.2.1 i (by omega)).2.2]; rfl
    · rw [if_neg z]; exact h.2.2.1.2.1.2.2.1 i (by omega)
  · by_cases z : 4 * n ≤ i
    · rw [y2 i (by omega) (by omega), I.2.2.2.2.2.2.2 i z]; rfl
    · rw [y3 i (by omega), wI_c (by decide), wI_c (by decide), wI_c (by decide), wI_c (by decide), wI_c (by decide)]
      exact h.2.2.1.2.1.2.2.2.1 i (by omega)
  · rw [yf 1 (by decide)]; exact h.2.2.1.2.1.2.2.2.2.1
  · rw [yf 2 (by decide)]; exact h.2.2.1.2.1.2.2.2.2.2
  · exact h.2.2.2.1.eq (by rw [cr 0 (by decide) (by omega)]) (c47 1 (by decide)) (fun i a b d => cr i (by omega) (by omega)) (yf 9 (by decide)) (yf 10 (by decide)) (fun p a b => yr p (by omega) (by omega) (by omega) (by omega) (by omega) (by omega) (by omega))
  · have h5 := h.2.2.2.2.1
    unfold RTx at h5 ⊢
    rw [cr 45 (by decide) (by omega), cr 46 (by decide) (by omega), yf 11 (by decide), yr 7 (by decide) (by decide) (by decide) (by decide) (by decide) (by decide) (by decide)]
    exact h5
  · have h6 := h.2.2.2.2.2.1.eq (Yc := Xn) (Ym := Y) (fun p a b => cr _ (by omega) (by omega)) (yf _ (by decide)) (yf _ (by decide)) (yf _ (by decide)) (yr _ (by decide) (by decide) (by decide) (by decide) (by decide) (by decide) (by decide)) (yr _ (by decide) (by decide) (by decide) (by decide) (by decide) (by decide) (by decide)) (yr _ (by decide) (by decide) (by decide) (by decide) (by decide) (by decide) (by decide)) (yr _ (by decide) (by decide) (by decide) (by decide) (by decide) (by decide) (by decide))
    have w : ∀ x, belN n x → belN (n + 1) x := fun x ⟨a, b, c⟩ => ⟨a, by omega, c⟩
    exact ⟨h6.1.weak w, h6.2.1, h6.2.2.1.weak w, h6.2.2.2⟩
  · exact h.2.2.2.2.2.2.1.eq (Nat.le_succ n) (Nat.le_refl _) (by rw [cr 0 (by decide) (by omega)]) (fun p a b => cr _ (by omega) (by omega)) (fun p a b => yf _ (by omega)) (fun p a b => yr p (by omega) (by omega) (by omega) (by omega) (by omega) (by omega) (by omega)) (fun i hi => by rw [r1, if_neg (by omega)]) (fun i hi => by rw [r2, if_neg (by omega)])
  · have h8 := h.2.2.2.2.2.2.2.1
    unfold RRn at h8 ⊢
    rw [cr 142 (by decide) (by omega), cr 143 (by decide) (by omega), yf 61 (by decide), yr 38 (by decide) (by decide) (by decide) (by decide) (by decide) (by decide) (by decide)]
    exact h8
  · exact h.2.2.2.2.2.2.2.2.1.eq (cr _ (by decide) (by omega)) (cr _ (by decide) (by omega)) (fun t a b => c2 t (by omega)) (yr _ (by decide) (by decide) (by decide) (by decide) (by decide) (by decide) (by decide)) (yr _ (by decide) (by decide) (by decide) (by decide) (by decide) (by decide) (by decide)) (by rw [y7]; rfl)
  · intro j hj
    rw [yr 15 (by decide) (by decide) (by decide) (by decide) (by decide) (by decide) (by decide)]
    exact h.2.2.2.2.2.2.2.2.2 j hj
