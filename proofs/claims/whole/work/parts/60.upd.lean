set_option maxHeartbeats 40000000
set_option maxRecDepth 100000
/-! one part of the relation is new -/
theorem RB.ls {Z : XS} {Xc Xm Yc Ym : XD} {n m : Nat} {r : Rnd} (h : RB Z Xc Xm n m r) (hx : RLn Yc Ym n) (c : ∀ i, ¬ (52 ≤ i ∧ i ≤ 59) → Yc.1 i = Xc.1 i) (cj : Yc.2 = Xc.2) (k : ∀ q, q ≠ 0 → ¬ (q = 20 ∨ q = 25 ∨ q = 26 ∨ q = 27) → Ym.1 q = Xm.1 q) (k0 : ∀ j, ¬ (j = 32 ∨ j = 38 ∨ j = 40) → Ym.1 0 j = Xm.1 0 j) (kj : Ym.2 = Xm.2) : RB Z Yc Ym n m r := by
  obtain ⟨h1, h2, h3, h4, h5, h6, h7, h8, h9, h10⟩ := h
  have c0 : Yc.1 0 = Xc.1 0 := c 0 (by omega)
  have c47 : Yc.1 47 = Xc.1 47 := c 47 (by omega)
  refine ⟨h1, ?_, ?_, ?_, ?_, ?_, ?_, ?_, ?_, ?_⟩
  · exact h2.eq (by rw [c47]) (fun o ho => c o (by omega)) (k0 _ (by omega)) (k _ (by omega) (by omega)) (k _ (by omega) (by omega))
  · exact h3.eq (by rw [c47]) (by rw [c47]) (fun p a b => c _ (by omega)) (k0 _ (by omega)) (k0 _ (by omega)) (fun p a b => k _ (by omega) (by omega))
  · exact h4.eq (by rw [c0]) (by rw [c47]) (fun i a b d => c _ (by omega)) (k0 _ (by omega)) (k0 _ (by omega)) (fun p a b => k _ (by omega) (by omega))
  · unfold RTx at h5 ⊢
    rw [c 45 (by omega), c 46 (by omega), k0 11 (by omega), k 7 (by omega) (by omega)]
    exact h5
  · exact hx
  · exact h7.eq (Nat.le_refl _) (Nat.le_refl _) (by rw [c0]) (fun p a b => c _ (by omega)) (fun p a b => k0 _ (by omega)) (fun p a b => k _ (by omega) (by omega)) (fun i _ => by rw [k 1 (by omega) (by omega)]) (fun i _ => by rw [k 2 (by omega) (by omega)])
  · unfold RRn at h8 ⊢
    rw [c 142 (by omega), c 143 (by omega), k0 61 (by omega), k 38 (by omega) (by omega)]
    exact h8
  · exact h9.eq (c _ (by omega)) (c _ (by omega)) (fun t _ _ => by rw [cj]) (k _ (by omega) (by omega)) (k _ (by omega) (by omega)) (by rw [kj])
  · intro j hj
    rw [k 15 (by omega) (by omega)]
    exact h10 j hj
theorem RB.tx {Z : XS} {Xc Xm Yc Ym : XD} {n m : Nat} {r : Rnd} (h : RB Z Xc Xm n m r) (hx : RTx Yc Ym) (c : ∀ i, ¬ (45 ≤ i ∧ i ≤ 46) → Yc.1 i = Xc.1 i) (cj : Yc.2 = Xc.2) (k : ∀ q, q ≠ 0 → ¬ (q = 7) → Ym.1 q = Xm.1 q) (k0 : ∀ j, ¬ (j = 11) → Ym.1 0 j = Xm.1 0 j) (kj : Ym.2 = Xm.2) : RB Z Yc Ym n m r := by
  obtain ⟨h1, h2, h3, h4, h5, h6, h7, h8, h9, h10⟩ := h
  have c0 : Yc.1 0 = Xc.1 0 := c 0 (by omega)
  have c47 : Yc.1 47 = Xc.1 47 := c 47 (by omega)
  refine ⟨h1, ?_, ?_, ?_, ?_, ?_, ?_, ?_, ?_, ?_⟩
  · exact h2.eq (by rw [c47]) (fun o ho => c o (by omega)) (k0 _ (by omega)) (k _ (by omega) (by omega)) (k _ (by omega) (by omega))
  · exact h3.eq (by rw [c47]) (by rw [c47]) (fun p a b => c _ (by omega)) (k0 _ (by omega)) (k0 _ (by omega)) (fun p a b => k _ (by omega) (by omega))
  · exact h4.eq (by rw [c0]) (by rw [c47]) (fun i a b d => c _ (by omega)) (k0 _ (by omega)) (k0 _ (by omega)) (fun p a b => k _ (by omega) (by omega))
  · exact hx
  · exact h6.eq (fun p a b => c _ (by omega)) (k0 _ (by omega)) (k0 _ (by omega)) (k0 _ (by omega)) (k _ (by omega) (by omega)) (k _ (by omega) (by omega)) (k _ (by omega) (by omega)) (k _ (by omega) (by omega))
  · exact h7.eq (Nat.le_refl _) (Nat.le_refl _) (by rw [c0]) (fun p a b => c _ (by omega)) (fun p a b => k0 _ (by omega)) (fun p a b => k _ (by omega) (by omega)) (fun i _ => by rw [k 1 (by omega) (by omega)]) (fun i _ => by rw [k 2 (by omega) (by omega)])
  · unfold RRn at h8 ⊢
    rw [c 142 (by omega), c 143 (by omega), k0 61 (by omega), k 38 (by omega) (by omega)]
    exact h8
  · exact h9.eq (c _ (by omega)) (c _ (by omega)) (fun t _ _ => by rw [cj]) (k _ (by omega) (by omega)) (k _ (by omega) (by omega)) (by rw [kj])
  · intro j hj
    rw [k 15 (by omega) (by omega)]
    exact h10 j hj
theorem RB.rn {Z : XS} {Xc Xm Yc Ym : XD} {n m : Nat} {r : Rnd} (h : RB Z Xc Xm n m r) (hx : RRn Yc Ym) (c : ∀ i, ¬ (142 ≤ i ∧ i ≤ 143) → Yc.1 i = Xc.1 i) (cj : Yc.2 = Xc.2) (k : ∀ q, q ≠ 0 → ¬ (q = 38) → Ym.1 q = Xm.1 q) (k0 : ∀ j, ¬ (j = 61) → Ym.1 0 j = Xm.1 0 j) (kj : Ym.2 = Xm.2) : RB Z Yc Ym n m r := by
  obtain ⟨h1, h2, h3, h4, h5, h6, h7, h8, h9, h10⟩ := h
  have c0 : Yc.1 0 = Xc.1 0 := c 0 (by omega)
  have c47 : Yc.1 47 = Xc.1 47 := c 47 (by omega)
  refine ⟨h1, ?_, ?_, ?_, ?_, ?_, ?_, ?_, ?_, ?_⟩
  · exact h2.eq (by rw [c47]) (fun o ho => c o (by omega)) (k0 _ (by omega)) (k _ (by omega) (by omega)) (k _ (by omega) (by omega))
  · exact h3.eq (by rw [c47]) (by rw [c47]) (fun p a b => c _ (by omega)) (k0 _ (by omega)) (k0 _ (by omega)) (fun p a b => k _ (by omega) (by omega))
  · exact h4.eq (by rw [c0]) (by rw [c47]) (fun i a b d => c _ (by omega)) (k0 _ (by omega)) (k0 _ (by omega)) (fun p a b => k _ (by omega) (by omega))
  · unfold RTx at h5 ⊢
    rw [c 45 (by omega), c 46 (by omega), k0 11 (by omega), k 7 (by omega) (by omega)]
    exact h5
  · exact h6.eq (fun p a b => c _ (by omega)) (k0 _ (by omega)) (k0 _ (by omega)) (k0 _ (by omega)) (k _ (by omega) (by omega)) (k _ (by omega) (by omega)) (k _ (by omega) (by omega)) (k _ (by omega) (by omega))
  · exact h7.eq (Nat.le_refl _) (Nat.le_refl _) (by rw [c0]) (fun p a b => c _ (by omega)) (fun p a b => k0 _ (by omega)) (fun p a b => k _ (by omega) (by omega)) (fun i _ => by rw [k 1 (by omega) (by omega)]) (fun i _ => by rw [k 2 (by omega) (by omega)])
  · exact hx
  · exact h9.eq (c _ (by omega)) (c _ (by omega)) (fun t _ _ => by rw [cj]) (k _ (by omega) (by omega)) (k _ (by omega) (by omega)) (by rw [kj])
  · intro j hj
    rw [k 15 (by omega) (by omega)]
    exact h10 j hj
theorem RB.tp {Z : XS} {Xc Xm Yc Ym : XD} {n m : Nat} {r : Rnd} (h : RB Z Xc Xm n m r) (hx : RTp Yc Ym) (c : ∀ i, ¬ (151 ≤ i ∧ i ≤ 152) → Yc.1 i = Xc.1 i) (k : ∀ q, q ≠ 0 → ¬ (q = 39 ∨ q = 40 ∨ q = 42) → Ym.1 q = Xm.1 q) (k0 : ∀ j, ¬ (j = 100) → Ym.1 0 j = Xm.1 0 j) : RB Z Yc Ym n m r := by
  obtain ⟨h1, h2, h3, h4, h5, h6, h7, h8, h9, h10⟩ := h
  have c0 : Yc.1 0 = Xc.1 0 := c 0 (by omega)
  have c47 : Yc.1 47 = Xc.1 47 := c 47 (by omega)
  refine ⟨h1, ?_, ?_, ?_, ?_, ?_, ?_, ?_, ?_, ?_⟩
  · exact h2.eq (by rw [c47]) (fun o ho => c o (by omega)) (k0 _ (by omega)) (k _ (by omega) (by omega)) (k _ (by omega) (by omega))
  · exact h3.eq (by rw [c47]) (by rw [c47]) (fun p a b => c _ (by omega)) (k0 _ (by omega)) (k0 _ (by omega)) (fun p a b => k _ (by omega) (by omega))
  · exact h4.eq (by rw [c0]) (by rw [c47]) (fun i a b d => c _ (by omega)) (k0 _ (by omega)) (k0 _ (by omega)) (fun p a b => k _ (by omega) (by omega))
  · unfold RTx at h5 ⊢
    rw [c 45 (by omega), c 46 (by omega), k0 11 (by omega), k 7 (by omega) (by omega)]
    exact h5
  · exact h6.eq (fun p a b => c _ (by omega)) (k0 _ (by omega)) (k0 _ (by omega)) (k0 _ (by omega)) (k _ (by omega) (by omega)) (k _ (by omega) (by omega)) (k _ (by omega) (by omega)) (k _ (by omega) (by omega))
  · exact h7.eq (Nat.le_refl _) (Nat.le_refl _) (by rw [c0]) (fun p a b => c _ (by omega)) (fun p a b => k0 _ (by omega)) (fun p a b => k _ (by omega) (by omega)) (fun i _ => by rw [k 1 (by omega) (by omega)]) (fun i _ => by rw [k 2 (by omega) (by omega)])
  · unfold RRn at h8 ⊢
    rw [c 142 (by omega), c 143 (by omega), k0 61 (by omega), k 38 (by omega) (by omega)]
    exact h8
  · exact hx
  · intro j hj
    rw [k 15 (by omega) (by omega)]
    exact h10 j hj
theorem le_of_lt4 {x : Int32} (h : x < 0 ∨ Int32.ofNat 3 < x) (h2 : ¬ x < 0) : ¬ x ≤ 3 ∧ ¬ x < 4 := by
  have h := h.resolve_left h2
  refine ⟨not_lt_of h, fun y => ?_⟩
  rw [Int32.lt_iff_toInt_lt, i32_ofN (by decide)] at h
  rw [Int32.lt_iff_toInt_lt] at y
  have : (4 : Int32).toInt = 4 := rfl
  omega
theorem st2 : St2 Rel := by
  intro Z Xc Xm a1 a2 ⟨n, m, r, h⟩
  have hn := h.2.1.1
  unfold fX11_last fX12_last
  rcases h.2.1.find a1 with ⟨f1, f2⟩ | ⟨i, o, k, v, hi, rfl, ho, hc, hm, f1, f2⟩
  · rw [bnd_of f1, bnd_of f2]
    exact h.fin rfl rfl eqC.rfl eqM.rfl
  rw [bnd_of f1, bnd_of f2, mto_some, if_neg ne10]
  rcases rng a2 (k := 3) (by decide) with hr | ⟨s, hs, rfl⟩
  · rw [bnd_of (show fX12_in a2 0 3 Xm = some 0 from in_0 hr), if_pos rfl]
    by_cases z : a2 < 0
    · rw [if_pos z]
      exact h.fin rfl rfl eqC.rfl eqM.rfl
    · rw [if_neg z, if_neg (le_of_lt4 hr z).1]
      exact h.fin rfl rfl eqC.rfl eqM.rfl
  rw [bnd_of (show fX12_in (Int32.ofNat s) 0 3 Xm = some 1 from in_1 (hi := 3) hs (by decide)), if_neg ne10, if_neg (o_ge0 (by omega)), if_pos (show Int32.ofNat s ≤ 3 from (o_le (b := 3) (by omega) (by omega)).mpr hs), bnd_of (lastOf_r h.2.2.1.1 (by omega)), bnw_of (setLast_c (t := 47) (l := s) (by omega)), gin_o (by omega) (by omega), nm_eq, gin_o (by omega) (by omega), nm_eq, i32n (by omega), h.2.2.1.2.1.1 i hi]
  refine h.fin2 (r2 := rLa r i s) ⟨h.2.2.1.1.la, h.2.2.1.2.1.la, rLa_I h.2.2.1.2.2 hi hs⟩ ?_ ?_ ?_ ?_ ?_ ?_ rfl rfl
  · intro q _ q48 _ _ _ _; exact wI_c q48
  · intro j _ _; rw [wI_c (by decide)]
  · intro q _; rfl
  · intro q _ q3 _ _ _ _; exact wI_c q3
  · intro j _ _ _ _; rw [wI_c (by decide)]
  · rfl
def rRo (r : Rnd) (p v : Nat) : Rnd := (r.1, r.2.1, r.2.2.1, setN (rR r) p v, r.2.2.2.2)
theorem isY7 {Z : XS} {X : XD} {o i k v : Nat} (h : CK Z X o i k v) : isY Z o 7 = if k = 6 then 1 else 0 := by
  have hk := h.2.2.2.2.2.1
  unfold isY
  rw [h.2.2.1]
  rcases (show k = 0 ∨ k = 1 ∨ k = 2 ∨ k = 3 ∨ k = 4 ∨ k = 5 ∨ k = 6 by omega) with rfl | rfl | rfl | rfl | rfl | rfl | rfl <;> decide
theorem st3 : St3 Rel := by
  intro Z Xc Xm a1 a2 a3 ⟨n, m, r, h⟩
  have hn := h.2.1.1
  unfold fX11_row fX12_row
  rcases h.2.1.find a1 with ⟨f1, f2⟩ | ⟨i, o, k, v, hi, rfl, ho, hc, hm, f1, f2⟩
  · rw [bnd_of f1, bnd_of f2]
    exact h.fin rfl rfl eqC.rfl eqM.rfl
  rw [bnd_of f1, bnd_of f2, mto_some, if_neg ne10]
  rcases rng a2 (k := 3) (by decide) with hr | ⟨p, hp, rfl⟩
  · rw [bnd_of (show fX12_in a2 0 3 Xm = some 0 from in_0 hr), if_pos rfl]
    by_cases z : a2 < 0
    · rw [if_pos z]
      exact h.fin rfl rfl eqC.rfl eqM.rfl
    · rw [if_neg z, if_neg (le_of_lt4 hr z).2]
      exact h.fin rfl rfl eqC.rfl eqM.rfl
  rw [bnd_of (show fX12_in (Int32.ofNat p) 0 3 Xm = some 1 from in_1 (hi := 3) hp (by decide)), if_neg ne10, if_neg (o_ge0 (by omega)), if_pos (show Int32.ofNat p < 4 from (o_lt (b := 4) (by omega) (by omega)).mpr (by omega))]
  rcases side_cases (Z := Z) a3 with ⟨s1, s2⟩ | ⟨s, hs, rfl, s1, s2⟩
  · rw [bnd_of (s1 _), bnd_of (s2 _)]
    exact h.fin rfl rfl eqC.rfl eqM.rfl
  rw [bnd_of (s1 _), bnd_of (s2 _), if_neg ne10, if_neg ne10, isY7 hc, gin_o (by omega) (by omega), i32n (by omega), hm.2.2.1]
  have hk := hm.1
  by_cases z : k = 6
  · rw [if_pos z, if_neg ne10, if_pos (show Int32.ofNat k = 6 by rw [z]; rfl), bnd_of (toldOf_r h.2.2.1.1 (show i < 6 by omega) (show p < 4 by omega)), show (4 : Int32) * Int32.ofNat i + Int32.ofNat p = Int32.ofNat (4 * i + p) from by rw [show (4 : Int32) * Int32.ofNat i = Int32.ofNat (4 * i) from o_mul (a := 4), o_add], gin_o (by omega) (by omega), nm_eq, gin_o (by omega) (by omega), nm_eq, i32n (by omega), h.2.2.1.2.1.2.2.2.1 _ (show 4 * i + p < 4 * n by omega)]
    have hset : fX6_setTold Z 47 (Int32.ofNat i) (Int32.ofNat p) (Int32.ofNat s) Xc = some ((), wI Xc 51 (4 * i + p) (Int32.ofNat s)) := by
      unfold fX6_setTold
      rw [nm_eq, show Int32.ofNat i * 4 + Int32.ofNat p = Int32.ofNat (4 * i + p) from by rw [show Int32.ofNat i * 4 = Int32.ofNat (i * 4) from o_mul (b := 4), o_add]; congr 1; omega, if_neg (o_ge0 (by omega)), if_neg (show ¬ (24 : Int32) ≤ Int32.ofNat (4 * i + p) from fun y => by have := (o_le (a := 24) (by omega) (by omega)).mp y; omega), gin_o (by omega) (by omega), nm_eq, i32n (by omega)]
    rw [bnw_of hset]
    obtain ⟨a1, a2, a3⟩ := h.2.2.1
    refine h.fin2 (r2 := rRo r (4 * i + p) s) ⟨⟨?_, ?_, ?_, put_row a1.2.2.2.1, ?_, ?_⟩, ⟨?_, ?_, ?_, put_row a2.2.2.2.1, ?_, ?_⟩, ?_⟩ ?_ ?_ ?_ ?_ ?_ ?_ rfl rfl
    · intro j hj; rw [wI_c (by decide)]; exact a1.1 j hj
    · intro j hj; rw [wI_c (by decide)]; exact a1.2.1 j hj
    · intro j hj; rw [wI_c (by decide)]; exact a1.2.2.1 j hj
    · rw [wI_c (by decide)]; exact a1.2.2.2.2.1
    · rw [wI_c (by decide)]; exact a1.2.2.2.2.2
    · intro j hj; rw [wI_c (by decide)]; exact a2.1 j hj
    · intro j hj; rw [wI_c (by decide)]; exact a2.2.1 j hj
    · intro j hj; rw [wI_c (by decide)]; exact a2.2.2.1 j hj
    · rw [wI_c (by decide)]; exact a2.2.2.2.2.1
    · rw [wI_c (by decide)]; exact a2.2.2.2.2.2
    · refine ⟨a3.1, a3.2.1, a3.2.2.1, fun j => ?_, a3.2.2.2.2.1, a3.2.2.2.2.2.1, a3.2.2.2.2.2.2.1, fun j hj => ?_⟩
      · show setN (rR r) (4 * i + p) s j ≤ 2
        unfold setN; split
        · exact hs
        · exact a3.2.2.2.1 j
      · show setN (rR r) (4 * i + p) s j = 0
        unfold setN; rw [if_neg (by omega)]; exact a3.2.2.2.2.2.2.2 j hj
    · intro q _ _ _ _ q51 _; exact wI_c q51
    · intro j _ _; rw [wI_c (by decide)]
    · intro q _; rfl
    · intro q _ _ _ _ q6 _; exact wI_c q6
    · intro j _ _ _ _; rw [wI_c (by decide)]
    · rfl
  · rw [if_neg z, if_pos rfl, if_neg (show ¬ Int32.ofNat k = 6 from fun y => z ((o_eq (b := 6) (by omega) (by omega)).mp y))]
    exact h.fin rfl rfl eqC.rfl eqM.rfl
theorem st32 : St32 Rel := by
  intro Z Xc Xm a1 ⟨n, m, r, h⟩
  unfold fX11_count fX12_count
  have e0 := h.2.1.2.1.trans h.2.1.2.2.1.symm
  have e1 := h.2.2.2.1.2.1.trans h.2.2.2.1.2.2.1.symm
  have e2 : Xc.1 52 1 = Xm.1 0 32 := h.2.2.2.2.2.1.1.1
  have e3 : Xc.1 54 1 = Xm.1 0 38 := h.2.2.2.2.2.1.2.1.1
  have e4 : Xc.1 56 1 = Xm.1 0 40 := h.2.2.2.2.2.1.2.2.1.1
  have e5 : Xc.1 45 1 = Xm.1 0 11 := h.2.2.2.2.1.1
  have e6 : Xc.1 142 2 = Xm.1 0 61 := h.2.2.2.2.2.2.2.1.1
  rw [e0, e1, e2, e3, e4, e5, e6]
  repeat' split
  all_goals exact ⟨_, rfl, rfl, n, m, r, h⟩
theorem st30 : St30 Rel := by
  intro Z Xc Xm a1 ⟨n, m, r, h⟩
  obtain ⟨e1, q, q1, q2, q3⟩ := h.2.2.2.2.2.2.2.1.2
  have e1 := e1.trans q2
  have h143 : sL Z 143 = 20 := h.1.2.2.2.2.2.2.2.2.2.2.2
  unfold fX11_trace fX12_trace
  rcases rng a1 (k := 19) (by decide) with hr | ⟨i, hi, rfl⟩
  · rw [bnd_of (show fX12_in a1 0 19 Xm = some 0 from in_0 hr), if_pos rfl]
    refine ⟨-1, ?_, rfl, n, m, r, h⟩
    unfold fX3_at
    rw [e1, h143]
    by_cases z : a1 < 0
    · rw [if_pos z]; rfl
    · have hr := hr.resolve_left z
      rw [Int32.lt_iff_toInt_lt, i32_ofN (by decide)] at hr
      rw [if_neg z, if_pos (show Int32.ofNat q ≤ a1 by rw [Int32.le_iff_toInt_le, i32_ofN (by omega)]; omega)]; rfl
  · rw [bnd_of (show fX12_in (Int32.ofNat i) 0 19 Xm = some 1 from in_1 (hi := 19) hi (by decide)), if_neg ne10, q2]
    by_cases z : i < q
    · rw [at_c (Z := Z) (X := Xc) (a := 142) (n := q) (j := i) h143 e1 (by decide) q1 z, if_neg (show ¬ Int32.ofNat q ≤ Int32.ofNat i by rw [o_le (by omega) (by omega)]; omega), gin_o (by omega) (by omega), i32n (by omega)]
      exact ⟨_, rfl, congrArg some (q3 i z).1.symm, n, m, r, h⟩
    · rw [if_pos ((o_le (by omega) (by omega)).mpr (by omega))]
      refine ⟨-1, ?_, rfl, n, m, r, h⟩
      unfold fX3_at
      rw [e1, if_neg (o_ge0 (by omega)), if_pos ((o_le (by omega) (by omega)).mpr (by omega))]; rfl
