set_option maxHeartbeats 40000000
set_option maxRecDepth 100000
/-! ground: a text becomes a ground -/
theorem GMl_k {X Y : XD} {B : Nat} (hB : B ≤ 600) (h13 : ∀ k, k < B → Y.1 13 k = X.1 13 k) : ∀ {G : List Cl} {c : Nat}, (∀ r k, 9 ≤ r → r ≤ 12 → c ≤ k → k < c + G.length → Y.1 r k = X.1 r k) → (∀ i, i < G.length → ∃ b, b ≤ B ∧ X.1 12 (c + i) = Int32.ofNat b) → GMl X c G → GMl Y c G
  | [], _, _, _, _ => trivial
  | q :: G, c, h, hb, z => by
    obtain ⟨⟨a1, a2, a, a3, a4, a5, a6⟩, z2⟩ := z
    have hl : c < c + (q :: G).length := by rw [List.length_cons]; omega
    obtain ⟨b, b1, b2⟩ := hb 0 (by rw [List.length_cons]; omega)
    rw [Nat.add_zero, a4] at b2
    have b3 := (o_eq (by omega) (by omega)).mp b2
    refine ⟨⟨?_, fun w => ?_, a, ?_, ?_, a5, ?_⟩, GMl_k hB h13 (fun r k r1 r2 k1 k2 => h r k r1 r2 (by omega) (by rw [List.length_cons]; omega)) (fun i hi => ?_) z2⟩
    · rw [h 9 c (by decide) (by decide) (Nat.le_refl _) hl]; exact a1
    · rw [h 10 c (by decide) (by decide) (Nat.le_refl _) hl]; exact a2 w
    · rw [h 11 c (by decide) (by decide) (Nat.le_refl _) hl]; exact a3
    · rw [h 12 c (by decide) (by decide) (Nat.le_refl _) hl]; exact a4
    · exact CMl_k (fun k k1 k2 => h13 k (by omega)) a6
    · obtain ⟨d, d1, d2⟩ := hb (i + 1) (by rw [List.length_cons]; omega)
      exact ⟨d, d1, by rw [show c + 1 + i = c + (i + 1) by omega]; exact d2⟩
theorem RG1.keep {Xc Xm Yc Ym : XD} {j m : Nat} {G : List Cl} (h : RG1 Xc Xm j G) (hj : j < m) (hm : m ≤ 6) (c : ∀ i, 3 ≤ i → i < 3 + 7 * m → Yc.1 i = Xc.1 i) (m8 : ∀ k, k < m → Ym.1 8 k = Xm.1 8 k) (m9 : ∀ r k, 9 ≤ r → r ≤ 12 → k < 10 * m → Ym.1 r k = Xm.1 r k) (m13 : ∀ k, k < 100 * m → Ym.1 13 k = Xm.1 13 k) : RG1 Yc Ym j G := by
  obtain ⟨a1, a2, a3, a4, a5, a6, a7⟩ := h
  refine ⟨a1, a2, by rw [c _ (by omega) (by omega)]; exact a3, a4.eq (fun k k1 k2 => c _ (by omega) (by omega)), by rw [m8 j hj]; exact a5, GMl_k (B := 100 * (j + 1)) (by omega) (fun k hk => m13 k (by omega)) (fun r k r1 r2 k1 k2 => m9 r k r1 r2 (by omega)) a7 a6, fun i hi => ?_⟩
  rw [m9 12 _ (by decide) (by decide) (by omega)]
  exact a7 i hi
theorem RB.gr {Z : XS} {Xc Xm Yc Ym : XD} {n m m' : Nat} {r : Rnd} (h : RB Z Xc Xm n m r) (hmm : m ≤ m') (g : RGd Yc Ym m') (hc : ∀ i k, ¬ (3 ≤ i ∧ i ≤ 45) → ¬ (i = 47 ∧ k = 1) → ¬ (i = 0 ∧ k = 2) → Yc.1 i k = Xc.1 i k) (hc2 : Yc.2 = Xc.2) (hm : ∀ i k, ¬ (8 ≤ i ∧ i ≤ 14) → ¬ (i = 0 ∧ (9 ≤ k ∧ k ≤ 13 ∨ 22 ≤ k ∧ k ≤ 24)) → Ym.1 i k = Xm.1 i k) (hm2 : Ym.2 = Xm.2) (e1 : Yc.1 45 1 = 0) (e2 : Ym.1 0 11 = 0) : RB Z Yc Ym n m' r := by
  obtain ⟨h1, h2, h3, h4, h5, h6, h7, h8, h9, h10⟩ := h
  have c : ∀ i, ¬ (3 ≤ i ∧ i ≤ 45) → i ≠ 0 → i ≠ 47 → Yc.1 i = Xc.1 i := fun i a b d => funext fun k => hc i k a (fun q => d q.1) (fun q => b q.1)
  have w : ∀ i, i ≠ 0 → ¬ (8 ≤ i ∧ i ≤ 14) → Ym.1 i = Xm.1 i := fun i a b => funext fun k => hm i k b (fun q => a q.1)
  have w0 : ∀ k, ¬ (9 ≤ k ∧ k ≤ 13 ∨ 22 ≤ k ∧ k ≤ 24) → Ym.1 0 k = Xm.1 0 k := fun k b => hm 0 k (by omega) (fun q => b q.2)
  refine ⟨h1, ?_, ?_, g, ?_, ?_, ?_, ?_, ?_, ?_⟩
  · exact h2.eq (hc 47 0 (by omega) (by omega) (by omega)) (fun o ho => c o (by omega) (by omega) (by omega)) (w0 _ (by omega)) (w _ (by omega) (by omega)) (w _ (by omega) (by omega))
  · exact h3.eq (hc 47 2 (by omega) (by omega) (by omega)) (hc 47 3 (by omega) (by omega) (by omega)) (fun k a b => c _ (by omega) (by omega) (by omega)) (w0 _ (by omega)) (w0 _ (by omega)) (fun k a b => w _ (by omega) (by omega))
  · exact crow0 e1 e2
  · exact h6.eq (fun k a b => c _ (by omega) (by omega) (by omega)) (w0 _ (by omega)) (w0 _ (by omega)) (w0 _ (by omega)) (w _ (by omega) (by omega)) (w _ (by omega) (by omega)) (w _ (by omega) (by omega)) (w _ (by omega) (by omega))
  · exact h7.eq (Nat.le_refl _) hmm (hc 0 6 (by omega) (by omega) (by omega)) (fun k a b => c _ (by omega) (by omega) (by omega)) (fun k a b => w0 _ (by omega)) (fun k a b => w _ (by omega) (by omega)) (fun i _ => by rw [w 1 (by omega) (by omega)]) (fun i _ => by rw [w 2 (by omega) (by omega)])
  · unfold RRn at h8 ⊢
    rw [c 142 (by omega) (by omega) (by omega), c 143 (by omega) (by omega) (by omega), w0 61 (by omega), w 38 (by omega) (by omega)]
    exact h8
  · exact h9.eq (c _ (by omega) (by omega) (by omega)) (c _ (by omega) (by omega) (by omega)) (fun t a b => by rw [hc2]) (w _ (by omega) (by omega)) (w _ (by omega) (by omega)) (by rw [hm2])
  · intro j hj
    rw [w 15 (by omega) (by omega)]
    exact h10 j hj
theorem st5 : St5 Rel := by
  intro Z Xc Xm ⟨n, m, r, h⟩
  obtain ⟨g1, g2, g3, g4, g5, g6⟩ := h.2.2.2.1
  obtain ⟨t1, N, hN, t2, t3⟩ := h.2.2.2.2.1
  have hL := h.2.2.2.2.2.2.2.2.2
  unfold fX11_ground fX12_ground
  rw [g2, g3, if_neg (o_ge0 (by omega))]
  by_cases y : m = 6
  · rw [if_neg (show ¬ Int32.ofNat m < 6 by rw [y]; decide), if_pos (show Int32.ofNat m = 6 by rw [y]; rfl)]
    exact ⟨_, _, _, rfl, rfl, n, m, r, h⟩
  have m6 : m < 6 := by omega
  rw [if_pos (show Int32.ofNat m < 6 from (o_lt (b := 6) (by omega) (by omega)).mpr m6), if_neg (show ¬ Int32.ofNat m = 6 from fun z => y ((o_eq (b := 6) (by omega) (by omega)).mp z)), gin_o m6 (by omega), i32n (show m < 2147483648 by omega)]
  obtain ⟨tx, etx⟩ : ∃ tx : Nat → Nat, tx = fun j => (Xm.1 7 j).toNatClampNeg := ⟨_, rfl⟩
  have ht : ∀ j, j < N → tx j ≤ 127 ∧ Xm.1 7 j = Int32.ofNat (tx j) ∧ Xc.1 46 j = Int32.ofNat (tx j) := fun j hj => by
    obtain ⟨x1, k, x2, x3⟩ := t3 j hj
    have x4 : tx j = k := by rw [etx]; show (Xm.1 7 j).toNatClampNeg = k; rw [x3, i32n (by omega)]
    rw [x4]
    exact ⟨x2, x3, x1.trans x3⟩
  have hTC : TC Z Xc N tx := ⟨h.1.2.2.1, hN, t1.trans t2, fun j hj => ⟨(ht j hj).1, (ht j hj).2.2⟩⟩
  have hTM : TM Xm N tx := ⟨hN, t2, fun j hj => ⟨(ht j hj).1, (ht j hj).2.1⟩⟩
  obtain ⟨Yc, c1, c2, c3⟩ := parse_c (g := 3 + 7 * m) (by omega) hTC
  obtain ⟨Ym, m1, m2, m3, m4⟩ := goes_m m6 hTM hL
  have hb := pTx_b (N := N) (tx := tx) hN (d := 10) (p := 0) (Nat.zero_le _)
  rw [bnw_of c1, bnw_of m1]
  unfold fX3_clear
  simp only [nm_eq, bnw_some]
  have hp := hb.1
  generalize pTx N tx 10 0 = P at *
  obtain ⟨ok, p, G⟩ := P
  dsimp only at *
  have cf : ∀ i k, ¬ (i = 45 ∧ (k = 1 ∨ k = 2)) → Yc.1 i k = (wI (wI Yc 45 2 0) 45 1 0).1 i k := fun i k a => by
    by_cases z : i = 45
    · subst z
      rw [wI_k (by omega), wI_k (by omega)]
    · rw [wI_c z, wI_c z]
  have e45 : (wI (wI Yc 45 2 0) 45 1 0).1 45 1 = 0 := wI_s
  have e2c : (wI (wI Yc 45 2 0) 45 1 0).2 = Xc.2 := c2.1
  generalize wI (wI Yc 45 2 0) 45 1 0 = Wc at *
  have fc : ∀ i k, ¬ (i = 45 ∧ (k = 1 ∨ k = 2)) → ¬ (3 + 7 * m ≤ i ∧ i ≤ 8 + 7 * m) → Wc.1 i k = Xc.1 i k := fun i k a b => by
    rw [← cf i k a]
    exact c2.2 i k (by omega) (by omega) (by omega)
  have mf : ∀ i k, ¬ (i = 0 ∧ k = 11) → Ym.1 i k = (wI Ym 0 11 0).1 i k := fun i k a => by
    by_cases z : i = 0
    · subst z
      rw [wI_k (by omega)]
    · rw [wI_c z]
  have e11 : (wI Ym 0 11 0).1 0 11 = 0 := wI_s
  have e2m : (wI Ym 0 11 0).2 = Xm.2 := m3.1
  have m2' : (wI Ym 0 11 0).1 0 12 = Int32.ofNat p := by rw [wI_k (by decide)]; exact m2
  generalize wI Ym 0 11 0 = Wm at *
  have fm : ∀ i k, i ≠ 14 → ¬ (i = 0 ∧ (11 ≤ k ∧ k ≤ 13 ∨ 22 ≤ k ∧ k ≤ 24)) → ¬ (9 ≤ i ∧ i ≤ 12 ∧ 10 * m ≤ k) → ¬ (i = 13 ∧ 100 * m ≤ k) → ¬ (i = 8 ∧ k = m) → Wm.1 i k = Xm.1 i k := fun i k a b d e f => by
    rw [← mf i k (by omega)]
    exact m3.2 i k a (by omega) (by omega) e f
  have old : ∀ (Vc Vm : XD), (∀ i, 3 ≤ i → i ≤ 44 → Vc.1 i = Wc.1 i) → (∀ i, 8 ≤ i → i ≤ 13 → Vm.1 i = Wm.1 i) → ∀ j, j < m → ∃ G, RG1 Vc Vm j G := fun Vc Vm v1 v2 j hj => by
    obtain ⟨G, q⟩ := g6 j hj
    refine ⟨G, q.keep hj (by omega) (fun i i1 i2 => ?_) (fun k hk => ?_) (fun s k s1 s2 hk => ?_) (fun k hk => ?_)⟩
    · rw [v1 i i1 (by omega)]
      exact funext fun k => fc i k (by omega) (by omega)
    · rw [v2 8 (by decide) (by decide)]; exact fm 8 k (by omega) (by omega) (by omega) (by omega) (by omega)
    · rw [v2 s (by omega) (by omega)]; exact fm s k (by omega) (by omega) (by omega) (by omega) (by omega)
    · rw [v2 13 (by decide) (by decide)]; exact fm 13 k (by omega) (by omega) (by omega) (by omega) (by omega)
  cases ok with
  | false =>
    rw [b2_f, if_neg (show ¬ false = true by decide), if_neg (show ¬ Int32.ofNat p = -1 from fun z => cast (n_eq_f (a := p) (b := 1) (by omega) (by decide) (by decide)) z), if_pos (show (0 : Int32) = 0 from rfl), m2']
    refine ⟨_, _, _, rfl, rfl, n, m, r, h.gr (Nat.le_refl _) ⟨g1, ?_, ?_, ?_, ?_, old Wc Wm (fun _ _ _ => rfl) (fun _ _ _ => rfl)⟩ ?_ e2c ?_ e2m e45 e11⟩
    · rw [fc 0 2 (by omega) (by omega)]; exact g2
    · rw [fm 0 9 (by omega) (by omega) (by omega) (by omega) (by omega)]; exact g3
    · rw [fc 47 1 (by omega) (by omega)]; exact g4
    · rw [fc 47 1 (by omega) (by omega), fm 0 10 (by omega) (by omega) (by omega) (by omega) (by omega)]; exact g5
    · intro i k a b d; exact fc i k (by omega) (by omega)
    · intro i k a b; exact fm i k (by omega) (by omega) (by omega) (by omega) (by omega)
  | true =>
    have w2 : Wc.1 0 2 = Int32.ofNat m := by rw [fc 0 2 (by omega) (by omega)]; exact g2
    have w9 : Wm.1 0 9 = Int32.ofNat m := by rw [fm 0 9 (by omega) (by omega) (by omega) (by omega) (by omega)]; exact g3
    have q1 : (wI Wc 47 1 (Int32.ofNat m)).1 0 2 = Int32.ofNat m := by rw [wI_c (by decide)]; exact w2
    have q2 : (wI Wm 0 10 (Int32.ofNat m)).1 0 9 = Int32.ofNat m := by rw [wI_k (by decide)]; exact w9
    have q3 : Int32.ofNat m + 1 = Int32.ofNat (m + 1) := o_add m 1
    rw [b2_t, if_pos (show true = true from rfl), if_pos (show (-1 : Int32) = -1 from rfl), if_neg ne10, w2, w9, q1, q2, q3]
    obtain ⟨Vc, eVc⟩ : ∃ V, V = wI (wI Wc 47 1 (Int32.ofNat m)) 0 2 (Int32.ofNat (m + 1)) := ⟨_, rfl⟩
    obtain ⟨Vm, eVm⟩ : ∃ V, V = wI (wI Wm 0 10 (Int32.ofNat m)) 0 9 (Int32.ofNat (m + 1)) := ⟨_, rfl⟩
    rw [← eVc, ← eVm]
    have d1 : Vc.1 47 1 = Int32.ofNat m := by rw [eVc, wI_c (by decide), wI_s]
    have d2 : Vm.1 0 10 = Int32.ofNat m := by rw [eVm, wI_k (by decide), wI_s]
    have d3 : Vc.1 0 2 = Int32.ofNat (m + 1) := by rw [eVc, wI_s]
    have d4 : Vm.1 0 9 = Int32.ofNat (m + 1) := by rw [eVm, wI_s]
    have d5 : ∀ i, i ≠ 0 → i ≠ 47 → Vc.1 i = Wc.1 i := fun i a b => by rw [eVc, wI_c a, wI_c b]
    have d6 : ∀ i, i ≠ 0 → Vm.1 i = Wm.1 i := fun i a => by rw [eVm, wI_c a, wI_c a]
    have d7 : ∀ i k, ¬ (i = 47 ∧ k = 1) → ¬ (i = 0 ∧ k = 2) → Vc.1 i k = Wc.1 i k := fun i k a b => by
      by_cases z : i = 0
      · subst z; rw [eVc, wI_k (by omega), wI_c (by decide)]
      · by_cases z2 : i = 47
        · subst z2; rw [eVc, wI_c (by decide), wI_k (by omega)]
        · rw [d5 i z z2]
    have d8 : ∀ k, k ≠ 9 → k ≠ 10 → Vm.1 0 k = Wm.1 0 k := fun k a b => by rw [eVm, wI_k a, wI_k b]
    rw [d1, d2]
    obtain ⟨z1, z2⟩ := c3 rfl
    obtain ⟨y1, y2, y3⟩ := m4 rfl
    obtain ⟨b1, b2, b3, b4⟩ := hb
    refine ⟨_, _, _, rfl, rfl, n, m + 1, r, h.gr (Nat.le_succ _) ⟨by omega, d3, d4, Or.inr ⟨m, by omega, d1⟩, d2.trans d1.symm, fun j hj => ?_⟩ ?_ (by rw [eVc]; exact e2c) ?_ (by rw [eVm]; exact e2m) (by rw [d5 45 (by decide) (by decide)]; exact e45) (by rw [d8 11 (by decide) (by decide)]; exact e11)⟩
    · by_cases z : j < m
      · exact old Vc Vm (fun i i1 i2 => d5 i (by omega) (by omega)) (fun i i1 i2 => d6 i (by omega)) j z
      · obtain rfl : j = m := by omega
        refine ⟨G, (b4 rfl).1, b3, ?_, ?_, ?_, ?_, fun i hi => ?_⟩
        · rw [d5 _ (by omega) (by omega), ← cf _ _ (by omega)]; exact z1
        · exact z2.eq (fun k k1 k2 => by rw [d5 _ (by omega) (by omega)]; exact funext fun x => (cf _ x (by omega)).symm)
        · rw [d6 8 (by decide), ← mf 8 _ (by omega)]; exact y1
        · exact y2.eq (by rw [d6 9 (by decide)]; exact funext fun x => (mf 9 x (by omega)).symm) (by rw [d6 10 (by decide)]; exact funext fun x => (mf 10 x (by omega)).symm) (by rw [d6 11 (by decide)]; exact funext fun x => (mf 11 x (by omega)).symm) (by rw [d6 12 (by decide)]; exact funext fun x => (mf 12 x (by omega)).symm) (by rw [d6 13 (by decide)]; exact funext fun x => (mf 13 x (by omega)).symm)
        · obtain ⟨b, x1, x2⟩ := y3 i hi
          exact ⟨b, x1, by rw [d6 12 (by decide), ← mf 12 _ (by omega)]; exact x2⟩
    · intro i k a b d
      rw [d7 i k b d]
      exact fc i k (by omega) (by omega)
    · intro i k a b
      by_cases z : i = 0
      · subst z
        rw [d8 k (by omega) (by omega)]
        exact fm 0 k (by omega) (by omega) (by omega) (by omega) (by omega)
      · rw [d6 i z]
        exact fm i k (by omega) (by omega) (by omega) (by omega) (by omega)
