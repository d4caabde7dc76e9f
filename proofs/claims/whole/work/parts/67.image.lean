set_option maxHeartbeats 40000000
set_option maxRecDepth 100000
/-! image, undo -/
theorem CRow.cp {cap : Nat} {ok : Int32 → Prop} {s s' f f' : Int32} {it it' tx tx' : Nat → Int32} (h : CRow cap ok s it f tx) (h1 : s' = s) (h2 : ∀ j, j < cap → it' j = it j) (h3 : f' = f) (h4 : ∀ j, j < cap → tx' j = tx j) : CRow cap ok s' it' f' tx' := by
  obtain ⟨a1, n, a2, a3, a4⟩ := h
  refine ⟨by rw [h1, h3]; exact a1, n, a2, by rw [h3]; exact a3, fun j hj => ?_⟩
  rw [h2 j (by omega), h4 j (by omega)]
  exact a4 j hj
theorem rtake {Z : XS} {X : XD} {a b cap : Nat} (ha : sL Z (a + 1) = cap) (hb : sL Z (b + 1) = cap) (hc : cap ≤ 100) (hab : a + 1 < b ∨ b + 1 < a) : ∃ Y, fX3_takeAll Z a b X = some ((), Y) ∧ Y.1 a 1 = X.1 b 1 ∧ (∀ j, j < cap → Y.1 (a + 1) j = X.1 (b + 1) j) ∧ (∀ q, q ≠ a → q ≠ a + 1 → Y.1 q = X.1 q) ∧ Y.2 = X.2 := by
  unfold fX3_takeAll
  rw [ha, hb, if_neg (fun z => by have := (o_lt (by omega) (by omega)).mp z; omega)]
  have hg : ∀ {α : Type} (x : Option α), gcp 0 0 (Int32.ofNat cap) cap cap x = x := fun x => by
    unfold gcp
    rw [if_neg]
    have n0 : (0 : Int32).toNatClampNeg = 0 := i32n (k := 0) (by decide)
    rw [n0, i32n (by omega)]
    intro z
    rcases z with z | z | z | z | z
    · exact absurd z (by decide)
    · exact absurd z (by decide)
    · exact o_ge0 (by omega) z
    · omega
    · omega
  rw [hg, nm_eq, nm_eq, nm_eq]
  refine ⟨_, rfl, ?_, fun j hj => ?_, fun q q1 q2 => ?_, rfl⟩
  · rw [wI_k (by decide), wI_s, cpI_o (by omega)]
  · rw [wI_c (by omega), wI_c (by omega), cpI_s (by rw [i32n (by omega)]; exact hj)]
  · rw [wI_c q1, wI_c q1, cpI_o q2]
/-- one table taken over by another -/
theorem tall {Z : XS} {X : XD} {a b : Nat} {r : Rnd} (h : RT X b r) (hd : a + 12 < b ∨ b + 12 < a) (l1 : sL Z (a + 6) = 4 ∧ sL Z (b + 6) = 4) (l2 : sL Z (a + 8) = 6 ∧ sL Z (b + 8) = 6) (l3 : sL Z (a + 10) = 10 ∧ sL Z (b + 10) = 10) (l4 : sL Z (a + 12) = 10 ∧ sL Z (b + 12) = 10) : ∃ Y, fX6_takeAll Z a b X = some ((), Y) ∧ RT Y a r ∧ Y.1 a 0 = X.1 b 0 ∧ Y.1 a 1 = X.1 b 1 ∧ (Y.1 (a + 5) 1 = X.1 (b + 5) 1 ∧ ∀ j, j < 4 → Y.1 (a + 6) j = X.1 (b + 6) j) ∧ (Y.1 (a + 7) 1 = X.1 (b + 7) 1 ∧ ∀ j, j < 6 → Y.1 (a + 8) j = X.1 (b + 8) j) ∧ (Y.1 (a + 9) 1 = X.1 (b + 9) 1 ∧ ∀ j, j < 10 → Y.1 (a + 10) j = X.1 (b + 10) j) ∧ (Y.1 (a + 11) 1 = X.1 (b + 11) 1 ∧ ∀ j, j < 10 → Y.1 (a + 12) j = X.1 (b + 12) j) ∧ (∀ q, (q < a ∨ a + 12 < q) → Y.1 q = X.1 q) ∧ Y.2 = X.2 := by
  obtain ⟨A, a1, a2, a3, a4, a5⟩ := take_c (Z := Z) h (show a + 4 < b ∨ b + 4 < a by omega)
  have c1 : ∀ q, q ≠ a → (wI (wI A a 0 (A.1 b 0)) a 1 ((wI A a 0 (A.1 b 0)).1 b 1)).1 q = A.1 q := fun q hq => by rw [wI_c hq, wI_c hq]
  obtain ⟨B, b1, b2, b3, b4, b5⟩ := rtake (Z := Z) (X := wI (wI A a 0 (A.1 b 0)) a 1 ((wI A a 0 (A.1 b 0)).1 b 1)) (a := a + 5) (b := b + 5) (cap := 4) l1.1 l1.2 (by decide) (by omega)
  obtain ⟨C, d1, d2, d3, d4, d5⟩ := rtake (Z := Z) (X := B) (a := a + 7) (b := b + 7) (cap := 6) l2.1 l2.2 (by decide) (by omega)
  obtain ⟨D, e1, e2, e3, e4, e5⟩ := rtake (Z := Z) (X := C) (a := a + 9) (b := b + 9) (cap := 10) l3.1 l3.2 (by decide) (by omega)
  obtain ⟨E, f1, f2, f3, f4, f5⟩ := rtake (Z := Z) (X := D) (a := a + 11) (b := b + 11) (cap := 10) l4.1 l4.2 (by decide) (by omega)
  have hE : ∀ q, (q < a + 5 ∨ a + 12 < q) → E.1 q = (wI (wI A a 0 (A.1 b 0)) a 1 ((wI A a 0 (A.1 b 0)).1 b 1)).1 q := fun q hq => by
    rw [f4 q (by omega) (by omega), e4 q (by omega) (by omega), d4 q (by omega) (by omega), b4 q (by omega) (by omega)]
  have hA : ∀ q, (q < a ∨ a + 4 < q) → A.1 q = X.1 q := a4
  have hb : ∀ q, b ≤ q → q ≤ b + 12 → (wI (wI A a 0 (A.1 b 0)) a 1 ((wI A a 0 (A.1 b 0)).1 b 1)).1 q = X.1 q := fun q x y => by rw [c1 q (by omega), hA q (by omega)]
  refine ⟨E, ?_, a2.eq ?_ ?_ (fun k x y => ?_), ?_, ?_, ⟨?_, fun j hj => ?_⟩, ⟨?_, fun j hj => ?_⟩, ⟨?_, fun j hj => ?_⟩, ⟨?_, fun j hj => ?_⟩, fun q hq => ?_, ?_⟩
  · unfold fX6_takeAll
    rw [bnw_of a1, nm_eq, nm_eq, bnw_of b1, bnw_of d1, bnw_of e1, bnw_of f1]
  · rw [hE a (by omega), wI_k (by decide), wI_k (by decide)]
  · rw [hE a (by omega), wI_k (by decide), wI_k (by decide)]
  · rw [hE _ (by omega), c1 _ (by omega)]
  · rw [hE a (by omega), wI_k (by decide), wI_s, hA b (by omega)]
  · rw [hE a (by omega), wI_s, wI_c (by omega), hA b (by omega)]
  · rw [f4 _ (by omega) (by omega), e4 _ (by omega) (by omega), d4 _ (by omega) (by omega), b2, hb _ (by omega) (by omega)]
  · rw [f4 _ (by omega) (by omega), e4 _ (by omega) (by omega), d4 _ (by omega) (by omega), b3 j hj, hb _ (by omega) (by omega)]
  · rw [f4 _ (by omega) (by omega), e4 _ (by omega) (by omega), d2, b4 _ (by omega) (by omega), hb _ (by omega) (by omega)]
  · rw [f4 _ (by omega) (by omega), e4 _ (by omega) (by omega), d3 j hj, b4 _ (by omega) (by omega), hb _ (by omega) (by omega)]
  · rw [f4 _ (by omega) (by omega), e2, d4 _ (by omega) (by omega), b4 _ (by omega) (by omega), hb _ (by omega) (by omega)]
  · rw [f4 _ (by omega) (by omega), e3 j hj, d4 _ (by omega) (by omega), b4 _ (by omega) (by omega), hb _ (by omega) (by omega)]
  · rw [f2, e4 _ (by omega) (by omega), d4 _ (by omega) (by omega), b4 _ (by omega) (by omega), hb _ (by omega) (by omega)]
  · rw [f3 j hj, e4 _ (by omega) (by omega), d4 _ (by omega) (by omega), b4 _ (by omega) (by omega), hb _ (by omega) (by omega)]
  · rw [hE q (by omega), c1 q (by omega), hA q (by omega)]
  · rw [f5, e5, d5, b5]; exact a3
def imX (X : XD) : XD := wI (wI (wI (wI (wI (wI (wI (wI X 0 43 1) 0 44 (X.1 0 10)) 0 45 (X.1 0 0)) 0 46 (X.1 0 1)) 0 47 (X.1 0 2)) 0 48 (X.1 0 32)) 0 49 (X.1 0 38)) 0 50 (X.1 0 40)
theorem imX_o {X : XD} {q : Nat} (h : q ≠ 0) : (imX X).1 q = X.1 q := by
  unfold imX
  rw [wI_c h, wI_c h, wI_c h, wI_c h, wI_c h, wI_c h, wI_c h, wI_c h]
theorem imX_k {X : XD} {k : Nat} (h : k < 43 ∨ 50 < k) : (imX X).1 0 k = X.1 0 k := by
  unfold imX
  rw [wI_k (by omega), wI_k (by omega), wI_k (by omega), wI_k (by omega), wI_k (by omega), wI_k (by omega), wI_k (by omega), wI_k (by omega)]
theorem image_m {X : XD} : ∃ Y, fX12_image X = some (X.1 0 0, Y) ∧ (∀ j, j < 6 → Y.1 28 j = X.1 1 j ∧ Y.1 29 j = X.1 2 j ∧ Y.1 30 j = X.1 3 j ∧ Y.1 31 j = X.1 4 j ∧ Y.1 32 j = X.1 5 j ∧ Y.1 35 j = X.1 25 j) ∧ (∀ j, j < 24 → Y.1 33 j = X.1 6 j) ∧ (∀ j, j < 4 → Y.1 34 j = X.1 20 j) ∧ (∀ j, j < 10 → Y.1 36 j = X.1 26 j ∧ Y.1 37 j = X.1 27 j) ∧ Y.1 0 = (imX X).1 0 ∧ (∀ q, q ≠ 0 → (q < 28 ∨ 37 < q) → Y.1 q = X.1 q) ∧ Y.2 = X.2 := by
  obtain ⟨A, a1, a2, -, a4, a5⟩ := im1 6 0 FU (imX X) rfl (FU_gt (by decide))
  obtain ⟨B, b1, b2, -, b4, b5⟩ := im2 24 0 FU A rfl (FU_gt (by decide))
  obtain ⟨C, c1, c2, -, c4, c5⟩ := im3 4 0 FU B rfl (FU_gt (by decide))
  obtain ⟨D, d1, d2, -, d4, d5⟩ := im4 10 0 FU C rfl (FU_gt (by decide))
  have oA : ∀ q, (q < 28 ∨ 37 < q) → A.1 q = (imX X).1 q := fun q h => a4 q (by omega) (by omega) (by omega) (by omega) (by omega) (by omega)
  have oB : ∀ q, q ≠ 33 → B.1 q = A.1 q := b4
  have oC : ∀ q, q ≠ 34 → C.1 q = B.1 q := c4
  have oD : ∀ q, q ≠ 36 → q ≠ 37 → D.1 q = C.1 q := d4
  have all : ∀ q, (q < 28 ∨ 37 < q) → D.1 q = (imX X).1 q := fun q h => by rw [oD q (by omega) (by omega), oC q (by omega), oB q (by omega), oA q h]
  refine ⟨D, ?_, fun j hj => ?_, fun j hj => ?_, fun j hj => ?_, fun j hj => ?_, all 0 (by decide), fun q q0 hq => by rw [all q hq, imX_o q0], by rw [d5, c5, b5, a5]; rfl⟩
  · have e : fX12_image X = fX12_image_63 FU 0 (imX X) := by
      unfold fX12_image imX
      rw [nm_eq, nm_eq, nm_eq, nm_eq, nm_eq, nm_eq, nm_eq, nm_eq]
      have g : ∀ {Y : XD} {k : Nat} {v : Int32} {p : Nat}, p ≠ k → (wI Y 0 k v).1 0 p = Y.1 0 p := fun h => wI_k h
      simp only [g (show 10 ≠ 43 by decide), g (show 0 ≠ 43 by decide), g (show 0 ≠ 44 by decide), g (show 1 ≠ 43 by decide), g (show 1 ≠ 44 by decide), g (show 1 ≠ 45 by decide), g (show 2 ≠ 43 by decide), g (show 2 ≠ 44 by decide), g (show 2 ≠ 45 by decide), g (show 2 ≠ 46 by decide), g (show 32 ≠ 43 by decide), g (show 32 ≠ 44 by decide), g (show 32 ≠ 45 by decide), g (show 32 ≠ 46 by decide), g (show 32 ≠ 47 by decide), g (show 38 ≠ 43 by decide), g (show 38 ≠ 44 by decide), g (show 38 ≠ 45 by decide), g (show 38 ≠ 46 by decide), g (show 38 ≠ 47 by decide), g (show 38 ≠ 48 by decide), g (show 40 ≠ 43 by decide), g (show 40 ≠ 44 by decide), g (show 40 ≠ 45 by decide), g (show 40 ≠ 46 by decide), g (show 40 ≠ 47 by decide), g (show 40 ≠ 48 by decide), g (show 40 ≠ 49 by decide)]
    have e2 : D.1 0 0 = X.1 0 0 := by rw [all 0 (by decide), imX_k (by decide)]
    rw [e2] at d1
    exact e.trans (a1.trans (b1.trans (c1.trans d1)))
  · obtain ⟨z1, z2, z3, z4, z5, z6⟩ := a2 j (Nat.zero_le _) hj
    have o : ∀ q, q ≠ 33 → q ≠ 34 → q ≠ 36 → q ≠ 37 → D.1 q = A.1 q := fun q x y z w => by rw [oD q z w, oC q y, oB q x]
    rw [o 28 (by decide) (by decide) (by decide) (by decide), o 29 (by decide) (by decide) (by decide) (by decide), o 30 (by decide) (by decide) (by decide) (by decide), o 31 (by decide) (by decide) (by decide) (by decide), o 32 (by decide) (by decide) (by decide) (by decide), o 35 (by decide) (by decide) (by decide) (by decide), z1, z2, z3, z4, z5, z6, imX_o (by decide), imX_o (by decide), imX_o (by decide), imX_o (by decide), imX_o (by decide), imX_o (by decide)]
    exact ⟨rfl, rfl, rfl, rfl, rfl, rfl⟩
  · rw [oD 33 (by decide) (by decide), oC 33 (by decide), b2 j (Nat.zero_le _) hj, oA 6 (by decide), imX_o (by decide)]
  · rw [oD 34 (by decide) (by decide), c2 j (Nat.zero_le _) hj, oB 20 (by decide), oA 20 (by decide), imX_o (by decide)]
  · obtain ⟨z1, z2⟩ := d2 j (Nat.zero_le _) hj
    rw [z1, z2, oC 26 (by decide), oC 27 (by decide), oB 26 (by decide), oB 27 (by decide), oA 26 (by decide), oA 27 (by decide), imX_o (by decide), imX_o (by decide)]
    exact ⟨rfl, rfl⟩
theorem st27 : St27 Rel := by
  intro Z Xc Xm ⟨n, m, r, h⟩
  have hn := h.2.1.1
  obtain ⟨q1, q2, q3, q4, q5, q6, q7, q8, q9, q10⟩ := h.1.2.2
  obtain ⟨Y, y1, y2, y3, y4, ⟨l1, l1'⟩, ⟨l2, l2'⟩, ⟨l3, l3'⟩, ⟨l4, l4'⟩, y5, y6⟩ := tall (Z := Z) (a := 60) (b := 47) h.2.2.1.1 (by decide) ⟨q6, q2⟩ ⟨q7, q3⟩ ⟨q8, q4⟩ ⟨q9, q5⟩
  obtain ⟨W, w1, w2, w3, w4, w5, w6, w7, w8⟩ := image_m (X := Xm)
  have fld : ∀ k, (k < 43 ∨ 50 < k) → W.1 0 k = Xm.1 0 k := fun k hk => by rw [w6, imX_k hk]
  have c : ∀ q, q ≠ 0 → (q < 60 ∨ 72 < q) → (wI Y 0 6 1).1 q = Xc.1 q := fun q q0 hq => by rw [wI_c q0, y5 q (by omega)]
  have c0 : ∀ k, k ≠ 6 → (wI Y 0 6 1).1 0 k = Xc.1 0 k := fun k hk => by rw [wI_k hk, y5 0 (by decide)]
  have c60 : ∀ q, q ≠ 0 → (wI Y 0 6 1).1 q = Y.1 q := fun q q0 => wI_c q0
  have kk : ∀ q, q ≠ 0 → (q < 28 ∨ 37 < q) → W.1 q = Xm.1 q := w7
  have i43 : W.1 0 43 = 1 := by rw [w6]; unfold imX; rw [wI_k (by decide), wI_k (by decide), wI_k (by decide), wI_k (by decide), wI_k (by decide), wI_k (by decide), wI_k (by decide), wI_s]
  have i44 : W.1 0 44 = Xm.1 0 10 := by rw [w6]; unfold imX; rw [wI_k (by decide), wI_k (by decide), wI_k (by decide), wI_k (by decide), wI_k (by decide), wI_k (by decide), wI_s]
  have i45 : W.1 0 45 = Xm.1 0 0 := by rw [w6]; unfold imX; rw [wI_k (by decide), wI_k (by decide), wI_k (by decide), wI_k (by decide), wI_k (by decide), wI_s]
  have i46 : W.1 0 46 = Xm.1 0 1 := by rw [w6]; unfold imX; rw [wI_k (by decide), wI_k (by decide), wI_k (by decide), wI_k (by decide), wI_s]
  have i47 : W.1 0 47 = Xm.1 0 2 := by rw [w6]; unfold imX; rw [wI_k (by decide), wI_k (by decide), wI_k (by decide), wI_s]
  have i48 : W.1 0 48 = Xm.1 0 32 := by rw [w6]; unfold imX; rw [wI_k (by decide), wI_k (by decide), wI_s]
  have i49 : W.1 0 49 = Xm.1 0 38 := by rw [w6]; unfold imX; rw [wI_k (by decide), wI_s]
  have i50 : W.1 0 50 = Xm.1 0 40 := by rw [w6]; unfold imX; rw [wI_s]
  have e0 : Y.1 47 0 = Xc.1 47 0 := by rw [y5 47 (by decide)]
  unfold fX11_image
  rw [bnw_of y1, nm_eq, c 47 (by decide) (by decide), w1, h.2.1.2.1, h.2.1.2.2.1]
  refine ⟨_, _, _, rfl, rfl, n, m, r, h.1, ?_, ?_, ?_, ?_, ?_, ?_, ?_, ?_, ?_⟩
  · exact h.2.1.eq (by rw [c 47 (by decide) (by decide)]) (fun o ho => c o (by omega) (by omega)) (fld 0 (by decide)) (kk 1 (by decide) (by decide)) (kk 2 (by decide) (by decide))
  · exact h.2.2.1.eq (by rw [c 47 (by decide) (by decide)]) (by rw [c 47 (by decide) (by decide)]) (fun p a b => c p (by omega) (by omega)) (fld 1 (by decide)) (fld 2 (by decide)) (fun p a b => kk p (by omega) (by omega))
  · exact h.2.2.2.1.eq (c0 2 (by decide)) (by rw [c 47 (by decide) (by decide)]) (fun i a b d => c i (by omega) (by omega)) (fld 9 (by decide)) (fld 10 (by decide)) (fun p a b => kk p (by omega) (by omega))
  · have h5 := h.2.2.2.2.1
    unfold RTx at h5 ⊢
    rw [c 45 (by decide) (by decide), c 46 (by decide) (by decide), fld 11 (by decide), kk 7 (by decide) (by decide)]
    exact h5
  · exact h.2.2.2.2.2.1.eq (fun p a b => c _ (by omega) (by omega)) (fld _ (by decide)) (fld _ (by decide)) (fld _ (by decide)) (kk _ (by decide) (by decide)) (kk _ (by decide) (by decide)) (kk _ (by decide) (by decide)) (kk _ (by decide) (by decide))
  · obtain ⟨a1, a2, a3⟩ := h.2.2.1
    obtain ⟨z1, z2, z3, z4⟩ := h.2.2.2.2.2.1
    refine ⟨by rw [wI_s, i43], Or.inr ⟨i43, n, r, Nat.le_refl _, ?_, ?_, ?_, ⟨fun i hi => ?_, fun i hi => ?_, fun i hi => ?_, fun i hi => ?_, ?_, ?_⟩, a3, ?_, ?_, fun i hi => ?_, ?_, ?_, ?_, ?_⟩⟩
    · rw [c60 60 (by decide), y3]; exact h.2.1.2.1
    · rw [i45]; exact h.2.1.2.2.1
    · exact y2.eq (by rw [c60 60 (by decide)]) (by rw [c60 60 (by decide)]) (fun p x y => c60 _ (by omega))
    · rw [(w2 i (by omega)).2.2.1]; exact a2.1 i hi
    · rw [(w2 i (by omega)).2.2.2.1]; exact a2.2.1 i hi
    · rw [(w2 i (by omega)).2.2.2.2.1]; exact a2.2.2.1 i hi
    · rw [w3 i (by omega)]; exact a2.2.2.2.1 i hi
    · rw [i46]; exact a2.2.2.2.2.1
    · rw [i47]; exact a2.2.2.2.2.2
    · rw [c60 60 (by decide), y4]; exact h.2.2.2.1.2.2.2.1
    · rw [c60 60 (by decide), y4, i44]; exact h.2.2.2.1.2.2.2.2.1
    · rw [(w2 i (by omega)).1, (w2 i (by omega)).2.1, kk 1 (by decide) (by decide), kk 2 (by decide) (by decide)]; exact ⟨rfl, rfl⟩
    · exact z1.cp (by rw [c60 _ (by decide)]; exact l1) (fun j hj => by rw [c60 _ (by decide)]; exact l1' j hj) i48 (fun j hj => w4 j hj)
    · exact z2.cp (by rw [c60 _ (by decide)]; exact l2) (fun j hj => by rw [c60 _ (by decide)]; exact l2' j hj) i49 (fun j hj => (w2 j hj).2.2.2.2.2)
    · exact z3.cp (by rw [c60 _ (by decide)]; exact l3) (fun j hj => by rw [c60 _ (by decide)]; exact l3' j hj) i50 (fun j hj => (w5 j hj).1)
    · exact z4.cp (by rw [c60 _ (by decide)]; exact l4) (fun j hj => by rw [c60 _ (by decide)]; exact l4' j hj) i50 (fun j hj => (w5 j hj).2)
  · have h8 := h.2.2.2.2.2.2.2.1
    unfold RRn at h8 ⊢
    rw [c 142 (by decide) (by decide), c 143 (by decide) (by decide), fld 61 (by decide), kk 38 (by decide) (by decide)]
    exact h8
  · exact h.2.2.2.2.2.2.2.2.1.eq (c _ (by decide) (by decide)) (c _ (by decide) (by decide)) (fun t _ _ => by show Y.2 t = _; rw [y6]) (kk _ (by decide) (by decide)) (kk _ (by decide) (by decide)) (by rw [w8])
  · intro j hj
    rw [kk 15 (by decide) (by decide)]
    exact h.2.2.2.2.2.2.2.2.2 j hj
