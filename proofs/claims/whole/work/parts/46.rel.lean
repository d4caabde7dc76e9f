set_option maxHeartbeats 40000000
set_option maxRecDepth 100000
/-! the relation of the class's data and the reference's -/
def uptoN (k : Nat) (x : Int32) : Prop := ∃ n, n ≤ k ∧ x = Int32.ofNat n
def belN (k : Nat) (x : Int32) : Prop := ∃ n, n < k ∧ x = Int32.ofNat n
def holN (m : Nat) (x : Int32) : Prop := x = -1 ∨ belN m x
def RMi (X : XD) (n : Nat) (r : Rnd) : Prop := (∀ i, i < n → X.1 30 i = Int32.ofNat (rL r i)) ∧ (∀ i, i < n → X.1 31 i = Int32.ofNat (rS r i)) ∧ (∀ i, i < n → X.1 32 i = Int32.ofNat (rG r i)) ∧ (∀ i, i < 4 * n → X.1 33 i = Int32.ofNat (rR r i)) ∧ X.1 0 46 = Int32.ofNat (rA r) ∧ X.1 0 47 = Int32.ofNat (rB r)
theorem RMi.eq {X Y : XD} {n : Nat} {r : Rnd} (h : RMi X n r) (h0 : Y.1 0 46 = X.1 0 46) (h2 : Y.1 0 47 = X.1 0 47) (h1 : ∀ k, 30 ≤ k → k ≤ 33 → Y.1 k = X.1 k) : RMi Y n r := by
  obtain ⟨a1, a2, a3, a4, a5, a6⟩ := h
  refine ⟨fun i hi => ?_, fun i hi => ?_, fun i hi => ?_, fun i hi => ?_, ?_, ?_⟩
  · rw [h1 30 (by decide) (by decide)]; exact a1 i hi
  · rw [h1 31 (by decide) (by decide)]; exact a2 i hi
  · rw [h1 32 (by decide) (by decide)]; exact a3 i hi
  · rw [h1 33 (by decide) (by decide)]; exact a4 i hi
  · rw [h0]; exact a5
  · rw [h2]; exact a6
def RSh (Z : XS) (Xc Xm : XD) (n : Nat) : Prop := n ≤ 6 ∧ Xc.1 47 0 = Int32.ofNat n ∧ Xm.1 0 0 = Int32.ofNat n ∧ ∀ i, i < n → ∃ o k v, sR Z 1 i = some o ∧ CK Z Xc o i k v ∧ MK Xm i k v
theorem RSh.eq {Z : XS} {Xc Xm Yc Ym : XD} {n : Nat} (h : RSh Z Xc Xm n) (c0 : Yc.1 47 0 = Xc.1 47 0) (c1 : ∀ o, 157 ≤ o → Yc.1 o = Xc.1 o) (m0 : Ym.1 0 0 = Xm.1 0 0) (m1 : Ym.1 1 = Xm.1 1) (m2 : Ym.1 2 = Xm.1 2) : RSh Z Yc Ym n := by
  obtain ⟨a1, a2, a3, a4⟩ := h
  refine ⟨a1, by rw [c0]; exact a2, by rw [m0]; exact a3, fun i hi => ?_⟩
  obtain ⟨o, k, v, b1, b2, b3⟩ := a4 i hi
  exact ⟨o, k, v, b1, b2.eq (c1 o b2.1), b3.1, b3.2.1, by rw [m1]; exact b3.2.2.1, by rw [m2]; exact b3.2.2.2⟩
def RRd (Xc Xm : XD) (n : Nat) (r : Rnd) : Prop := RT Xc 47 r ∧ RM Xm n r ∧ RI n r
theorem RRd.eq {Xc Xm Yc Ym : XD} {n : Nat} {r : Rnd} (h : RRd Xc Xm n r) (c2 : Yc.1 47 2 = Xc.1 47 2) (c3 : Yc.1 47 3 = Xc.1 47 3) (c4 : ∀ k, 48 ≤ k → k ≤ 51 → Yc.1 k = Xc.1 k) (m1 : Ym.1 0 1 = Xm.1 0 1) (m2 : Ym.1 0 2 = Xm.1 0 2) (m3 : ∀ k, 3 ≤ k → k ≤ 6 → Ym.1 k = Xm.1 k) : RRd Yc Ym n r := ⟨h.1.eq c2 c3 (fun k a b => c4 _ (by omega) (by omega)), h.2.1.eq m1 m2 m3, h.2.2⟩
def RG1 (Xc Xm : XD) (j : Nat) (G : List Cl) : Prop := (∀ q ∈ G, okC q) ∧ G.length ≤ 10 ∧ Xc.1 (3 + 7 * j) 4 = Int32.ofNat G.length ∧ GCl Xc (3 + 7 * j) 0 G ∧ Xm.1 8 j = Int32.ofNat G.length ∧ GMl Xm (10 * j) G ∧ ∀ i, i < G.length → ∃ b, b ≤ 100 * (j + 1) ∧ Xm.1 12 (10 * j + i) = Int32.ofNat b
def RGd (Xc Xm : XD) (m : Nat) : Prop := m ≤ 6 ∧ Xc.1 0 2 = Int32.ofNat m ∧ Xm.1 0 9 = Int32.ofNat m ∧ holN m (Xc.1 47 1) ∧ Xm.1 0 10 = Xc.1 47 1 ∧ ∀ j, j < m → ∃ G, RG1 Xc Xm j G
theorem RG1.eq {Xc Xm Yc Ym : XD} {j : Nat} {G : List Cl} (h : RG1 Xc Xm j G) (hj : j < 6) (c : ∀ i, 3 ≤ i → i ≤ 44 → i % 7 ≠ 2 → Yc.1 i = Xc.1 i) (m : ∀ k, 8 ≤ k → k ≤ 13 → Ym.1 k = Xm.1 k) : RG1 Yc Ym j G := by
  obtain ⟨a1, a2, a3, a4, a5, a6, a7⟩ := h
  exact ⟨a1, a2, by rw [c _ (by omega) (by omega) (by omega)]; exact a3, a4.eq (fun k k1 k2 => c _ (by omega) (by omega) (by omega)), by rw [m 8 (by decide) (by decide)]; exact a5, a6.eq (m _ (by decide) (by decide)) (m _ (by decide) (by decide)) (m _ (by decide) (by decide)) (m _ (by decide) (by decide)) (m _ (by decide) (by decide)), fun i hi => by rw [m 12 (by decide) (by decide)]; exact a7 i hi⟩
theorem RGd.eq {Xc Xm Yc Ym : XD} {q : Nat} (h : RGd Xc Xm q) (c0 : Yc.1 0 2 = Xc.1 0 2) (c1 : Yc.1 47 1 = Xc.1 47 1) (c : ∀ i, 3 ≤ i → i ≤ 44 → i % 7 ≠ 2 → Yc.1 i = Xc.1 i) (m9 : Ym.1 0 9 = Xm.1 0 9) (m10 : Ym.1 0 10 = Xm.1 0 10) (m : ∀ k, 8 ≤ k → k ≤ 13 → Ym.1 k = Xm.1 k) : RGd Yc Ym q := by
  obtain ⟨a1, a2, a3, a4, a5, a6⟩ := h
  refine ⟨a1, by rw [c0]; exact a2, by rw [m9]; exact a3, by rw [c1]; exact a4, by rw [c1, m10]; exact a5, fun j hj => ?_⟩
  obtain ⟨G, g⟩ := a6 j hj
  exact ⟨G, g.eq (by omega) c m⟩
def RTx (Xc Xm : XD) : Prop := CRow 100 (uptoN 127) (Xc.1 45 1) (Xc.1 46) (Xm.1 0 11) (Xm.1 7)
/-- the lists of a table at t, against the reference's fields a b c and rows d e f g -/
def RLs (Xc Xm : XD) (n t a b c d e f g : Nat) : Prop := CRow 4 (belN n) (Xc.1 (t + 5) 1) (Xc.1 (t + 6)) (Xm.1 0 a) (Xm.1 d) ∧ CRow 6 (uptoN 2) (Xc.1 (t + 7) 1) (Xc.1 (t + 8)) (Xm.1 0 b) (Xm.1 e) ∧ CRow 10 (belN n) (Xc.1 (t + 9) 1) (Xc.1 (t + 10)) (Xm.1 0 c) (Xm.1 f) ∧ CRow 10 (uptoN 99) (Xc.1 (t + 11) 1) (Xc.1 (t + 12)) (Xm.1 0 c) (Xm.1 g)
theorem RLs.eq {Xc Xm Yc Ym : XD} {n t a b c d e f g : Nat} (h : RLs Xc Xm n t a b c d e f g) (h1 : ∀ k, 5 ≤ k → k ≤ 12 → Yc.1 (t + k) = Xc.1 (t + k)) (ha : Ym.1 0 a = Xm.1 0 a) (hb : Ym.1 0 b = Xm.1 0 b) (hc : Ym.1 0 c = Xm.1 0 c) (hd : Ym.1 d = Xm.1 d) (he : Ym.1 e = Xm.1 e) (hf : Ym.1 f = Xm.1 f) (hg : Ym.1 g = Xm.1 g) : RLs Yc Ym n t a b c d e f g := by
  unfold RLs at h ⊢
  rw [h1 5 (by decide) (by decide), h1 6 (by decide) (by decide), h1 7 (by decide) (by decide), h1 8 (by decide) (by decide), h1 9 (by decide) (by decide), h1 10 (by decide) (by decide), h1 11 (by decide) (by decide), h1 12 (by decide) (by decide), ha, hb, hc, hd, he, hf, hg]
  exact h
def RLn (Xc Xm : XD) (n : Nat) : Prop := RLs Xc Xm n 47 32 38 40 20 25 26 27
def RIm (Xc Xm : XD) (n m : Nat) : Prop := Xc.1 0 6 = Xm.1 0 43 ∧ (Xm.1 0 43 = 0 ∨ Xm.1 0 43 = 1 ∧ ∃ ni r, ni ≤ n ∧ Xc.1 60 0 = Int32.ofNat ni ∧ Xm.1 0 45 = Int32.ofNat ni ∧ RT Xc 60 r ∧ RMi Xm ni r ∧ RI ni r ∧ holN m (Xc.1 60 1) ∧ Xm.1 0 44 = Xc.1 60 1 ∧ (∀ i, i < ni → Xm.1 28 i = Xm.1 1 i ∧ Xm.1 29 i = Xm.1 2 i) ∧ RLs Xc Xm ni 60 48 49 50 34 35 36 37)
theorem RIm.eq {Xc Xm Yc Ym : XD} {n m n' m' : Nat} (h : RIm Xc Xm n m) (hn : n ≤ n') (hm : m ≤ m') (c0 : Yc.1 0 6 = Xc.1 0 6) (c1 : ∀ k, 60 ≤ k → k ≤ 72 → Yc.1 k = Xc.1 k) (m0 : ∀ k, 43 ≤ k → k ≤ 50 → Ym.1 0 k = Xm.1 0 k) (m1 : ∀ k, 28 ≤ k → k ≤ 37 → Ym.1 k = Xm.1 k) (k1 : ∀ i, i < n → Ym.1 1 i = Xm.1 1 i) (k2 : ∀ i, i < n → Ym.1 2 i = Xm.1 2 i) : RIm Yc Ym n' m' := by
  obtain ⟨a1, a2⟩ := h
  refine ⟨by rw [c0, m0 43 (by decide) (by decide)]; exact a1, ?_⟩
  rw [m0 43 (by decide) (by decide)]
  rcases a2 with a2 | ⟨a2, ni, r, b1, b2, b3, b4, b5, b6, b7, b8, b9, b10⟩
  · exact Or.inl a2
  · refine Or.inr ⟨a2, ni, r, by omega, ?_, ?_, ?_, ?_, b6, ?_, ?_, fun i hi => ?_, ?_⟩
    · rw [c1 60 (by decide) (by decide)]; exact b2
    · rw [m0 45 (by decide) (by decide)]; exact b3
    · exact b4.eq (by rw [c1 60 (by decide) (by decide)]) (by rw [c1 60 (by decide) (by decide)]) (fun k x y => c1 _ (by omega) (by omega))
    · exact b5.eq (m0 _ (by decide) (by decide)) (m0 _ (by decide) (by decide)) (fun k x y => m1 _ (by omega) (by omega))
    · rw [c1 60 (by decide) (by decide)]
      rcases b7 with b7 | ⟨j, j1, j2⟩
      · exact Or.inl b7
      · exact Or.inr ⟨j, by omega, j2⟩
    · rw [c1 60 (by decide) (by decide), m0 44 (by decide) (by decide)]; exact b8
    · rw [m1 28 (by decide) (by decide), m1 29 (by decide) (by decide), k1 i (by omega), k2 i (by omega)]; exact b9 i hi
    · exact b10.eq (fun k x y => c1 _ (by omega) (by omega)) (m0 _ (by decide) (by decide)) (m0 _ (by decide) (by decide)) (m0 _ (by decide) (by decide)) (m1 _ (by decide) (by decide)) (m1 _ (by decide) (by decide)) (m1 _ (by decide) (by decide)) (m1 _ (by decide) (by decide))
def RRn (Xc Xm : XD) : Prop := Xc.1 142 2 = Xm.1 0 61 ∧ CRow 20 (fun _ => True) (Xc.1 142 1) (Xc.1 143) (Xm.1 0 61) (Xm.1 38)
def RTp (Xc Xm : XD) : Prop := ∀ t, t < 6 → Xc.1 151 t = Xm.1 39 t ∧ Xc.1 152 t = Xm.1 40 t ∧ (∃ l, l ≤ 60 ∧ Xm.1 40 t = Int32.ofNat l ∧ (Xm.1 39 t = -1 ∧ l = 0 ∨ uptoN 4 (Xm.1 39 t))) ∧ ∀ j, j < 60 → Xc.2 (145 + t) j = Xm.2 41 (60 * t + j)
theorem RTp.eq {Xc Xm Yc Ym : XD} (h : RTp Xc Xm) (c1 : Yc.1 151 = Xc.1 151) (c2 : Yc.1 152 = Xc.1 152) (c3 : ∀ t, 145 ≤ t → t ≤ 150 → Yc.2 t = Xc.2 t) (m1 : Ym.1 39 = Xm.1 39) (m2 : Ym.1 40 = Xm.1 40) (m3 : Ym.2 41 = Xm.2 41) : RTp Yc Ym := by
  intro t ht
  rw [c1, c2, m1, m2, m3, c3 (145 + t) (by omega) (by omega)]
  exact h t ht
def lettersM : List Nat := [105, 110, 115, 97, 118, 101, 108, 101, 102, 116, 114, 105, 103, 104, 116, 115, 116, 97, 121]
def RLt (Xm : XD) : Prop := ∀ j, j < 19 → Xm.1 15 j = Int32.ofNat (lettersM.getD j 0)
def LenC (Z : XS) : Prop := sL Z 46 = 100 ∧ sL Z 53 = 4 ∧ sL Z 55 = 6 ∧ sL Z 57 = 10 ∧ sL Z 59 = 10 ∧ sL Z 66 = 4 ∧ sL Z 68 = 6 ∧ sL Z 70 = 10 ∧ sL Z 72 = 10 ∧ sL Z 143 = 20
def RB (Z : XS) (Xc Xm : XD) (n m : Nat) (r : Rnd) : Prop := (LayC Z ∧ 157 ≤ sn Z ∧ LenC Z) ∧ RSh Z Xc Xm n ∧ RRd Xc Xm n r ∧ RGd Xc Xm m ∧ RTx Xc Xm ∧ RLn Xc Xm n ∧ RIm Xc Xm n m ∧ RRn Xc Xm ∧ RTp Xc Xm ∧ RLt Xm
def Rel (Z : XS) (Xc Xm : XD) : Prop := ∃ n m r, RB Z Xc Xm n m r
/-! what may change unseen -/
def scrC (i : Nat) : Prop := (9 ≤ i ∧ i ≤ 44 ∧ i % 7 = 2) ∨ (74 ≤ i ∧ i ≤ 141) ∨ i = 155 ∨ i = 156
def eqC (X Y : XD) : Prop := (∀ i, ¬ scrC i → Y.1 i = X.1 i) ∧ ∀ i, i < 153 → Y.2 i = X.2 i
theorem eqC.rfl {X : XD} : eqC X X := ⟨fun _ _ => Eq.refl _, fun _ _ => Eq.refl _⟩
theorem eqC.trans {X Y Z : XD} (h : eqC X Y) (h2 : eqC Y Z) : eqC X Z := ⟨fun i q => (h2.1 i q).trans (h.1 i q), fun i q => (h2.2 i q).trans (h.2 i q)⟩
theorem eqV.C {X Y : XD} (h : eqV X Y) : eqC X Y := ⟨fun i q => h.2 i (by unfold scrV; unfold scrC at q; omega), fun i _ => by rw [h.1]⟩
def scrM (i : Nat) : Prop := i = 0 ∨ (16 ≤ i ∧ i ≤ 19) ∨ i = 21 ∨ i = 22
def eqM (X Y : XD) : Prop := (∀ i, ¬ scrM i → Y.1 i = X.1 i) ∧ (∀ k, k ≠ 27 → k ≠ 28 → Y.1 0 k = X.1 0 k) ∧ Y.2 41 = X.2 41
theorem eqM.rfl {X : XD} : eqM X X := ⟨fun _ _ => Eq.refl _, fun _ _ _ => Eq.refl _, Eq.refl _⟩
theorem eqM.trans {X Y Z : XD} (h : eqM X Y) (h2 : eqM Y Z) : eqM X Z := ⟨fun i q => (h2.1 i q).trans (h.1 i q), fun i q w => (h2.2.1 i q w).trans (h.2.1 i q w), h2.2.2.trans h.2.2⟩
theorem eqP.M {X Y : XD} (h : eqP X Y) : eqM X Y := ⟨fun i q => h.2 i (by unfold scrM at q; omega), fun k _ _ => by rw [h.2 0 (by decide)], by rw [h.1]⟩
theorem RB.frame {Z : XS} {Xc Xm Yc Ym : XD} {n m : Nat} {r : Rnd} (h : RB Z Xc Xm n m r) (hc : eqC Xc Yc) (hm : eqM Xm Ym) : RB Z Yc Ym n m r := by
  obtain ⟨h1, h2, h3, h4, h5, h6, h7, h8, h9, h10⟩ := h
  have c : ∀ i, ¬ scrC i → Yc.1 i = Xc.1 i := hc.1
  have m : ∀ i, ¬ scrM i → Ym.1 i = Xm.1 i := hm.1
  have m0 : ∀ k, k ≠ 27 → k ≠ 28 → Ym.1 0 k = Xm.1 0 k := hm.2.1
  have c47 : Yc.1 47 = Xc.1 47 := c 47 (by unfold scrC; omega)
  have c00 : Yc.1 0 = Xc.1 0 := c 0 (by unfold scrC; omega)
  refine ⟨h1, ?_, ?_, ?_, ?_, ?_, ?_, ?_, ?_, ?_⟩
  · exact h2.eq (by rw [c47]) (fun o ho => c o (by unfold scrC; omega)) (m0 _ (by decide) (by decide)) (m _ (by unfold scrM; omega)) (m _ (by unfold scrM; omega))
  · exact h3.eq (by rw [c47]) (by rw [c47]) (fun k a b => c _ (by unfold scrC; omega)) (m0 _ (by decide) (by decide)) (m0 _ (by decide) (by decide)) (fun k a b => m _ (by unfold scrM; omega))
  · exact h4.eq (by rw [c00]) (by rw [c47]) (fun i a b d => c _ (by unfold scrC; omega)) (m0 _ (by decide) (by decide)) (m0 _ (by decide) (by decide)) (fun k a b => m _ (by unfold scrM; omega))
  · unfold RTx at h5 ⊢
    rw [c 45 (by unfold scrC; omega), c 46 (by unfold scrC; omega), m0 11 (by decide) (by decide), m 7 (by unfold scrM; omega)]
    exact h5
  · exact h6.eq (fun k a b => c _ (by unfold scrC; omega)) (m0 _ (by decide) (by decide)) (m0 _ (by decide) (by decide)) (m0 _ (by decide) (by decide)) (m _ (by unfold scrM; omega)) (m _ (by unfold scrM; omega)) (m _ (by unfold scrM; omega)) (m _ (by unfold scrM; omega))
  · exact h7.eq (Nat.le_refl _) (Nat.le_refl _) (by rw [c00]) (fun k a b => c _ (by unfold scrC; omega)) (fun k a b => m0 _ (by omega) (by omega)) (fun k a b => m _ (by unfold scrM; omega)) (fun i _ => by rw [m 1 (by unfold scrM; omega)]) (fun i _ => by rw [m 2 (by unfold scrM; omega)])
  · unfold RRn at h8 ⊢
    rw [c 142 (by unfold scrC; omega), c 143 (by unfold scrC; omega), m0 61 (by decide) (by decide), m 38 (by unfold scrM; omega)]
    exact h8
  · exact h9.eq (c _ (by unfold scrC; omega)) (c _ (by unfold scrC; omega)) (fun t a b => hc.2 t (by omega)) (m _ (by unfold scrM; omega)) (m _ (by unfold scrM; omega)) hm.2.2
  · intro j hj
    rw [m 15 (by unfold scrM; omega)]
    exact h10 j hj
theorem Rel.frame {Z : XS} {Xc Xm Yc Ym : XD} (h : Rel Z Xc Xm) (hc : eqC Xc Yc) (hm : eqM Xm Ym) : Rel Z Yc Ym := by
  obtain ⟨n, m, r, h⟩ := h
  exact ⟨n, m, r, h.frame hc hm⟩
/-- the ground that holds -/
theorem RGd.hold {Xc Xm : XD} {m : Nat} (h : RGd Xc Xm m) : ∃ G, HC Xc G ∧ HM Xm G := by
  obtain ⟨a1, a2, a3, a4, a5, a6⟩ := h
  rcases a4 with a4 | ⟨j, j1, j2⟩
  · exact ⟨[], ⟨fun q h => absurd h List.not_mem_nil, by decide, Or.inl ⟨a4, rfl⟩⟩, fun q h => absurd h List.not_mem_nil, by decide, Or.inl ⟨a5.trans a4, rfl⟩⟩
  · obtain ⟨G, b1, b2, b3, b4, b5, b6, _⟩ := a6 j j1
    exact ⟨G, ⟨b1, b2, Or.inr ⟨j, by omega, j2, b3, b4⟩⟩, b1, b2, Or.inr ⟨j, by omega, a5.trans j2, b5, b6⟩⟩
/-- who is asked for -/
theorem RSh.find {Z : XS} {Xc Xm : XD} {n : Nat} (h : RSh Z Xc Xm n) (x : Int32) : (fX11_find Z x Xc = some none ∧ fX12_isShooter x Xm = some 0) ∨ ∃ i o k v, i < n ∧ x = Int32.ofNat i ∧ sR Z 1 i = some o ∧ CK Z Xc o i k v ∧ MK Xm i k v ∧ fX11_find Z x Xc = some (some o) ∧ fX12_isShooter x Xm = some 1 := by
  obtain ⟨a1, a2, a3, a4⟩ := h
  rcases find_cases (P := fun i o => ∃ k v, CK Z Xc o i k v ∧ MK Xm i k v) a2 a3 a1 (fun i hi => by
    obtain ⟨o, k, v, b1, b2, b3⟩ := a4 i hi
    exact ⟨o, b1, k, v, b2, b3⟩) x with c | ⟨i, o, b1, b2, b3, ⟨k, v, b4, b5⟩, b6, b7⟩
  · exact Or.inl c
  · exact Or.inr ⟨i, o, k, v, b1, b2, b3, b4, b5, b6, b7⟩
