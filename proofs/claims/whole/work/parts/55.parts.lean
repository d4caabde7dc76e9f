set_option maxHeartbeats 40000000
set_option maxRecDepth 100000
/-! how likely so many are in: the reference's ways-/
def eqA (X Y : XD) : Prop := (∀ q, q ≠ 0 → q ≠ 3 → q ≠ 4 → q ≠ 5 → ¬ (16 ≤ q ∧ q ≤ 19) → Y.1 q = X.1 q) ∧ ∀ k, k ≠ 1 → k ≠ 2 → k ≠ 27 → k ≠ 28 → Y.1 0 k = X.1 0 k
theorem eqA.rfl {X : XD} : eqA X X := ⟨fun _ _ _ _ _ _ => Eq.refl _, fun _ _ _ _ _ => Eq.refl _⟩
theorem eqA.trans {X Y Z : XD} (h : eqA X Y) (h2 : eqA Y Z) : eqA X Z := ⟨fun q a b c d e => (h2.1 q a b c d e).trans (h.1 q a b c d e), fun k a b c d => (h2.2 k a b c d).trans (h.2 k a b c d)⟩
theorem eqN.A {X Y : XD} (h : eqN X Y) : eqA X Y := h.2
theorem HM.a {X Y : XD} (h : eqA X Y) {G : List Cl} (z : HM X G) : HM Y G := z.eq (h.2 10 (by decide) (by decide) (by decide) (by decide)) (h.1 _ (by decide) (by decide) (by decide) (by decide) (by decide)) (h.1 _ (by decide) (by decide) (by decide) (by decide) (by decide)) (h.1 _ (by decide) (by decide) (by decide) (by decide) (by decide)) (h.1 _ (by decide) (by decide) (by decide) (by decide) (by decide)) (h.1 _ (by decide) (by decide) (by decide) (by decide) (by decide)) (h.1 _ (by decide) (by decide) (by decide) (by decide) (by decide))
theorem MK.a {X Y : XD} {i k v : Nat} (h : MK X i k v) (q : eqA X Y) : MK Y i k v := ⟨h.1, h.2.1, by rw [q.1 1 (by decide) (by decide) (by decide) (by decide) (by decide)]; exact h.2.2.1, by rw [q.1 2 (by decide) (by decide) (by decide) (by decide) (by decide)]; exact h.2.2.2⟩
/-- a way of being in or not -/
def pth (G : List Cl) (kd vd : Nat → Nat) (wy : Nat) : List Nat → Rnd → Nat → Nat → Nat → Nat × Nat
  | [], _, g, w, _ => (g, w)
  | i :: L, r, g, w, k => if wy.testBit k then pth G kd vd wy L (rGo r i (aiK G kd vd r i) true) (g + 1) (w * cnK G kd vd r i) (k + 1) else pth G kd vd wy L (rGo r i (aiK G kd vd r i) false) g (w * (100 - cnK G kd vd r i)) (k + 1)
def val (p : Nat × Nat) (j : Nat) : Nat := if j = p.1 then p.2 else 0
def sumW : Nat → (Nat → Nat) → Nat
  | 0, _ => 0
  | N + 1, F => sumW N F + F N
theorem sumW_2 {F : Nat → Nat} : ∀ N, sumW (2 * N) F = sumW N (fun m => F (2 * m) + F (2 * m + 1)) := by
  intro N
  induction N with
  | zero => rfl
  | succ N ih =>
    show sumW (2 * N + 1 + 1) F = sumW N _ + (F (2 * N) + F (2 * N + 1))
    show sumW (2 * N) F + F (2 * N) + F (2 * N + 1) = _
    rw [ih]
    omega
theorem sumW_add {F H : Nat → Nat} : ∀ N, sumW N (fun m => F m + H m) = sumW N F + sumW N H := by
  intro N
  induction N with
  | zero => rfl
  | succ N ih =>
    show sumW N (fun m => F m + H m) + (F N + H N) = sumW N F + F N + (sumW N H + H N)
    rw [ih]; omega
theorem sumW_ext {F H : Nat → Nat} : ∀ N, (∀ m, m < N → F m = H m) → sumW N F = sumW N H := by
  intro N
  induction N with
  | zero => intro _; rfl
  | succ N ih =>
    intro h
    show sumW N F + F N = sumW N H + H N
    rw [ih (fun m hm => h m (by omega)), h N (by omega)]
theorem pth_sh {G : List Cl} {kd vd : Nat → Nat} {a b : Nat} (hb : b < 2) : ∀ (L : List Nat) (r : Rnd) (g w k : Nat), pth G kd vd (2 * a + b) L r g w (k + 1) = pth G kd vd a L r g w k := by
  intro L
  induction L with
  | nil => intro r g w k; rfl
  | cons i L ih =>
    intro r g w k
    have e : (2 * a + b).testBit (k + 1) = a.testBit k := by
      rw [Nat.testBit_succ, show (2 * a + b) / 2 = a by omega]
    show (if (2 * a + b).testBit (k + 1) then _ else _) = if a.testBit k then _ else _
    rw [e, ih, ih]
theorem sum_pth {G : List Cl} {kd vd : Nat → Nat} {j : Nat} : ∀ (L : List Nat) (r : Rnd) (g w : Nat), sumW (2 ^ L.length) (fun m => val (pth G kd vd m L r g w 0) j) = Dd G kd vd L r g w j := by
  intro L
  induction L with
  | nil => intro r g w; show 0 + val (g, w) j = if j = g then w else 0; rw [Nat.zero_add]; rfl
  | cons i L ih =>
    intro r g w
    have e : 2 ^ (i :: L).length = 2 * 2 ^ L.length := by show 2 ^ (L.length + 1) = _; rw [Nat.pow_succ]; omega
    rw [e, sumW_2]
    show _ = Dd G kd vd L (rGo r i (aiK G kd vd r i) true) (g + 1) (w * cnK G kd vd r i) j + Dd G kd vd L (rGo r i (aiK G kd vd r i) false) g (w * (100 - cnK G kd vd r i)) j
    rw [← ih, ← ih, Nat.add_comm, ← sumW_add]
    refine sumW_ext _ fun m hm => ?_
    have h0 : pth G kd vd (2 * m) (i :: L) r g w 0 = pth G kd vd m L (rGo r i (aiK G kd vd r i) false) g (w * (100 - cnK G kd vd r i)) 0 := by
      show (if (2 * m).testBit 0 then _ else _) = _
      rw [if_neg (by rw [Nat.testBit_zero]; simp)]
      exact pth_sh (b := 0) (by decide) L _ _ _ _
    have h1 : pth G kd vd (2 * m + 1) (i :: L) r g w 0 = pth G kd vd m L (rGo r i (aiK G kd vd r i) true) (g + 1) (w * cnK G kd vd r i) 0 := by
      show (if (2 * m + 1).testBit 0 then _ else _) = _
      rw [if_pos (by rw [Nat.testBit_zero]; simp)]
      exact pth_sh (b := 1) (by decide) L _ _ _ _
    rw [h0, h1]
theorem has_m {w k : Nat} {X : XD} (hw : w < 16) (hk : k < 4) : fX12_has (Int32.ofNat w) (Int32.ofNat k) X = some (b2 (w.testBit k)) := by
  unfold fX12_has
  by_cases z : w.testBit k = true
  · rw [if_pos ((bitc hw hk).mpr z), z]; rfl
  · rw [if_neg (fun y => z ((bitc hw hk).mp y)), show w.testBit k = false by simpa using z]; rfl
theorem way_m {M0 : XD} {n N : Nat} {r : Rnd} {G : List Cl} {kd vd pl ln : Nat → Nat} {wy : Nat} (hM : HM M0 G) (hW : ∀ i, i < n → MK M0 i (kd i) (vd i)) (hn : n ≤ 6) (hN : N ≤ 4) (hl : M0.1 0 32 = Int32.ofNat N) (hln : ∀ j, j < N → M0.1 20 j = Int32.ofNat (ln j) ∧ ln j < n) (hpl : ∀ k, k < N → M0.1 21 k = Int32.ofNat (pl k) ∧ pl k < N) (hwy : wy < 16) (kk : Int32 → XD → Option (Unit × XD)) : ∀ (d k m g w : Nat) (r' : Rnd) (X : XD), k + d = N → d < m → g ≤ k → eqA M0 X → RM X n r' → RI n r' → RK X n r → ∃ Y, fX12_layParts_44 kk m (Int32.ofNat wy) (Int64.ofNat w) (Int32.ofNat g) (Int32.ofNat k) X = kk (Int32.ofNat (wy + 1)) Y ∧ eqA M0 Y ∧ RM Y n r ∧ (∀ q, q ≠ 23 → Y.2 q = X.2 q) ∧ ∀ j, j < 5 → Y.2 23 j = X.2 23 j + Int64.ofNat (val (pth G kd vd wy (shs (fun q => ln (pl q)) k d) r' g w k) j) := by
  intro d
  induction d with
  | zero =>
    intro k m g w r' X h1 h2 h3 h4 h5 h6 h7
    obtain ⟨m, rfl⟩ : ∃ q, m = q + 1 := ⟨m - 1, by omega⟩
    have e1 : X.1 0 32 = Int32.ofNat N := by rw [h4.2 32 (by decide) (by decide) (by decide) (by decide)]; exact hl
    obtain ⟨W, w1, w2, w3, w4⟩ := put_m hn h7
    rw [fX12_layParts_44_s, e1, if_pos ((o_le (by omega) (by omega)).mpr (by omega)), bnw_of w1, gin_o (by omega) (by omega), gin_o (by omega) (by omega), nm_eq, nm_eq, i32n (by omega), show Int32.ofNat wy + 1 = Int32.ofNat (wy + 1) from o_add wy 1]
    refine ⟨_, rfl, h4.trans (w3.A.trans ⟨fun q _ _ _ _ _ => rfl, fun k _ _ _ _ => rfl⟩), w2, fun q hq => by rw [wJ_c hq, w4], fun j hj => ?_⟩
    show _ = X.2 23 j + Int64.ofNat (if j = g then w else 0)
    rw [w4]
    by_cases e : j = g
    · subst e; rw [wJ_s, if_pos rfl]
    · rw [wJ_k e, if_neg e, show Int64.ofNat 0 = 0 from rfl, Int64.add_zero, w4]
  | succ d ih =>
    intro k m g w r' X h1 h2 h3 h4 h5 h6 h7
    obtain ⟨m, rfl⟩ : ∃ q, m = q + 1 := ⟨m - 1, by omega⟩
    have e1 : X.1 0 32 = Int32.ofNat N := by rw [h4.2 32 (by decide) (by decide) (by decide) (by decide)]; exact hl
    obtain ⟨p1, p2⟩ := hpl k (by omega)
    have p1x : X.1 21 k = Int32.ofNat (pl k) := by rw [h4.1 21 (by decide) (by decide) (by decide) (by decide) (by decide)]; exact p1
    obtain ⟨l1, l2⟩ := hln (pl k) p2
    have l1x : X.1 20 (pl k) = Int32.ofNat (ln (pl k)) := by rw [h4.1 20 (by decide) (by decide) (by decide) (by decide) (by decide)]; exact l1
    obtain ⟨i, ei⟩ : ∃ i, i = ln (pl k) := ⟨_, rfl⟩
    rw [← ei] at l1 l2 l1x
    have hk := hW i l2
    obtain ⟨U, u1, u2⟩ := cn_m ⟨hn, h5, h6, hM.a h4⟩ l2 (hk.a h4)
    have hcn := cnA_le (r := r') (i := i) (k := kd i) (v := vd i) (G := G)
    have eshs : shs (fun q => ln (pl q)) k (d + 1) = i :: shs (fun q => ln (pl q)) (k + 1) d := by rw [ei]; rfl
    rw [fX12_layParts_44_s, e1, if_neg (show ¬ Int32.ofNat N ≤ Int32.ofNat k by rw [o_le (by omega) (by omega)]; omega), gin_o (by omega) (by omega), i32n (show k < 2147483648 by omega), p1x, gin_o (by omega) (by omega), nm_eq, i32n (by omega), l1x, bnd_of (has_m hwy (by omega)), bnw_of u1, eshs]
    have hA2 : aiA r' i (kd i) (vd i) G ≤ 2 := aiA_le h6
    have go : ∀ (b : Bool) (c g' : Nat), g' ≤ k + 1 → g' = g + (if b then 1 else 0) → ∃ Y, fX12_layParts_116 kk (fX12_layParts_44 kk m) (Int32.ofNat wy) (Int64.ofNat (w * c)) (Int32.ofNat k) (Int32.ofNat i) (b2 b) (b2 b) (Int32.ofNat g) U = kk (Int32.ofNat (wy + 1)) Y ∧ eqA M0 Y ∧ RM Y n r ∧ (∀ q, q ≠ 23 → Y.2 q = X.2 q) ∧ ∀ j, j < 5 → Y.2 23 j = X.2 23 j + Int64.ofNat (val (pth G kd vd wy (shs (fun q => ln (pl q)) (k + 1) d) (rGo r' i (aiA r' i (kd i) (vd i) G) b) g' (w * c) (k + 1)) j) := by
      intro b c g' hg' eg
      obtain ⟨V, v1, v2, v3⟩ := go_m (b := b) ⟨hn, h5.p u2, h6, hM.a (h4.trans u2.N.A)⟩ l2 (hk.a (h4.trans u2.N.A))
      unfold fX12_layParts_116
      rw [nm_eq, bnw_of v1, nm_eq, show Int32.ofNat k + 1 = Int32.ofNat (k + 1) from o_add k 1, show Int32.ofNat g + b2 b = Int32.ofNat g' from by
        cases b with
        | false => rw [eg]; exact o_add g 0
        | true => rw [eg]; exact o_add g 1]
      obtain ⟨Y, y1, y2, y3, y4, y5⟩ := ih (k + 1) m g' (w * c) _ V (by omega) (by omega) hg' (h4.trans (u2.N.A.trans v3.N.A)) v2.2.1 v2.2.2.1 ((h7.g u2.G).g v3)
      have e2 : V.2 = X.2 := v3.1.trans u2.1
      exact ⟨Y, y1, y2, y3, fun q hq => by rw [y4 q hq, e2], fun j hj => by rw [y5 j hj, e2]⟩
    unfold fX12_layParts_102
    rw [nm_eq, nm_eq]
    by_cases z : wy.testBit k = true
    · rw [z, if_neg (show ¬ b2 true = 0 by decide), if_neg (show ¬ b2 true = 0 by decide), o_64 (by omega), l_mul]
      obtain ⟨Y, y1, y2, y3, y4, y5⟩ := go true (cnA r' i (kd i) (vd i) G) (g + 1) (by omega) rfl
      refine ⟨Y, y1, y2, y3, y4, fun j hj => (y5 j hj).trans ?_⟩
      show _ = _ + Int64.ofNat (val (if wy.testBit k then _ else _) j)
      rw [if_pos z]
      rfl
    · rw [show wy.testBit k = false by simpa using z, if_pos (show b2 false = 0 by decide), if_pos (show b2 false = 0 by decide), show (100 : Int32) - Int32.ofNat (cnA r' i (kd i) (vd i) G) = Int32.ofNat (100 - cnA r' i (kd i) (vd i) G) from o_sub (a := 100) hcn, o_64 (by omega), l_mul]
      obtain ⟨Y, y1, y2, y3, y4, y5⟩ := go false (100 - cnA r' i (kd i) (vd i) G) g (by omega) rfl
      refine ⟨Y, y1, y2, y3, y4, fun j hj => (y5 j hj).trans ?_⟩
      show _ = _ + Int64.ofNat (val (if wy.testBit k then _ else _) j)
      rw [if_neg z]
      rfl
theorem ways_m {M0 : XD} {n N : Nat} {r : Rnd} {G : List Cl} {kd vd pl ln : Nat → Nat} (hM : HM M0 G) (hW : ∀ i, i < n → MK M0 i (kd i) (vd i)) (hn : n ≤ 6) (hN : N ≤ 4) (hl : M0.1 0 32 = Int32.ofNat N) (hln : ∀ j, j < N → M0.1 20 j = Int32.ofNat (ln j) ∧ ln j < n) (hpl : ∀ k, k < N → M0.1 21 k = Int32.ofNat (pl k) ∧ pl k < N) (hI : RI n r) : ∀ (d wy m : Nat) (X : XD), wy + d = 2 ^ N → d < m → eqA M0 X → RM X n r → ∃ Y, fX12_layParts_22 m (Int32.ofNat wy) X = some ((), Y) ∧ eqA M0 Y ∧ RM Y n r ∧ (∀ q, q ≠ 23 → Y.2 q = X.2 q) ∧ ∀ j, j < 5 → Y.2 23 j + Int64.ofNat (sumW wy (fun m => val (pth G kd vd m (shs (fun q => ln (pl q)) 0 N) r 0 1 0) j)) = X.2 23 j + Int64.ofNat (Dd G kd vd (shs (fun q => ln (pl q)) 0 N) r 0 1 j) := by
  have hN2 : 2 ^ N ≤ 16 := by rcases (show N = 0 ∨ N = 1 ∨ N = 2 ∨ N = 3 ∨ N = 4 by omega) with rfl | rfl | rfl | rfl | rfl <;> decide
  have hsh : (1 : Int32) <<< (Int32.ofNat N &&& 31) = Int32.ofNat (2 ^ N) := by rcases (show N = 0 ∨ N = 1 ∨ N = 2 ∨ N = 3 ∨ N = 4 by omega) with rfl | rfl | rfl | rfl | rfl <;> decide
  intro d
  induction d with
  | zero =>
    intro wy m X h1 h2 h3 h4
    obtain ⟨m, rfl⟩ : ∃ q, m = q + 1 := ⟨m - 1, by omega⟩
    have e1 : X.1 0 32 = Int32.ofNat N := by rw [h3.2 32 (by decide) (by decide) (by decide) (by decide)]; exact hl
    refine ⟨X, ?_, h3, h4, fun q _ => rfl, fun j hj => ?_⟩
    · rw [fX12_layParts_22_s, e1, hsh, if_pos ((o_le (by omega) (by omega)).mpr (by omega))]
    · rw [show wy = 2 ^ N by omega]
      have := sum_pth (G := G) (kd := kd) (vd := vd) (j := j) (shs (fun q => ln (pl q)) 0 N) r 0 1
      rw [shs_len] at this
      rw [this]
  | succ d ih =>
    intro wy m X h1 h2 h3 h4
    obtain ⟨m, rfl⟩ : ∃ q, m = q + 1 := ⟨m - 1, by omega⟩
    have e1 : X.1 0 32 = Int32.ofNat N := by rw [h3.2 32 (by decide) (by decide) (by decide) (by decide)]; exact hl
    obtain ⟨S, s1, s2, s3, s4, -⟩ := save_m hn h4
    rw [fX12_layParts_22_s, e1, hsh, if_neg (show ¬ Int32.ofNat (2 ^ N) ≤ Int32.ofNat wy by rw [o_le (by omega) (by omega)]; omega), bnw_of s1]
    obtain ⟨Y, y1, y2, y3, y4, y5⟩ := way_m hM hW hn hN hl hln hpl (show wy < 16 by omega) (fX12_layParts_22 m) N 0 FU 0 1 r S (by omega) (FU_gt (by omega)) (Nat.le_refl _) (h3.trans s4.A) s3 hI s2
    obtain ⟨T, t1, t2, t3, t4, t5⟩ := ih (wy + 1) m Y (by omega) (by omega) y2 y3
    refine ⟨T, y1.trans t1, t2, t3, fun q hq => by rw [t4 q hq, y4 q hq, s4.1], fun j hj => ?_⟩
    have a := t5 j hj
    have b := y5 j hj
    rw [s4.1] at b
    rw [b] at a
    have e2 : sumW (wy + 1) (fun m => val (pth G kd vd m (shs (fun q => ln (pl q)) 0 N) r 0 1 0) j) = sumW wy (fun m => val (pth G kd vd m (shs (fun q => ln (pl q)) 0 N) r 0 1 0) j) + val (pth G kd vd wy (shs (fun q => ln (pl q)) 0 N) r 0 1 0) j := rfl
    rw [e2, ← l_add, ← Int64.add_assoc, Int64.add_assoc (X.2 23 j), Int64.add_comm (Int64.ofNat (val _ j)) (Int64.ofNat (Dd _ _ _ _ _ _ _ j)), ← Int64.add_assoc (X.2 23 j)] at a
    exact (Int64.add_left_inj _).mp a
