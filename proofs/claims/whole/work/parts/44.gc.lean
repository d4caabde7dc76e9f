set_option maxHeartbeats 40000000
set_option maxRecDepth 100000
/-! the class's view: SURE, SAVES and the NOTE as a table stands -/
theorem bitc_d : ∀ m, m < 16 → ∀ s, s < 4 → decide (((Int32.ofNat m >>> (Int32.ofNat s &&& 31)) &&& 1) = 1) = m.testBit s := by decide +kernel
theorem bitc {m s : Nat} (hm : m < 16) (hs : s < 4) : ((Int32.ofNat m >>> (Int32.ofNat s &&& 31)) &&& 1) = 1 ↔ m.testBit s = true := by
  rw [← bitc_d m hm s hs, decide_eq_true_iff]
def noteD (v : Nat → Nat) (N : Nat) : List Cl → Nat
  | [] => N
  | q :: G => if 2 ≤ q.1 ∧ hold v q.2.2 = true then (if q.1 = 2 then 0 else if q.1 = 3 then 2 else 1) else noteD v N G
theorem noteD_A {v : Nat → Nat} {la : Nat} {G : List Cl} : noteD v (if la = 3 then 1 else la) G = noteA v la G := by
  induction G with
  | nil => rfl
  | cons q G ih =>
    show (if 2 ≤ q.1 ∧ hold v q.2.2 = true then (if q.1 = 2 then 0 else if q.1 = 3 then 2 else 1) else noteD v (if la = 3 then 1 else la) G) = if 2 ≤ q.1 ∧ hold v q.2.2 = true then (if q.1 = 2 then 0 else if q.1 = 3 then 2 else 1) else noteA v la G
    rw [ih]
def GC1 (X : XD) (g c : Nat) (q : Cl) : Prop := X.1 (g + 1) c = Int32.ofNat q.1 ∧ X.1 (g + 2) c = Int32.ofNat q.2.1 ∧ ∃ a, X.1 (g + 3) c = Int32.ofNat a ∧ X.1 (g + 4) c = Int32.ofNat (a + q.2.2.length) ∧ a + q.2.2.length ≤ 100 ∧ CCl X g a q.2.2
def GCl (X : XD) (g : Nat) : Nat → List Cl → Prop
  | _, [] => True
  | c, q :: G => GC1 X g c q ∧ GCl X g (c + 1) G
theorem GC1.eq {X Y : XD} {g c : Nat} {q : Cl} (h : ∀ k, 1 ≤ k → k ≤ 5 → Y.1 (g + k) = X.1 (g + k)) (z : GC1 X g c q) : GC1 Y g c q := by
  obtain ⟨a1, a2, a, a3, a4, a5, a6⟩ := z
  exact ⟨by rw [h 1 (by decide) (by decide)]; exact a1, by rw [h 2 (by decide) (by decide)]; exact a2, a, by rw [h 3 (by decide) (by decide)]; exact a3, by rw [h 4 (by decide) (by decide)]; exact a4, a5, a6.eq (h 5 (by decide) (by decide))⟩
theorem GCl.eq {X Y : XD} {g : Nat} (h : ∀ k, 1 ≤ k → k ≤ 5 → Y.1 (g + k) = X.1 (g + k)) : ∀ {G : List Cl} {c : Nat}, GCl X g c G → GCl Y g c G
  | [], _, _ => trivial
  | _ :: _, _, z => ⟨z.1.eq h, GCl.eq h z.2⟩
def eqW (X Y : XD) : Prop := Y.2 = X.2 ∧ ∀ i, i ≠ 139 → i ≠ 140 → i ≠ 141 → Y.1 i = X.1 i
theorem eqW.rfl {X : XD} : eqW X X := ⟨Eq.refl _, fun _ _ _ _ => Eq.refl _⟩
theorem eqW.trans {X Y Z : XD} (h : eqW X Y) (h2 : eqW Y Z) : eqW X Z := ⟨h2.1.trans h.1, fun i a b c => (h2.2 i a b c).trans (h.2 i a b c)⟩
theorem addTo_lp {Z : XS} {a m q : Nat} (hl : sL Z a = 3) (hm : m < 16) (hq : q ≤ 99) : ∀ (d s n : Nat) (X : XD) (A : Nat → Nat), s + d = 3 → d < n → (∀ j, j < 3 → X.1 a j = Int32.ofNat (A j) ∧ A j ≤ 100) → ∃ Y, fX9_addTo_2 Z a n (Int32.ofNat m) (Int32.ofNat q) (Int32.ofNat s) X = some ((), Y) ∧ (∀ j, j < 3 → Y.1 a j = Int32.ofNat (if s ≤ j ∧ m.testBit j = true then min 100 (A j + q) else A j)) ∧ Y.2 = X.2 ∧ ∀ i, i ≠ a → Y.1 i = X.1 i := by
  intro d
  induction d with
  | zero =>
    intro s n X A h1 h2 h3
    obtain ⟨n, rfl⟩ : ∃ q, n = q + 1 := ⟨n - 1, by omega⟩
    refine ⟨X, ?_, fun j hj => ?_, rfl, fun i _ => rfl⟩
    · rw [fX9_addTo_2_s, hl, if_pos ((o_le (by omega) (by omega)).mpr (by omega))]
    · rw [if_neg (fun z => by omega)]; exact (h3 j hj).1
  | succ d ih =>
    intro s n X A h1 h2 h3
    obtain ⟨n, rfl⟩ : ∃ q, n = q + 1 := ⟨n - 1, by omega⟩
    have hA := (h3 s (by omega)).1
    have hb := (h3 s (by omega)).2
    rw [fX9_addTo_2_s, hl, if_neg (show ¬ Int32.ofNat 3 ≤ Int32.ofNat s by rw [o_le (by omega) (by omega)]; omega), gin_o (by omega) (by omega), gin_o (by omega) (by omega)]
    unfold fX9_addTo_30
    simp only [nm_eq]
    rw [i32n (by omega), hA, o_add, show Int32.ofNat s + 1 = Int32.ofNat (s + 1) from o_add s 1]
    by_cases z : m.testBit s = true
    · rw [if_pos ((bitc hm (by omega)).mpr z)]
      have e : (if Int32.ofNat (A s + q) < 100 then Int32.ofNat (A s + q) else 100) = Int32.ofNat (min 100 (A s + q)) := by
        by_cases k : A s + q < 100
        · rw [if_pos (show Int32.ofNat (A s + q) < 100 from (o_lt (b := 100) (by omega) (by omega)).mpr k), show min 100 (A s + q) = A s + q by omega]
        · rw [if_neg (show ¬ Int32.ofNat (A s + q) < 100 from fun z => k ((o_lt (b := 100) (by omega) (by omega)).mp z)), show min 100 (A s + q) = 100 by omega]; rfl
      rw [e]
      obtain ⟨Y, g1, g2, g3, g4⟩ := ih (s + 1) n (wI X a s (Int32.ofNat (min 100 (A s + q)))) (fun j => if j = s then min 100 (A s + q) else A j) (by omega) (by omega) (fun j hj => by
        by_cases k : j = s
        · subst k; rw [wI_s]; simp only [if_true]; exact ⟨trivial, by omega⟩
        · rw [wI_k k]; simp only [k, if_false]; exact h3 j hj)
      refine ⟨Y, g1, fun j hj => ?_, g3, fun i hi => (g4 i hi).trans (wI_c hi)⟩
      rw [g2 j hj]
      by_cases k : j = s
      · subst k
        rw [if_neg (fun z => by omega), if_pos rfl, if_pos (show j ≤ j ∧ m.testBit j = true from ⟨Nat.le_refl _, z⟩)]
      · rw [if_neg k]
        by_cases k2 : s + 1 ≤ j ∧ m.testBit j = true
        · rw [if_pos k2, if_pos ⟨by omega, k2.2⟩]
        · rw [if_neg k2, if_neg (fun z => k2 ⟨by omega, z.2⟩)]
    · rw [if_neg (fun k => z ((bitc hm (by omega)).mp k))]
      obtain ⟨Y, g1, g2, g3, g4⟩ := ih (s + 1) n X A (by omega) (by omega) h3
      refine ⟨Y, g1, fun j hj => ?_, g3, g4⟩
      rw [g2 j hj]
      by_cases k : j = s
      · subst k
        rw [if_neg (fun z => by omega), if_neg (fun y => z y.2)]
      · by_cases k2 : s + 1 ≤ j ∧ m.testBit j = true
        · rw [if_pos k2, if_pos ⟨by omega, k2.2⟩]
        · rw [if_neg k2, if_neg (fun z => k2 ⟨by omega, z.2⟩)]
theorem addTo_c {Z : XS} {a m q : Nat} {X : XD} {A : Nat → Nat} (hl : sL Z a = 3) (hm : m < 16) (hq : q ≤ 99) (h : ∀ j, j < 3 → X.1 a j = Int32.ofNat (A j) ∧ A j ≤ 100) : ∃ Y, fX9_addTo Z a (Int32.ofNat m) (Int32.ofNat q) X = some ((), Y) ∧ (∀ j, j < 3 → Y.1 a j = Int32.ofNat (if m.testBit j = true then min 100 (A j + q) else A j)) ∧ Y.2 = X.2 ∧ ∀ i, i ≠ a → Y.1 i = X.1 i := by
  obtain ⟨Y, g1, g2, g3, g4⟩ := addTo_lp hl hm hq 3 0 FU X A rfl (FU_gt (by omega)) h
  refine ⟨Y, g1, fun j hj => ?_, g3, g4⟩
  rw [g2 j hj]
  by_cases z : m.testBit j = true
  · rw [if_pos ⟨Nat.zero_le _, z⟩, if_pos z]
  · rw [if_neg (fun y => z y.2), if_neg z]
/-- what the view holds -/
def VW (X : XD) (N : Nat) (A B : Nat → Nat) : Prop := X.1 139 2 = Int32.ofNat N ∧ (∀ s, s < 3 → X.1 140 s = Int32.ofNat (A s)) ∧ ∀ s, s < 3 → X.1 141 s = Int32.ofNat (B s)
theorem end_c {Z : XS} {X : XD} {N : Nat} {A B : Nat → Nat} {b c : Bool} (h0 : sL Z 140 = 3) (h1 : sL Z 141 = 3) (h : VW X N A B) : ∃ Y, fX9_end Z 139 (b2 b) (b2 c) X = some ((), Y) ∧ VW Y N (fun s => if b then A s else 80) (fun s => if c then B s else 40) ∧ eqW X Y := by
  obtain ⟨v1, v2, v3⟩ := h
  have f1 : ∀ X, fJ7_fill_53178 Z 140 80 X = some ((), fillI X 140 3 80) := fun X => fill_eq (by decide) h0
  have f2 : ∀ X, fJ7_fill_53178 Z 141 40 X = some ((), fillI X 141 3 40) := fun X => fill_eq (by decide) h1
  have fr : ∀ (X : XD) (a : Nat) (v : Int32) (i : Nat), i ≠ a → (fillI X a 3 v).1 i = X.1 i := fun X a v i hi => if_neg hi
  have fs : ∀ (X : XD) (a : Nat) (v : Int32) (j : Nat), j < 3 → (fillI X a 3 v).1 a j = v := fun X a v j hj => by
    show (if a = a then fun j => if j < 3 then v else X.1 a j else X.1 a) j = v
    rw [if_pos rfl, if_pos hj]
  unfold fX9_end fX9_end_13
  cases b with
  | true =>
    rw [if_neg (show ¬ b2 true = 0 by decide)]
    cases c with
    | true =>
      rw [if_neg (show ¬ b2 true = 0 by decide)]
      exact ⟨X, rfl, ⟨v1, fun s hs => v2 s hs, fun s hs => v3 s hs⟩, eqW.rfl⟩
    | false =>
      rw [if_pos (show b2 false = 0 by decide), bnw_of (f2 X)]
      refine ⟨_, rfl, ⟨?_, fun s hs => ?_, fun s hs => fs _ _ _ _ hs⟩, Eq.refl _, fun i a b c => fr _ _ _ _ c⟩
      · rw [fr _ _ _ _ (by decide)]; exact v1
      · rw [fr _ _ _ _ (by decide)]; exact v2 s hs
  | false =>
    rw [if_pos (show b2 false = 0 by decide), bnw_of (f1 X)]
    cases c with
    | true =>
      rw [if_neg (show ¬ b2 true = 0 by decide)]
      refine ⟨_, rfl, ⟨?_, fun s hs => fs _ _ _ _ hs, fun s hs => ?_⟩, Eq.refl _, fun i a b c => fr _ _ _ _ b⟩
      · rw [fr _ _ _ _ (by decide)]; exact v1
      · rw [fr _ _ _ _ (by decide)]; exact v3 s hs
    | false =>
      rw [if_pos (show b2 false = 0 by decide), bnw_of (f2 _)]
      refine ⟨_, rfl, ⟨?_, fun s hs => ?_, fun s hs => fs _ _ _ _ hs⟩, Eq.refl _, fun i a b c => (fr _ _ _ _ c).trans (fr _ _ _ _ b)⟩
      · rw [fr _ _ _ _ (by decide), fr _ _ _ _ (by decide)]; exact v1
      · rw [fr _ _ _ _ (by decide)]; exact fs _ _ _ _ hs
theorem tell_lp {Z : XS} {g t o la : Nat} {F : Nat → Nat} (hg : g ≤ 38) (hla : la ≤ 3) (h0 : sL Z 140 = 3) (h1 : sL Z 141 = 3) : ∀ (G : List Cl) (c n N : Nat) (A B : Nat → Nat) (ai as nd : Bool) (X : XD), G.length < n → (∀ q ∈ G, okC q) → GCl X g c G → X.1 g 4 = Int32.ofNat (c + G.length) → c + G.length ≤ 10 → FC X g F → VW X N A B → (∀ s, A s ≤ 100 ∧ B s ≤ 100) → ∃ Y, fX1_tell_34 Z g t o 139 n (Int32.ofNat la) (b2 ai) (b2 as) (b2 nd) (Int32.ofNat c) X = some ((), Y) ∧ VW Y (if nd then N else noteD (fact F la) N G) (fun s => if ai || hasA 0 G then min 100 (A s + sumA 0 (fact F s) G) else 80) (fun s => if as || hasA 1 G then min 100 (B s + sumA 1 (fact F s) G) else 40) ∧ eqW X Y := by
  intro G
  induction G with
  | nil =>
    intro c n N A B ai as nd X k1 k2 k3 k4 k5 k6 k7 k8
    obtain ⟨n, rfl⟩ : ∃ q, n = q + 1 := ⟨n - 1, by omega⟩
    have k4 : X.1 g 4 = Int32.ofNat c := k4
    rw [fX1_tell_34_s, k4, if_pos (Int32.le_refl _)]
    unfold fX1_tell_171
    obtain ⟨Y, g1, g2, g3⟩ := end_c (b := ai) (c := as) h0 h1 k7
    rw [bnw_of g1]
    refine ⟨Y, rfl, ⟨?_, fun s hs => ?_, fun s hs => ?_⟩, g3⟩
    · rw [g2.1]; cases nd <;> rfl
    · rw [g2.2.1 s hs]
      have := (k8 s).1
      show _ = Int32.ofNat (if ai || false then min 100 (A s + 0) else 80)
      rw [Bool.or_false, show min 100 (A s + 0) = A s by omega]
    · rw [g2.2.2 s hs]
      have := (k8 s).2
      show _ = Int32.ofNat (if as || false then min 100 (B s + 0) else 40)
      rw [Bool.or_false, show min 100 (B s + 0) = B s by omega]
  | cons q G ih =>
    intro c n N A B ai as nd X k1 k2 k3 k4 k5 k6 k7 k8
    obtain ⟨n, rfl⟩ : ∃ q, n = q + 1 := ⟨n - 1, by omega⟩
    have hl : (q :: G).length = G.length + 1 := rfl
    rw [hl] at k1 k4 k5
    have hq := k2 q List.mem_cons_self
    obtain ⟨q1, q2, q3, q4, q5⟩ := hq
    obtain ⟨⟨c1, c2, a, c3, c4, c5, c6⟩, k3b⟩ := k3
    rw [fX1_tell_34_s, k4, if_neg (show ¬ Int32.ofNat (c + (G.length + 1)) ≤ Int32.ofNat c by rw [o_le (by omega) (by omega)]; omega), if_neg (show ¬ (10 : Int32) ≤ Int32.ofNat c from fun z => by have := (o_le (a := 10) (by omega) (by omega)).mp z; omega), gin_o (by omega) (by omega), gin_o (by omega) (by omega), i32n (by omega), c3, c4]
    obtain ⟨m, m1, m2, m3⟩ := holds_c (Z := Z) k6 q.2.2 0 (fun _ => []) 0 a FU (FU_gt (by omega)) (fun s hs => Bt.nil hs) (fun _ _ => rfl) (by decide) q3 q4 c6 c5
    have m2 : fX1_holds Z g (Int32.ofNat a) (Int32.ofNat (a + q.2.2.length)) X = some (Int32.ofNat m) := by
      unfold fX1_holds
      rw [nm_eq]
      have : (if 0 < Int32.ofNat a then Int32.ofNat a else 0) = Int32.ofNat a := by
        by_cases z : 0 < a
        · rw [if_pos (show (0 : Int32) < Int32.ofNat a from (o_lt (a := 0) (by omega) (by omega)).mpr z)]
        · rw [show a = 0 by omega]; rfl
      rw [this]
      exact m2
    have m3 : ∀ s, s < 4 → m.testBit s = hold (fact F s) q.2.2 := m3
    rw [bnd_of m2, gin_o (by omega) (by omega), gin_o (by omega) (by omega), gin_o (by omega) (by omega), gin_o (by omega) (by omega), c1, c2]
    have e1 : Int32.ofNat c + 1 = Int32.ofNat (c + 1) := o_add c 1
    have go : ∀ (N' : Nat) (A' B' : Nat → Nat) (ai' as' nd' : Bool) (Y : XD), eqW X Y → VW Y N' A' B' → (∀ s, A' s ≤ 100 ∧ B' s ≤ 100) → ∃ W, fX1_tell_165 Z g t o 139 (fX1_tell_34 Z g t o 139 n) (Int32.ofNat la) (b2 ai') (b2 as') (b2 nd') (Int32.ofNat c) Y = some ((), W) ∧ VW W (if nd' then N' else noteD (fact F la) N' G) (fun s => if ai' || hasA 0 G then min 100 (A' s + sumA 0 (fact F s) G) else 80) (fun s => if as' || hasA 1 G then min 100 (B' s + sumA 1 (fact F s) G) else 40) ∧ eqW X W := by
      intro N' A' B' ai' as' nd' Y y1 y2 y3
      have hf : FC Y g F := ⟨fun k a b => by rw [y1.2 (g + 6) (by omega) (by omega) (by omega)]; exact k6.1 k a b, k6.2⟩
      obtain ⟨W, w1, w2, w3⟩ := ih (c + 1) n N' A' B' ai' as' nd' Y (by omega) (fun q h => k2 q (List.mem_cons_of_mem _ h)) (k3b.eq (fun k a b => y1.2 (g + k) (by omega) (by omega) (by omega))) (by rw [y1.2 g (by omega) (by omega) (by omega), k4]; congr 1; omega) (by omega) hf y2 y3
      refine ⟨W, ?_, w2, y1.trans w3⟩
      unfold fX1_tell_165
      simp only [nm_eq]
      rw [e1]
      exact w1
    have v140 : ∀ j, j < 3 → X.1 140 j = Int32.ofNat (A j) ∧ A j ≤ 100 := fun j hj => ⟨k7.2.1 j hj, (k8 j).1⟩
    have v141 : ∀ j, j < 3 → X.1 141 j = Int32.ofNat (B j) ∧ B j ≤ 100 := fun j hj => ⟨k7.2.2 j hj, (k8 j).2⟩
    by_cases w0 : q.1 = 0
    · rw [if_pos (show Int32.ofNat q.1 = 0 by rw [w0]; rfl)]
      obtain ⟨Y, g1, g2, g3, g4⟩ := addTo_c h0 m1 q2 v140
      unfold fX9_addSure
      rw [bnw_of g1, bnw_some]
      obtain ⟨W, w1, w2, w3⟩ := go N (fun j => if m.testBit j = true then min 100 (A j + q.2.1) else A j) B true as nd Y ⟨g3, fun i a b c => g4 i b⟩ ⟨by rw [g4 139 (by decide)]; exact k7.1, g2, fun s hs => by rw [g4 141 (by decide)]; exact k7.2.2 s hs⟩ (fun s => ⟨by have := (k8 s).1; split <;> omega, (k8 s).2⟩)
      refine ⟨W, w1, ⟨?_, fun s hs => ?_, fun s hs => ?_⟩, w3⟩
      · rw [w2.1]
        have : noteD (fact F la) N (q :: G) = noteD (fact F la) N G := if_neg (fun z => by omega)
        rw [this]
      · rw [w2.2.1 s hs]
        dsimp only
        have e2 : hasA 0 (q :: G) = true := by show (decide (q.1 = 0) || _) = true; rw [decide_eq_true w0]; rfl
        rw [e2, Bool.or_true, Bool.true_or, if_pos rfl, if_pos rfl, m3 s (by omega)]
        have e3 : sumA 0 (fact F s) (q :: G) = (if q.1 = 0 ∧ hold (fact F s) q.2.2 = true then q.2.1 else 0) + sumA 0 (fact F s) G := rfl
        rw [e3]
        by_cases z : hold (fact F s) q.2.2 = true
        · rw [if_pos z, if_pos ⟨w0, z⟩]; congr 1; omega
        · rw [if_neg z, if_neg (fun y => z y.2)]; congr 1; omega
      · rw [w2.2.2 s hs]
        dsimp only
        have e2 : hasA 1 (q :: G) = hasA 1 G := by show (decide (q.1 = 1) || _) = _; rw [decide_eq_false (by omega)]; rfl
        have e3 : sumA 1 (fact F s) (q :: G) = sumA 1 (fact F s) G := by show (if _ then _ else _) + _ = _; rw [if_neg (fun z => by omega), Nat.zero_add]
        rw [e2, e3]
    · rw [if_neg (show ¬ Int32.ofNat q.1 = 0 from fun z => w0 ((o_eq (b := 0) (by omega) (by omega)).mp z))]
      have s0 : hasA 0 (q :: G) = hasA 0 G := by show (decide (q.1 = 0) || _) = _; rw [decide_eq_false w0]; rfl
      have s0b : ∀ s, sumA 0 (fact F s) (q :: G) = sumA 0 (fact F s) G := fun s => by show (if _ then _ else _) + _ = _; rw [if_neg (fun z => w0 z.1), Nat.zero_add]
      simp only [s0, s0b]
      by_cases w1 : q.1 = 1
      · rw [if_pos (show Int32.ofNat q.1 = 1 by rw [w1]; rfl)]
        obtain ⟨Y, g1, g2, g3, g4⟩ := addTo_c h1 m1 q2 v141
        unfold fX9_addSaves
        rw [bnw_of g1, bnw_some]
        obtain ⟨W, w1', w2, w3⟩ := go N A (fun j => if m.testBit j = true then min 100 (B j + q.2.1) else B j) ai true nd Y ⟨g3, fun i a b c => g4 i c⟩ ⟨by rw [g4 139 (by decide)]; exact k7.1, fun s hs => by rw [g4 140 (by decide)]; exact k7.2.1 s hs, g2⟩ (fun s => ⟨(k8 s).1, by have := (k8 s).2; split <;> omega⟩)
        refine ⟨W, w1', ⟨?_, fun s hs => ?_, fun s hs => ?_⟩, w3⟩
        · rw [w2.1]
          have : noteD (fact F la) N (q :: G) = noteD (fact F la) N G := if_neg (fun z => by omega)
          rw [this]
        · exact w2.2.1 s hs
        · rw [w2.2.2 s hs]
          dsimp only
          have e2 : hasA 1 (q :: G) = true := by show (decide (q.1 = 1) || _) = true; rw [decide_eq_true w1]; rfl
          rw [e2, Bool.or_true, Bool.true_or, if_pos rfl, if_pos rfl, m3 s (by omega)]
          have e3 : sumA 1 (fact F s) (q :: G) = (if q.1 = 1 ∧ hold (fact F s) q.2.2 = true then q.2.1 else 0) + sumA 1 (fact F s) G := rfl
          rw [e3]
          by_cases z : hold (fact F s) q.2.2 = true
          · rw [if_pos z, if_pos ⟨w1, z⟩]; congr 1; omega
          · rw [if_neg z, if_neg (fun y => z y.2)]; congr 1; omega
      · rw [if_neg (show ¬ Int32.ofNat q.1 = 1 from fun z => w1 ((o_eq (b := 1) (by omega) (by omega)).mp z))]
        have s1 : hasA 1 (q :: G) = hasA 1 G := by show (decide (q.1 = 1) || _) = _; rw [decide_eq_false w1]; rfl
        have s1b : ∀ s, sumA 1 (fact F s) (q :: G) = sumA 1 (fact F s) G := fun s => by show (if _ then _ else _) + _ = _; rw [if_neg (fun z => w1 z.1), Nat.zero_add]
        simp only [s1, s1b]
        have eN : noteD (fact F la) N (q :: G) = if hold (fact F la) q.2.2 = true then (if q.1 = 2 then 0 else if q.1 = 3 then 2 else 1) else noteD (fact F la) N G := by
          show (if 2 ≤ q.1 ∧ hold (fact F la) q.2.2 = true then _ else _) = _
          by_cases z : hold (fact F la) q.2.2 = true
          · rw [if_pos ⟨by omega, z⟩, if_pos z]
          · rw [if_neg (fun y => z y.2), if_neg z]
        rw [eN]
        cases nd with
        | true =>
          rw [if_neg (show ¬ b2 true = 0 by decide)]
          obtain ⟨W, w1', w2, w3⟩ := go N A B ai as true X eqW.rfl k7 k8
          exact ⟨W, w1', w2, w3⟩
        | false =>
          rw [if_pos (show b2 false = 0 by decide)]
          by_cases z : hold (fact F la) q.2.2 = true
          · rw [if_pos ((bitc m1 (by omega)).mpr ((m3 la (by omega)).trans z)), gin_o (by omega) (by omega), if_pos z]
            have hso : fX1_sideOf Z (Int32.ofNat q.1) X = some (Int32.ofNat (if q.1 = 2 then 0 else if q.1 = 3 then 2 else 1)) := by
              rcases (show q.1 = 2 ∨ q.1 = 3 ∨ q.1 = 4 by omega) with e | e | e <;> rw [e] <;> rfl
            rw [bnd_of hso, nm_eq]
            obtain ⟨W, w1', w2, w3⟩ := go (if q.1 = 2 then 0 else if q.1 = 3 then 2 else 1) A B ai as true (wI X 139 2 (Int32.ofNat (if q.1 = 2 then 0 else if q.1 = 3 then 2 else 1))) ⟨rfl, fun i a b c => wI_c a⟩ ⟨wI_s, fun s hs => by rw [wI_c (by decide)]; exact k7.2.1 s hs, fun s hs => by rw [wI_c (by decide)]; exact k7.2.2 s hs⟩ k8
            exact ⟨W, w1', w2, w3⟩
          · rw [if_neg (fun y => z ((m3 la (by omega)).symm.trans ((bitc m1 (by omega)).mp y))), if_neg z]
            obtain ⟨W, w1', w2, w3⟩ := go N A B ai as false X eqW.rfl k7 k8
            exact ⟨W, w1', w2, w3⟩
