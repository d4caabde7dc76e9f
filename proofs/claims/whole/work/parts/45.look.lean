set_option maxHeartbeats 40000000
set_option maxRecDepth 100000
/-! the class looks: AIM and CHANCE by the view -/
def scrV (i : Nat) : Prop := i = 139 ∨ i = 140 ∨ i = 141 ∨ (9 ≤ i ∧ i ≤ 44 ∧ i % 7 = 2)
def eqV (X Y : XD) : Prop := Y.2 = X.2 ∧ ∀ i, ¬ scrV i → Y.1 i = X.1 i
theorem eqV.rfl {X : XD} : eqV X X := ⟨Eq.refl _, fun _ _ => Eq.refl _⟩
theorem eqV.trans {X Y Z : XD} (h : eqV X Y) (h2 : eqV Y Z) : eqV X Z := ⟨h2.1.trans h.1, fun i q => (h2.2 i q).trans (h.2 i q)⟩
theorem eqV.at {X Y : XD} (h : eqV X Y) {i : Nat} (h1 : 45 ≤ i) (h2 : i < 139 ∨ 141 < i) : Y.1 i = X.1 i := h.2 i (by unfold scrV; omega)
theorem RT.v {X Y : XD} {t : Nat} {r : Rnd} (h : RT X t r) (q : eqV X Y) (h1 : 45 ≤ t) (h2 : t ≤ 134) : RT Y t r := h.eq (by rw [q.at h1 (by omega)]) (by rw [q.at h1 (by omega)]) (fun k a b => q.at (by omega) (by omega))
def HC (X : XD) (G : List Cl) : Prop := (∀ q ∈ G, okC q) ∧ G.length ≤ 10 ∧ ((X.1 47 1 = -1 ∧ G = []) ∨ ∃ j, j < 6 ∧ X.1 47 1 = Int32.ofNat j ∧ X.1 (3 + 7 * j) 4 = Int32.ofNat G.length ∧ GCl X (3 + 7 * j) 0 G)
theorem HC.eq {X Y : XD} {G : List Cl} (z : HC X G) (h0 : Y.1 47 1 = X.1 47 1) (h : ∀ i, 3 ≤ i → i ≤ 44 → i % 7 ≠ 2 → Y.1 i = X.1 i) : HC Y G := by
  obtain ⟨a1, a2, a3⟩ := z
  refine ⟨a1, a2, ?_⟩
  rcases a3 with ⟨b1, b2⟩ | ⟨j, b1, b2, b3, b4⟩
  · exact Or.inl ⟨by rw [h0]; exact b1, b2⟩
  · exact Or.inr ⟨j, b1, by rw [h0]; exact b2, by rw [h _ (by omega) (by omega) (by omega)]; exact b3, b4.eq (fun k k1 k2 => h _ (by omega) (by omega) (by omega))⟩
theorem HC.v {X Y : XD} {G : List Cl} (z : HC X G) (q : eqV X Y) : HC Y G := z.eq (by rw [q.at (by decide) (by decide)]) (fun i a b c => q.2 i (by unfold scrV; omega))
/-- a shooter's object -/
def CK (Z : XS) (X : XD) (o i k v : Nat) : Prop := 157 ≤ o ∧ KS Z o ∧ sK Z o = nk (Int32.ofNat k) ∧ X.1 o 0 = Int32.ofNat i ∧ X.1 o 1 = Int32.ofNat v ∧ k ≤ 6 ∧ v ≤ 9 ∧ i < 6
theorem CK.eq {Z : XS} {X Y : XD} {o i k v : Nat} (h : CK Z X o i k v) (q : Y.1 o = X.1 o) : CK Z Y o i k v := by
  obtain ⟨a, b, c, d, e, f⟩ := h
  exact ⟨a, b, c, by rw [q]; exact d, by rw [q]; exact e, f⟩
theorem CK.v {Z : XS} {X Y : XD} {o i k v : Nat} (h : CK Z X o i k v) (q : eqV X Y) : CK Z Y o i k v := h.eq (q.at (by have := h.1; omega) (by have := h.1; omega))
theorem kind_c {Z : XS} {X : XD} {o k : Nat} (h : sK Z o = nk (Int32.ofNat k)) (hk : k ≤ 6) : fV_X4_kind Z o X = some (Int32.ofNat k) := by
  unfold fV_X4_kind
  rw [h]
  rcases (show k = 0 ∨ k = 1 ∨ k = 2 ∨ k = 3 ∨ k = 4 ∨ k = 5 ∨ k = 6 by omega) with rfl | rfl | rfl | rfl | rfl | rfl | rfl <;> rfl
def SV (X : XD) (g : Nat) (f : Nat → Nat) : XD := wI (wI (wI (wI (wI X (g + 6) 0 (Int32.ofNat (f 0))) (g + 6) 1 (Int32.ofNat (f 1))) (g + 6) 3 (Int32.ofNat (f 3))) (g + 6) 4 (Int32.ofNat (f 4))) (g + 6) 5 (Int32.ofNat (f 5))
theorem SV_f {X : XD} {g : Nat} {f : Nat → Nat} (hf : ∀ k, f k < 2000) : FC (SV X g f) g f := by
  refine ⟨fun k hk h2 => ?_, hf⟩
  unfold SV
  rcases (show k = 0 ∨ k = 1 ∨ k = 3 ∨ k = 4 ∨ k = 5 by omega) with rfl | rfl | rfl | rfl | rfl
  · rw [wI_k (by decide), wI_k (by decide), wI_k (by decide), wI_k (by decide), wI_s]
  · rw [wI_k (by decide), wI_k (by decide), wI_k (by decide), wI_s]
  · rw [wI_k (by decide), wI_k (by decide), wI_s]
  · rw [wI_k (by decide), wI_s]
  · rw [wI_s]
theorem SV_o {X : XD} {g i : Nat} {f : Nat → Nat} (h : i ≠ g + 6) : (SV X g f).1 i = X.1 i := by
  unfold SV
  rw [wI_c h, wI_c h, wI_c h, wI_c h, wI_c h]
theorem setv_c {Z : XS} {X : XD} {g t o n i k v : Nat} {r : Rnd} (hg : g ≤ 38) (ht : 45 ≤ t) (h : RT X t r) (hI : RI n r) (hk : CK Z X o i k v) : fX1_setValues Z g t o X = some ((), SV X g (factR r i k)) := by
  obtain ⟨k1, k2, k3, k4, k5, k6, k7, k8⟩ := hk
  have b1 := hI.2.1 i
  have b2 := hI.2.2.2.2.1
  have b3 := hI.2.2.2.2.2.1
  have rt : ∀ Y : XD, (∀ q, 45 ≤ q → Y.1 q = X.1 q) → RT Y t r := fun Y hY => h.eq (by rw [hY t ht]) (by rw [hY t ht]) (fun k a b => hY _ (by omega))
  have d10 : ∀ a : Nat, a < 2000 → Int32.ofNat a - Int32.ofNat a / 10 * 10 = Int32.ofNat (a % 10) := fun a ha => o_rem (b := 10) (by omega) (by omega)
  have f0 : factR r i k 0 = i := rfl
  have f1 : factR r i k 1 = k := rfl
  have f3 : factR r i k 3 = rS r i % 10 := rfl
  have f4 : factR r i k 4 = rB r % 10 := rfl
  have f5 : factR r i k 5 = rA r % 10 := rfl
  unfold fX1_setValues SV
  rw [show gin (0 : Int32) 6 = fun x => x from funext fun x => gin_o (k := 0) (by decide) (by decide)]
  simp only [nm_eq]
  rw [show (0 : Int32).toNatClampNeg = 0 from i32n (k := 0) (by decide), k4, bnd_of (kind_c k3 k6), show gin (1 : Int32) 6 = fun x => x from funext fun x => gin_o (k := 1) (by decide) (by decide)]
  simp only [nm_eq]
  rw [show (1 : Int32).toNatClampNeg = 1 from i32n (k := 1) (by decide), wI_c (show o ≠ g + 6 by omega), wI_c (show o ≠ g + 6 by omega), k4, bnd_of (shotsOf_r (rt _ (fun q hq => by rw [wI_c (show q ≠ g + 6 by omega), wI_c (show q ≠ g + 6 by omega)])) k8)]
  rw [show gin (3 : Int32) 6 = fun x => x from funext fun x => gin_o (k := 3) (by decide) (by decide)]
  simp only [nm_eq]
  rw [show (3 : Int32).toNatClampNeg = 3 from i32n (k := 3) (by decide), d10 _ (by omega), show gin (4 : Int32) 6 = fun x => x from funext fun x => gin_o (k := 4) (by decide) (by decide)]
  simp only [nm_eq]
  rw [show (4 : Int32).toNatClampNeg = 4 from i32n (k := 4) (by decide), wI_c (show t ≠ g + 6 by omega), wI_c (show t ≠ g + 6 by omega), wI_c (show t ≠ g + 6 by omega), h.2.2.2.2.2, d10 _ (by omega), show gin (5 : Int32) 6 = fun x => x from funext fun x => gin_o (k := 5) (by decide) (by decide)]
  simp only [nm_eq]
  rw [show (5 : Int32).toNatClampNeg = 5 from i32n (k := 5) (by decide), wI_c (show t ≠ g + 6 by omega), wI_c (show t ≠ g + 6 by omega), wI_c (show t ≠ g + 6 by omega), wI_c (show t ≠ g + 6 by omega), h.2.2.2.2.1, d10 _ (by omega), f0, f1, f3, f4, f5]
theorem begin_c {Z : XS} {X : XD} {la : Nat} (hla : la ≤ 3) (h0 : sL Z 140 = 3) (h1 : sL Z 141 = 3) : ∃ Y, fX9_begin Z 139 (Int32.ofNat la) X = some ((), Y) ∧ VW Y (if la = 3 then 1 else la) (fun _ => 0) (fun _ => 0) ∧ eqW X Y := by
  have f1 : ∀ X, fJ7_fill_53178 Z 140 0 X = some ((), fillI X 140 3 0) := fun X => fill_eq (by decide) h0
  have f2 : ∀ X, fJ7_fill_53178 Z 141 0 X = some ((), fillI X 141 3 0) := fun X => fill_eq (by decide) h1
  have fr : ∀ (X : XD) (a : Nat) (v : Int32) (i : Nat), i ≠ a → (fillI X a 3 v).1 i = X.1 i := fun X a v i hi => if_neg hi
  have fs : ∀ (X : XD) (a : Nat) (v : Int32) (j : Nat), j < 3 → (fillI X a 3 v).1 a j = v := fun X a v j hj => by
    show (if a = a then fun j => if j < 3 then v else X.1 a j else X.1 a) j = v
    rw [if_pos rfl, if_pos hj]
  unfold fX9_begin fX9_begin_27
  rw [bnw_of (f1 X), bnw_of (f2 _)]
  have go : ∀ v : Nat, VW (wI (fillI (fillI X 140 3 0) 141 3 0) 139 2 (Int32.ofNat v)) v (fun _ => 0) (fun _ => 0) ∧ eqW X (wI (fillI (fillI X 140 3 0) 141 3 0) 139 2 (Int32.ofNat v)) := fun v => by
    refine ⟨⟨wI_s, fun s hs => ?_, fun s hs => ?_⟩, Eq.refl _, fun i a b c => ?_⟩
    · rw [wI_c (by decide), fr _ _ _ _ (by decide), fs _ _ _ _ hs]; rfl
    · rw [wI_c (by decide), fs _ _ _ _ hs]; rfl
    · rw [wI_c a, fr _ _ _ _ c, fr _ _ _ _ b]
  by_cases z : la = 3
  · rw [if_pos (by rw [z]; rfl), if_pos z]
    exact ⟨_, rfl, go 1⟩
  · rw [if_neg (show ¬ Int32.ofNat la = 3 from fun q => z ((o_eq (b := 3) (by omega) (by omega)).mp q)), if_neg z]
    exact ⟨_, rfl, go la⟩
theorem VW.ext {X : XD} {N M : Nat} {A B A' B' : Nat → Nat} (h : VW X N A B) (hN : N = M) (hA : ∀ s, A s = A' s) (hB : ∀ s, B s = B' s) : VW X M A' B' := by
  subst hN
  exact ⟨h.1, fun s hs => by rw [← hA]; exact h.2.1 s hs, fun s hs => by rw [← hB]; exact h.2.2 s hs⟩
theorem look_c {Z : XS} {X : XD} {t o n i k v : Nat} {r : Rnd} {G : List Cl} (hL : LayC Z) (ht : 45 ≤ t) (ht2 : t ≤ 134) (hr : RT X t r) (hI : RI n r) (hG : HC X G) (hk : CK Z X o i k v) : ∃ Y, fX11_look Z t o X = some ((), Y) ∧ VW Y (ntA r i k G) (suA r i k G) (saA r i k G) ∧ eqV X Y := by
  have h0 : sL Z 140 = 3 := (lay_9_0 hL (lay_11_8 hL).2).2.2.2
  have h1 : sL Z 141 = 3 := (lay_9_1 hL (lay_11_8 hL).2).2.2.2
  have k4 := hk.2.2.2.1
  have k8 := hk.2.2.2.2.2.2.2
  have hla := hI.1 i
  obtain ⟨g1, g2, g3⟩ := hG
  unfold fX11_look
  rw [nm_eq]
  rcases g3 with ⟨b1, rfl⟩ | ⟨j, b1, b2, b3, b4⟩
  · rw [b1, if_pos (by decide)]
    unfold fX11_look_30
    rw [k4, bnd_of (lastOf_r hr k8)]
    obtain ⟨Y, y1, y2, y3⟩ := begin_c (X := X) hla h0 h1
    obtain ⟨W, w1, w2, w3⟩ := end_c (b := false) (c := false) h0 h1 y2
    rw [bnw_of y1, bnw_of (show fX9_end Z 139 0 0 Y = _ from w1)]
    refine ⟨W, rfl, w2, (y3.trans w3).1, fun i hi => (y3.trans w3).2 i (fun z => hi (Or.inl z)) (fun z => hi (Or.inr (Or.inl z))) (fun z => hi (Or.inr (Or.inr (Or.inl z))))⟩
  · rw [b2, if_neg (o_ge0 (by omega)), if_neg (show ¬ (6 : Int32) ≤ Int32.ofNat j from fun z => by have := (o_le (a := 6) (by omega) (by omega)).mp z; omega), gin_o (by omega) (by omega), i32n (by omega)]
    unfold fX1_tell
    rw [k4, bnd_of (lastOf_r hr k8), bnw_of (setv_c (by omega) ht hr hI hk)]
    obtain ⟨Y, y1, y2, y3⟩ := begin_c (X := SV X (3 + 7 * j) (factR r i k)) hla h0 h1
    rw [bnw_of y1]
    have e : ∀ q, q ≠ 139 → q ≠ 140 → q ≠ 141 → q ≠ 3 + 7 * j + 6 → Y.1 q = X.1 q := fun q a b c d => (y3.2 q a b c).trans (SV_o d)
    have hf : FC Y (3 + 7 * j) (factR r i k) := by
      have := SV_f (X := X) (g := 3 + 7 * j) (f := factR r i k) (factR_lt hI k8 hk.2.2.2.2.2.1)
      exact ⟨fun q a b => by rw [y3.2 _ (by omega) (by omega) (by omega)]; exact this.1 q a b, this.2⟩
    have hg : GCl Y (3 + 7 * j) 0 G := b4.eq (fun q a b => e _ (by omega) (by omega) (by omega) (by omega))
    obtain ⟨W, w1, w2, w3⟩ := tell_lp (Z := Z) (t := t) (o := o) (by omega) hla h0 h1 G 0 FU _ _ _ false false false Y (FU_gt (by omega)) g1 hg (by rw [e _ (by omega) (by omega) (by omega) (by omega), b3, Nat.zero_add]) (by omega) hf y2 (fun s => ⟨Nat.zero_le _, Nat.zero_le _⟩)
    rw [bnw_of (show fX1_tell_34 Z (3 + 7 * j) t o 139 FU (Int32.ofNat (rL r i)) 0 0 0 0 Y = _ from w1)]
    refine ⟨W, rfl, w2.ext noteD_A (fun s => ?_) (fun s => ?_), ?_, fun q hq => ?_⟩
    · show (if false || hasA _ G then min 100 (0 + sumA _ _ G) else _) = _
      rw [Nat.zero_add]; rfl
    · show (if false || hasA _ G then min 100 (0 + sumA _ _ G) else _) = _
      rw [Nat.zero_add]; rfl
    · rw [w3.1, y3.1]; rfl
    · unfold scrV at hq
      rw [w3.2 q (by omega) (by omega) (by omega), e q (by omega) (by omega) (by omega) (by omega)]
theorem sureOf_c {Z : XS} {X : XD} {N s : Nat} {A B : Nat → Nat} (h : VW X N A B) (hs : s < 3) : fX9_sureOf Z 139 (Int32.ofNat s) X = some (Int32.ofNat (A s)) := by
  unfold fX9_sureOf
  simp (disch := omega) only [↓bnd_some, ↓bnw_some, ↓nm_eq, ↓gb_0, ↓gb_1, ↓gin_o, ↓reduceIte, lit, o_lt_t, o_lt_f, o_le_t, o_le_f, o_eq_t, o_eq_f, n_lt_t, n_le_t, n_eq_f, i32n, wI_s, wI_c, wI_k, wI_2, wJ_s, wJ_c, wJ_k, wJ_1, o_add, o_sub, o_addn, o_mul, o_div, n_rem, Nat.add_zero, Nat.zero_add, h.2.1 s hs]
theorem savesOf_c {Z : XS} {X : XD} {N s : Nat} {A B : Nat → Nat} (h : VW X N A B) (hs : s < 3) : fX9_savesOf Z 139 (Int32.ofNat s) X = some (Int32.ofNat (B s)) := by
  unfold fX9_savesOf
  simp (disch := omega) only [↓bnd_some, ↓bnw_some, ↓nm_eq, ↓gb_0, ↓gb_1, ↓gin_o, ↓reduceIte, lit, o_lt_t, o_lt_f, o_le_t, o_le_f, o_eq_t, o_eq_f, n_lt_t, n_le_t, n_eq_f, i32n, wI_s, wI_c, wI_k, wI_2, wJ_s, wJ_c, wJ_k, wJ_1, o_add, o_sub, o_addn, o_mul, o_div, n_rem, Nat.add_zero, Nat.zero_add, h.2.2 s hs]
theorem chBy_c {Z : XS} {X : XD} {N s d : Nat} {A B : Nat → Nat} (h : VW X N A B) (hs : s < 3) (hd : d < 3) (hA : A s ≤ 100) (hB : B s ≤ 100) : fX9_chanceBy Z 139 (Int32.ofNat s) (Int32.ofNat d) X = some (Int32.ofNat (if s = d then A s - B s else A s)) := by
  unfold fX9_chanceBy
  by_cases z : s = d
  · rw [if_pos (by rw [z]), bnd_of (sureOf_c h hs), bnd_of (savesOf_c h hs), if_pos z]
    by_cases q : B s < A s
    · rw [o_sub (by omega), if_pos (show (0 : Int32) < Int32.ofNat _ from (o_lt (a := 0) (by omega) (by omega)).mpr (by omega))]
    · rw [if_neg (show ¬ (0 : Int32) < Int32.ofNat (A s) - Int32.ofNat (B s) from fun q2 => by
        rw [Int32.lt_iff_toInt_lt, Int32.toInt_sub, i32_ofN (by omega), i32_ofN (by omega)] at q2
        rw [Int.bmod_eq_of_le (by omega) (by omega)] at q2
        have : (0 : Int32).toInt = 0 := rfl
        omega), show A s - B s = 0 by omega]
      rfl
  · rw [if_neg (fun q => z ((o_eq (by omega) (by omega)).mp q)), bnd_of (sureOf_c h hs), if_neg z]
theorem away_st {Z : XS} {X : XD} {N a b q : Nat} {A B : Nat → Nat} (h : VW X N A B) (hN : N ≤ 2) (hA : ∀ s, A s ≤ 100) (ha : a < 3) (hb : b < 3) : fX9_sideAway_17 Z 139 (q + 1) (Int32.ofNat b) (Int32.ofNat a) X = fX9_sideAway_17 Z 139 q (Int32.ofNat (if a ≠ N ∧ A b < A a then a else b)) (Int32.ofNat (a + 1)) X := by
  have h1 := hA a
  have h2 := hA b
  rw [fX9_sideAway_17_s, if_neg (show ¬ (3 : Int32) ≤ Int32.ofNat a from fun z => by have := (o_le (a := 3) (by omega) (by omega)).mp z; omega), h.1]
  unfold fX9_sideAway_45
  simp only [nm_eq]
  rw [show Int32.ofNat a + 1 = Int32.ofNat (a + 1) from o_add a 1]
  by_cases z : a = N
  · rw [if_pos (by rw [z]), if_neg (fun y => y.1 z)]
  · rw [if_neg (fun y => z ((o_eq (by omega) (by omega)).mp y)), bnd_of (sureOf_c h ha), bnd_of (sureOf_c h hb)]
    by_cases y : A b < A a
    · rw [if_neg (show ¬ Int32.ofNat (A a) ≤ Int32.ofNat (A b) by rw [o_le (by omega) (by omega)]; omega), if_pos ⟨z, y⟩]
    · rw [if_pos ((o_le (by omega) (by omega)).mpr (by omega)), if_neg (fun w => y w.2)]
theorem away_c {Z : XS} {X : XD} {N : Nat} {A B : Nat → Nat} (h : VW X N A B) (hN : N ≤ 2) (hA : ∀ s, A s ≤ 100) : fX9_sideAway Z 139 X = some (Int32.ofNat (waA N A)) := by
  have done : ∀ (a q : Nat), fX9_sideAway_17 Z 139 (q + 1) (Int32.ofNat a) (Int32.ofNat 3) X = some (Int32.ofNat a) := fun a q => by
    rw [fX9_sideAway_17_s, if_pos (by decide)]
  obtain ⟨m, hm⟩ : ∃ m, FU = m + 4 := ⟨999996, rfl⟩
  unfold fX9_sideAway fX9_sideAway_12
  rw [h.1, hm]
  simp only [nm_eq]
  rcases (show N = 0 ∨ N = 1 ∨ N = 2 by omega) with rfl | rfl | rfl
  · rw [if_pos (by decide)]
    refine (away_st (a := 2) (b := 1) (q := m + 3) h (by decide) hA (by decide) (by decide)).trans ?_
    rw [done]
    unfold waA
    by_cases z : A 1 < A 2
    · rw [if_pos ⟨by decide, z⟩, if_pos rfl, if_pos z]
    · rw [if_neg (fun y => z y.2), if_pos rfl, if_neg z]
  · rw [if_neg (by decide)]
    refine (away_st (a := 1) (b := 0) (q := m + 3) h (by decide) hA (by decide) (by decide)).trans ?_
    rw [if_neg (fun y => y.1 rfl)]
    refine (away_st (a := 2) (b := 0) (q := m + 2) h (by decide) hA (by decide) (by decide)).trans ?_
    rw [done]
    unfold waA
    by_cases z : A 0 < A 2
    · rw [if_pos ⟨by decide, z⟩, if_neg (by decide), if_pos rfl, if_pos z]
    · rw [if_neg (fun y => z y.2), if_neg (by decide), if_pos rfl, if_neg z]
  · rw [if_neg (by decide)]
    refine (away_st (a := 1) (b := 0) (q := m + 3) h (by decide) hA (by decide) (by decide)).trans ?_
    refine (away_st (a := 2) (q := m + 2) h (by decide) hA (by decide) (by split <;> decide)).trans ?_
    rw [if_neg (fun y => y.1 rfl), done]
    unfold waA
    by_cases z : A 0 < A 1
    · rw [if_pos ⟨by decide, z⟩, if_neg (by decide), if_neg (by decide), if_pos z]
    · rw [if_neg (fun y => z y.2), if_neg (by decide), if_neg (by decide), if_neg z]
theorem side_c {Z : XS} {X : XD} {t o n i k v : Nat} {r : Rnd} {G : List Cl} (hr : RT X t r) (hI : RI n r) (hk : CK Z X o i k v) (hV : VW X (ntA r i k G) (suA r i k G) (saA r i k G)) : fV_X4_side Z o 139 t X = some (Int32.ofNat (aiA r i k v G)) := by
  obtain ⟨k1, k2, k3, k4, k5, k6, k7, k8⟩ := hk
  have bl := hI.1 i
  have bs := hI.2.1 i
  have hN : ntA r i k G ≤ 2 := noteA_le bl
  have wa := away_c (Z := Z) hV hN (fun s => suA_le)
  have eL := lastOf_r (Z := Z) hr k8
  have eS := shotsOf_r (Z := Z) hr k8
  have pl : fX4_side Z o 139 t X = some (Int32.ofNat (v % 3)) := by
    unfold fX4_side
    rw [k5, show Int32.ofNat v - Int32.ofNat v / 3 * 3 = Int32.ofNat (v % 3) from o_rem (b := 3) (by omega) (by omega)]
  have tu : fX8_side Z o 139 t X = some (Int32.ofNat (tuA r i v)) := by
    unfold fX8_side fX8_side_19 tuA
    rw [k4, bnd_of eL, pl]
    rcases (show rL r i = 0 ∨ rL r i = 1 ∨ rL r i = 2 ∨ rL r i = 3 by omega) with e | e | e | e <;> rw [e] <;> first | rfl | (show some ((2 : Int32) - Int32.ofNat _) = _; rw [show (2 : Int32) = Int32.ofNat 2 from rfl, o_sub (by decide)]; rfl)
  have st : fX5_side Z o 139 t X = some (Int32.ofNat (stA r i v)) := by
    unfold fX5_side stA
    rw [k4, bnd_of eL, pl]
    rcases (show rL r i = 0 ∨ rL r i = 1 ∨ rL r i = 2 ∨ rL r i = 3 by omega) with e | e | e | e <;> rw [e] <;> rfl
  have w10 : fX10_side Z o 139 t X = some (Int32.ofNat (waA (ntA r i k G) (suA r i k G))) := by
    unfold fX10_side
    rw [wa]; rfl
  unfold fV_X4_side
  rw [k3]
  rcases (show k = 0 ∨ k = 1 ∨ k = 2 ∨ k = 3 ∨ k = 4 ∨ k = 5 ∨ k = 6 by omega) with rfl | rfl | rfl | rfl | rfl | rfl | rfl
  · exact pl
  · exact tu
  · exact st
  · exact w10
  · show fX0_side Z o 139 t X = some (Int32.ofNat (if rS r i % 2 = 0 then tuA r i v else 1))
    unfold fX0_side
    rw [k4, bnd_of eS, tu, show Int32.ofNat (rS r i) - Int32.ofNat (rS r i) / 2 * 2 = Int32.ofNat (rS r i % 2) from o_rem (b := 2) (by omega) (by omega)]
    by_cases z : rS r i % 2 = 0
    · rw [if_pos (by rw [z]; rfl), if_pos z]; rfl
    · rw [if_neg (show ¬ Int32.ofNat (rS r i % 2) = 0 from fun q => z ((o_eq (b := 0) (by omega) (by omega)).mp q)), if_neg z]; rfl
  · show fX2_side Z o 139 t X = some (Int32.ofNat (if rS r i < 3 then stA r i v else 2 - stA r i v))
    have hs := stA_le (v := v) bl
    unfold fX2_side
    rw [bnd_of st, k4, bnd_of eS]
    by_cases z : rS r i < 3
    · rw [if_neg (show ¬ (3 : Int32) ≤ Int32.ofNat (rS r i) from fun q => by have := (o_le (a := 3) (by omega) (by omega)).mp q; omega), if_pos z]
    · rw [if_pos (show (3 : Int32) ≤ Int32.ofNat (rS r i) from (o_le (a := 3) (by omega) (by omega)).mpr (by omega)), if_neg z, show (2 : Int32) - Int32.ofNat (stA r i v) = Int32.ofNat (2 - stA r i v) from o_sub (a := 2) hs]
  · show fX7_side Z o 139 t X = some (Int32.ofNat (if ntA r i 6 G = 1 then rR r (4 * i + rS r i % 4) else waA (ntA r i 6 G) (suA r i 6 G)))
    unfold fX7_side
    rw [hV.1, w10]
    by_cases z : ntA r i 6 G = 1
    · rw [if_pos (by rw [z]; rfl), if_pos z, k4, bnd_of eS, show Int32.ofNat (rS r i) - Int32.ofNat (rS r i) / 4 * 4 = Int32.ofNat (rS r i % 4) from o_rem (b := 4) (by omega) (by omega), bnd_of (toldOf_r hr k8 (by omega))]
    · rw [if_neg (show ¬ Int32.ofNat (ntA r i 6 G) = 1 from fun q => z ((o_eq (b := 1) (by omega) (by omega)).mp q)), if_neg z]; rfl
