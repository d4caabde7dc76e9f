set_option maxHeartbeats 40000000
set_option maxRecDepth 100000
/-! AIM and CHANCE of the reference -/
def waA (n : Nat) (S : Nat → Nat) : Nat := if n = 0 then (if S 1 < S 2 then 2 else 1) else if n = 1 then (if S 0 < S 2 then 2 else 0) else (if S 0 < S 1 then 1 else 0)
theorem waA_le {n : Nat} {S : Nat → Nat} : waA n S ≤ 2 := by
  unfold waA
  repeat' split
  all_goals omega
def ntA (r : Rnd) (i k : Nat) (G : List Cl) : Nat := noteA (fact (factR r i k) (rL r i)) (rL r i) G
def suA (r : Rnd) (i k : Nat) (G : List Cl) (s : Nat) : Nat := pct 0 80 (fact (factR r i k) s) G
def saA (r : Rnd) (i k : Nat) (G : List Cl) (s : Nat) : Nat := pct 1 40 (fact (factR r i k) s) G
def plA (v : Nat) : Nat := v % 3
def tuA (r : Rnd) (i v : Nat) : Nat := if rL r i = 1 ∨ rL r i = 3 then v % 3 else 2 - rL r i
def stA (r : Rnd) (i v : Nat) : Nat := if rL r i = 3 then v % 3 else rL r i
def aiA (r : Rnd) (i k v : Nat) (G : List Cl) : Nat := if k = 1 then tuA r i v else if k = 2 then stA r i v else if k = 3 then waA (ntA r i k G) (suA r i k G) else if k = 4 then (if rS r i % 2 = 0 then tuA r i v else 1) else if k = 5 then (if rS r i < 3 then stA r i v else 2 - stA r i v) else if k = 6 then (if ntA r i k G = 1 then rR r (4 * i + rS r i % 4) else waA (ntA r i k G) (suA r i k G)) else v % 3
def chA (r : Rnd) (i k : Nat) (G : List Cl) (s d : Nat) : Nat := if s = d then suA r i k G s - saA r i k G s else suA r i k G s
def cnA (r : Rnd) (i k v : Nat) (G : List Cl) : Nat := chA r i k G (aiA r i k v G) (ntA r i k G)
theorem pct_le {w wo : Nat} {v : Nat → Nat} {G : List Cl} (h : wo ≤ 100) : pct w wo v G ≤ 100 := by
  unfold pct
  split <;> omega
theorem suA_le {r : Rnd} {i k s : Nat} {G : List Cl} : suA r i k G s ≤ 100 := pct_le (by decide)
theorem saA_le {r : Rnd} {i k s : Nat} {G : List Cl} : saA r i k G s ≤ 100 := pct_le (by decide)
theorem chA_le {r : Rnd} {i k s d : Nat} {G : List Cl} : chA r i k G s d ≤ 100 := by
  have := suA_le (r := r) (i := i) (k := k) (s := s) (G := G)
  unfold chA
  split <;> omega
theorem cnA_le {r : Rnd} {i k v : Nat} {G : List Cl} : cnA r i k v G ≤ 100 := chA_le
theorem noteA_le {v : Nat → Nat} {la : Nat} {G : List Cl} (h : la ≤ 3) : noteA v la G ≤ 2 := by
  induction G with
  | nil => show (if la = 3 then 1 else la) ≤ 2; split <;> omega
  | cons q G ih =>
    show (if 2 ≤ q.1 ∧ hold v q.2.2 = true then (if q.1 = 2 then 0 else if q.1 = 3 then 2 else 1) else noteA v la G) ≤ 2
    split
    · repeat' split
      all_goals omega
    · exact ih
theorem stA_le {r : Rnd} {i v : Nat} (h : rL r i ≤ 3) : stA r i v ≤ 2 := by
  unfold stA; split <;> omega
theorem tuA_le {r : Rnd} {i v : Nat} : tuA r i v ≤ 2 := by
  unfold tuA; split <;> omega
theorem aiA_le {n : Nat} {r : Rnd} {i k v : Nat} {G : List Cl} (hI : RI n r) : aiA r i k v G ≤ 2 := by
  have h1 := tuA_le (r := r) (i := i) (v := v)
  have h2 := stA_le (v := v) (hI.1 i)
  have h3 := waA_le (n := ntA r i k G) (S := suA r i k G)
  have h4 := hI.2.2.2.1 (4 * i + rS r i % 4)
  unfold aiA
  repeat' split
  all_goals omega
/-- the reference stands for shooter i -/
def MA (X : XD) (n : Nat) (r : Rnd) (G : List Cl) : Prop := n ≤ 6 ∧ RM X n r ∧ RI n r ∧ HM X G
def MK (X : XD) (i k v : Nat) : Prop := k ≤ 6 ∧ v ≤ 9 ∧ X.1 1 i = Int32.ofNat k ∧ X.1 2 i = Int32.ofNat v
theorem MA.p {X Y : XD} {n : Nat} {r : Rnd} {G : List Cl} (h : MA X n r G) (q : eqP X Y) : MA Y n r G := ⟨h.1, h.2.1.p q, h.2.2.1, h.2.2.2.p q⟩
theorem MK.p {X Y : XD} {i k v : Nat} (h : MK X i k v) (q : eqP X Y) : MK Y i k v := ⟨h.1, h.2.1, by rw [q.2 1 (by decide)]; exact h.2.2.1, by rw [q.2 2 (by decide)]; exact h.2.2.2⟩
section A
variable {X : XD} {n i k v : Nat} {r : Rnd} {G : List Cl}
theorem su_m (h : MA X n r G) (hi : i < n) (hk : MK X i k v) {s : Nat} (hs : s ≤ 2) : ∃ Y, fX12_sure (Int32.ofNat i) (Int32.ofNat s) X = some (Int32.ofNat (suA r i k G s), Y) ∧ eqP X Y := sure_m h.2.2.2 (fm_of h.2.1 h.2.2.1 h.1 hi hk.1 hk.2.2.1 (by omega))
theorem sa_m (h : MA X n r G) (hi : i < n) (hk : MK X i k v) {s : Nat} (hs : s ≤ 2) : ∃ Y, fX12_saves (Int32.ofNat i) (Int32.ofNat s) X = some (Int32.ofNat (saA r i k G s), Y) ∧ eqP X Y := saves_m h.2.2.2 (fm_of h.2.1 h.2.2.1 h.1 hi hk.1 hk.2.2.1 (by omega))
theorem nt_m (h : MA X n r G) (hi : i < n) (hk : MK X i k v) : ∃ Y, fX12_note (Int32.ofNat i) X = some (Int32.ofNat (ntA r i k G), Y) ∧ eqP X Y := by
  have hl := h.2.2.1.1 i
  exact note_m (by have := h.1; omega) hl (h.2.1.1 i hi) h.2.2.2 (fm_of h.2.1 h.2.2.1 h.1 hi hk.1 hk.2.2.1 (by omega))
theorem pl_m (h : MA X n r G) (hi : i < n) (hk : MK X i k v) : fX12_plainly (Int32.ofNat i) X = some (Int32.ofNat (v % 3)) := by
  have hn := h.1
  have hv := hk.2.1
  unfold fX12_plainly
  simp (disch := omega) only [↓bnd_some, ↓bnw_some, ↓nm_eq, ↓gb_0, ↓gb_1, ↓gin_o, ↓reduceIte, lit, o_lt_t, o_lt_f, o_le_t, o_le_f, o_eq_t, o_eq_f, n_lt_t, n_le_t, n_eq_f, i32n, wI_s, wI_c, wI_k, wI_2, wJ_s, wJ_c, wJ_k, wJ_1, o_add, o_sub, o_addn, o_mul, o_div, n_rem, Nat.add_zero, Nat.zero_add, hk.2.2.2]
theorem tu_m (h : MA X n r G) (hi : i < n) (hk : MK X i k v) : fX12_turned (Int32.ofNat i) X = some (Int32.ofNat (tuA r i v)) := by
  have hn := h.1
  have hl := h.2.2.1.1 i
  unfold fX12_turned fX12_turned_20 tuA
  rw [pl_m h hi hk]
  simp (disch := omega) only [↓bnd_some, ↓bnw_some, ↓nm_eq, ↓gb_0, ↓gb_1, ↓gin_o, ↓reduceIte, lit, o_lt_t, o_lt_f, o_le_t, o_le_f, o_eq_t, o_eq_f, n_lt_t, n_le_t, n_eq_f, i32n, wI_s, wI_c, wI_k, wI_2, wJ_s, wJ_c, wJ_k, wJ_1, o_add, o_sub, o_addn, o_mul, o_div, n_rem, Nat.add_zero, Nat.zero_add, h.2.1.1 i hi]
  rcases (show rL r i = 0 ∨ rL r i = 1 ∨ rL r i = 2 ∨ rL r i = 3 by omega) with e | e | e | e <;> rw [e] <;> first | rfl | (rw [o_sub (by decide)]; rfl)
theorem st_m (h : MA X n r G) (hi : i < n) (hk : MK X i k v) : fX12_steady (Int32.ofNat i) X = some (Int32.ofNat (stA r i v)) := by
  have hn := h.1
  have hl := h.2.2.1.1 i
  unfold fX12_steady stA
  rw [pl_m h hi hk]
  simp (disch := omega) only [↓bnd_some, ↓bnw_some, ↓nm_eq, ↓gb_0, ↓gb_1, ↓gin_o, ↓reduceIte, lit, o_lt_t, o_lt_f, o_le_t, o_le_f, o_eq_t, o_eq_f, n_lt_t, n_le_t, n_eq_f, i32n, wI_s, wI_c, wI_k, wI_2, wJ_s, wJ_c, wJ_k, wJ_1, o_add, o_sub, o_addn, o_mul, o_div, n_rem, Nat.add_zero, Nat.zero_add, h.2.1.1 i hi]
  rcases (show rL r i = 0 ∨ rL r i = 1 ∨ rL r i = 2 ∨ rL r i = 3 by omega) with e | e | e | e <;> rw [e] <;> rfl
theorem wa_m (h : MA X n r G) (hi : i < n) (hk : MK X i k v) : ∃ Y, fX12_waits (Int32.ofNat i) X = some (Int32.ofNat (waA (ntA r i k G) (suA r i k G)), Y) ∧ eqP X Y := by
  obtain ⟨Y, g1, g2⟩ := nt_m h hi hk
  have hb := noteA_le (v := fact (factR r i k) (rL r i)) (G := G) (h.2.2.1.1 i)
  have hb : ntA r i k G ≤ 2 := hb
  unfold fX12_waits
  rw [bnw_of g1]
  obtain ⟨m, hm⟩ : ∃ m, FU = m + 4 := ⟨999996, rfl⟩
  rw [hm]
  have step : ∀ (a b q : Nat) (Z : XD), a ≤ 2 → b ≤ 2 → eqP X Z → ∃ W, (bnw (fX12_sure (Int32.ofNat i) (Int32.ofNat a) Z) fun r5 X_6 => bnw (fX12_sure (Int32.ofNat i) (Int32.ofNat b) X_6) fun r8 X_9 => if r5 ≤ r8 then fX12_waits_46 (fX12_waits_11 q) (Int32.ofNat i) (Int32.ofNat (ntA r i k G)) (Int32.ofNat b) (Int32.ofNat a) X_9 else fX12_waits_43 (fX12_waits_11 q) (Int32.ofNat i) (Int32.ofNat (ntA r i k G)) (Int32.ofNat a) X_9) = fX12_waits_11 q (Int32.ofNat i) (Int32.ofNat (ntA r i k G)) (Int32.ofNat (if suA r i k G b < suA r i k G a then a else b)) (Int32.ofNat (a + 1)) W ∧ eqP X W := by
    intro a b q Z ha hb hZ
    obtain ⟨Z1, k1, k2⟩ := su_m (h.p hZ) hi (hk.p hZ) ha
    obtain ⟨Z2, k3, k4⟩ := su_m (h.p (hZ.trans k2)) hi (hk.p (hZ.trans k2)) hb
    refine ⟨Z2, ?_, (hZ.trans k2).trans k4⟩
    rw [bnw_of k1, bnw_of k3]
    have b1 := suA_le (r := r) (i := i) (k := k) (G := G) (s := a)
    have b2 := suA_le (r := r) (i := i) (k := k) (G := G) (s := b)
    unfold fX12_waits_43 fX12_waits_46
    simp only [nm_eq]
    rw [show Int32.ofNat a + 1 = Int32.ofNat (a + 1) from o_add a 1]
    by_cases z : suA r i k G b < suA r i k G a
    · rw [if_neg (show ¬ Int32.ofNat (suA r i k G a) ≤ Int32.ofNat (suA r i k G b) by rw [o_le (by omega) (by omega)]; omega), if_pos z]
    · rw [if_pos ((o_le (by omega) (by omega)).mpr (by omega)), if_neg z]
  have w0 : (0 : Int32) = Int32.ofNat 0 := rfl
  have w1 : (1 : Int32) = Int32.ofNat 1 := rfl
  have done : ∀ (a q : Nat) (W : XD), eqP X W → ∃ V, fX12_waits_11 (q + 1) (Int32.ofNat i) (Int32.ofNat (ntA r i k G)) (Int32.ofNat a) (Int32.ofNat 3) W = some (Int32.ofNat a, V) ∧ eqP X V := by
    intro a q W hW
    refine ⟨W, ?_, hW⟩
    rw [fX12_waits_11_s, if_pos (by decide)]
  have firstN : ∀ (a q : Nat) (Z : XD), a ≤ 2 → ntA r i k G ≠ a → fX12_waits_11 (q + 1) (Int32.ofNat i) (Int32.ofNat (ntA r i k G)) (-1) (Int32.ofNat a) Z = fX12_waits_11 q (Int32.ofNat i) (Int32.ofNat (ntA r i k G)) (Int32.ofNat a) (Int32.ofNat (a + 1)) Z := by
    intro a q Z ha hne
    rw [fX12_waits_11_s, if_neg (show ¬ (3 : Int32) ≤ Int32.ofNat a from fun z => by have := (o_le (a := 3) (by omega) (by omega)).mp z; omega), if_neg (fun z => hne ((o_eq (by omega) (by omega)).mp z).symm), if_pos (by decide)]
    unfold fX12_waits_43 fX12_waits_46
    simp only [nm_eq]
    rw [show Int32.ofNat a + 1 = Int32.ofNat (a + 1) from o_add a 1]
  have skip : ∀ (a q : Nat) (b : Int32) (Z : XD), a ≤ 2 → ntA r i k G = a → fX12_waits_11 (q + 1) (Int32.ofNat i) (Int32.ofNat (ntA r i k G)) b (Int32.ofNat a) Z = fX12_waits_11 q (Int32.ofNat i) (Int32.ofNat (ntA r i k G)) b (Int32.ofNat (a + 1)) Z := by
    intro a q b Z ha he
    rw [fX12_waits_11_s, if_neg (show ¬ (3 : Int32) ≤ Int32.ofNat a from fun z => by have := (o_le (a := 3) (by omega) (by omega)).mp z; omega), if_pos (by rw [he])]
    unfold fX12_waits_46
    simp only [nm_eq]
    rw [show Int32.ofNat a + 1 = Int32.ofNat (a + 1) from o_add a 1]
  have second : ∀ (a b q : Nat) (Z : XD), a ≤ 2 → b ≤ 2 → ntA r i k G ≠ a → eqP X Z → ∃ W, fX12_waits_11 (q + 1) (Int32.ofNat i) (Int32.ofNat (ntA r i k G)) (Int32.ofNat b) (Int32.ofNat a) Z = fX12_waits_11 q (Int32.ofNat i) (Int32.ofNat (ntA r i k G)) (Int32.ofNat (if suA r i k G b < suA r i k G a then a else b)) (Int32.ofNat (a + 1)) W ∧ eqP X W := by
    intro a b q Z ha hb hne hZ
    obtain ⟨W, g1, g2⟩ := step a b q Z ha hb hZ
    refine ⟨W, ?_, g2⟩
    rw [fX12_waits_11_s, if_neg (show ¬ (3 : Int32) ≤ Int32.ofNat a from fun z => by have := (o_le (a := 3) (by omega) (by omega)).mp z; omega), if_neg (fun z => hne ((o_eq (by omega) (by omega)).mp z).symm), if_neg (o_ge0 (by omega))]
    exact g1
  rw [w0]
  rcases (show ntA r i k G = 0 ∨ ntA r i k G = 1 ∨ ntA r i k G = 2 by omega) with e | e | e
  · rw [skip 0 _ _ Y (by omega) e, firstN 1 _ Y (by omega) (by omega)]
    obtain ⟨W, k1, k2⟩ := second 2 1 (m + 1) Y (by omega) (by omega) (by omega) g2
    obtain ⟨V, k3, k4⟩ := done (if suA r i k G 1 < suA r i k G 2 then 2 else 1) m W k2
    refine ⟨V, k1.trans (k3.trans ?_), k4⟩
    unfold waA
    rw [if_pos e]
  · rw [firstN 0 _ Y (by omega) (by omega), skip 1 _ _ Y (by omega) e]
    obtain ⟨W, k1, k2⟩ := second 2 0 (m + 1) Y (by omega) (by omega) (by omega) g2
    obtain ⟨V, k3, k4⟩ := done (if suA r i k G 0 < suA r i k G 2 then 2 else 0) m W k2
    refine ⟨V, k1.trans (k3.trans ?_), k4⟩
    unfold waA
    rw [if_neg (show ¬ ntA r i k G = 0 by omega), if_pos e]
  · rw [firstN 0 _ Y (by omega) (by omega)]
    obtain ⟨W, k1, k2⟩ := second 1 0 (m + 2) Y (by omega) (by omega) (by omega) g2
    have hs := skip 2 (m + 1) (Int32.ofNat (if suA r i k G 0 < suA r i k G 1 then 1 else 0)) W (by omega) e
    obtain ⟨V, k3, k4⟩ := done (if suA r i k G 0 < suA r i k G 1 then 1 else 0) m W k2
    refine ⟨V, k1.trans (hs.trans (k3.trans ?_)), k4⟩
    unfold waA
    rw [if_neg (show ¬ ntA r i k G = 0 by omega), if_neg (show ¬ ntA r i k G = 1 by omega)]
theorem ai_m (h : MA X n r G) (hi : i < n) (hk : MK X i k v) : ∃ Y, fX12_aim (Int32.ofNat i) X = some (Int32.ofNat (aiA r i k v G), Y) ∧ eqP X Y := by
  have hn := h.1
  have bs := h.2.2.1.2.1 i
  have hk6 := hk.1
  unfold fX12_aim
  rw [gin_o (by omega) (by omega), i32n (by omega), hk.2.2.1]
  have e4 : X.1 4 i = Int32.ofNat (rS r i) := h.2.1.2.1 i hi
  rcases (show k = 0 ∨ k = 1 ∨ k = 2 ∨ k = 3 ∨ k = 4 ∨ k = 5 ∨ k = 6 by omega) with rfl | rfl | rfl | rfl | rfl | rfl | rfl
  · rw [if_neg (by decide), if_neg (by decide), if_neg (by decide), if_neg (by decide), if_neg (by decide), if_neg (by decide), bnd_of (pl_m h hi hk)]
    exact ⟨X, rfl, eqP.rfl⟩
  · rw [if_pos (by decide), bnd_of (tu_m h hi hk)]
    exact ⟨X, rfl, eqP.rfl⟩
  · rw [if_neg (by decide), if_pos (by decide), bnd_of (st_m h hi hk)]
    exact ⟨X, rfl, eqP.rfl⟩
  · obtain ⟨Y, g1, g2⟩ := wa_m h hi hk
    rw [if_neg (by decide), if_neg (by decide), if_pos (by decide), bnw_of g1]
    exact ⟨Y, rfl, g2⟩
  · rw [if_neg (by decide), if_neg (by decide), if_neg (by decide), if_pos (by decide), gin_o (by omega) (by omega), e4, show Int32.ofNat (rS r i) - Int32.ofNat (rS r i) / 2 * 2 = Int32.ofNat (rS r i % 2) from o_rem (b := 2) (by omega) (by omega), bnd_of (tu_m h hi hk)]
    refine ⟨X, ?_, eqP.rfl⟩
    show _ = some (Int32.ofNat (if rS r i % 2 = 0 then tuA r i v else 1), X)
    by_cases z : rS r i % 2 = 0
    · rw [if_pos (by rw [z]; rfl), if_pos z]
    · rw [if_neg (show ¬ Int32.ofNat (rS r i % 2) = 0 from fun q => z ((o_eq (b := 0) (by omega) (by omega)).mp q)), if_neg z]; rfl
  · rw [if_neg (by decide), if_neg (by decide), if_neg (by decide), if_neg (by decide), if_pos (by decide), gin_o (by omega) (by omega), e4, bnd_of (st_m h hi hk), bnd_of (st_m h hi hk)]
    refine ⟨X, ?_, eqP.rfl⟩
    have hs := stA_le (v := v) (h.2.2.1.1 i)
    show _ = some (Int32.ofNat (if rS r i < 3 then stA r i v else 2 - stA r i v), X)
    by_cases z : rS r i < 3
    · rw [if_neg (show ¬ (3 : Int32) ≤ Int32.ofNat (rS r i) from fun q => by have := (o_le (a := 3) (by omega) (by omega)).mp q; omega), if_pos z]
    · rw [if_pos (show (3 : Int32) ≤ Int32.ofNat (rS r i) from (o_le (a := 3) (by omega) (by omega)).mpr (by omega)), if_neg z, show (2 : Int32) - Int32.ofNat (stA r i v) = Int32.ofNat (2 - stA r i v) from o_sub (a := 2) hs]
  · obtain ⟨Y, g1, g2⟩ := nt_m h hi hk
    have hb : ntA r i 6 G ≤ 2 := noteA_le (h.2.2.1.1 i)
    rw [if_neg (by decide), if_neg (by decide), if_neg (by decide), if_neg (by decide), if_neg (by decide), if_pos (by decide), bnw_of g1]
    have e4y : Y.1 4 i = Int32.ofNat (rS r i) := by rw [g2.2 4 (by decide)]; exact e4
    rw [gin_o (by omega) (by omega), e4y, show Int32.ofNat (rS r i) - Int32.ofNat (rS r i) / 4 * 4 = Int32.ofNat (rS r i % 4) from o_rem (b := 4) (by omega) (by omega), show (4 : Int32) * Int32.ofNat i + Int32.ofNat (rS r i % 4) = Int32.ofNat (4 * i + rS r i % 4) from by rw [show (4 : Int32) * Int32.ofNat i = Int32.ofNat (4 * i) from o_mul (a := 4), o_add], gin_o (by omega) (by omega), i32n (by omega), (h.2.1.p g2).2.2.2.1 _ (by omega)]
    show ∃ Z, _ = some (Int32.ofNat (if ntA r i 6 G = 1 then rR r (4 * i + rS r i % 4) else waA (ntA r i 6 G) (suA r i 6 G)), Z) ∧ _
    by_cases z : ntA r i 6 G = 1
    · rw [if_pos (by rw [z]; rfl), if_pos z]
      exact ⟨Y, rfl, g2⟩
    · rw [if_neg (show ¬ Int32.ofNat (ntA r i 6 G) = 1 from fun q => z ((o_eq (b := 1) (by omega) (by omega)).mp q)), if_neg z]
      obtain ⟨W, k1, k2⟩ := wa_m (h.p g2) hi (hk.p g2)
      rw [bnw_of k1]
      exact ⟨W, rfl, g2.trans k2⟩
theorem ch_m (h : MA X n r G) (hi : i < n) (hk : MK X i k v) {s d : Nat} (hs : s ≤ 2) (hd : d ≤ 2) : ∃ Y, fX12_chanceOf (Int32.ofNat i) (Int32.ofNat s) (Int32.ofNat d) X = some (Int32.ofNat (chA r i k G s d), Y) ∧ eqP X Y := by
  obtain ⟨Y, g1, g2⟩ := su_m h hi hk hs
  have b1 := suA_le (r := r) (i := i) (k := k) (G := G) (s := s)
  have b2 := saA_le (r := r) (i := i) (k := k) (G := G) (s := s)
  unfold fX12_chanceOf
  rw [bnw_of g1]
  unfold chA
  by_cases z : s = d
  · obtain ⟨W, k1, k2⟩ := sa_m (h.p g2) hi (hk.p g2) hs
    rw [if_pos (by rw [z]), bnw_of k1, if_pos z]
    refine ⟨W, ?_, g2.trans k2⟩
    unfold fX12_chanceOf_21
    rw [nm_eq]
    by_cases q : saA r i k G s ≤ suA r i k G s
    · rw [o_sub q, if_pos (show (0 : Int32) ≤ Int32.ofNat _ from (o_le (a := 0) (by omega) (by omega)).mpr (by omega))]
    · rw [if_neg (show ¬ (0 : Int32) ≤ Int32.ofNat (suA r i k G s) - Int32.ofNat (saA r i k G s) from fun q2 => by
        rw [Int32.le_iff_toInt_le, Int32.toInt_sub, i32_ofN (by omega), i32_ofN (by omega)] at q2
        rw [Int.bmod_eq_of_le (by omega) (by omega)] at q2
        have : (0 : Int32).toInt = 0 := rfl
        omega)]
      rw [show suA r i k G s - saA r i k G s = 0 by omega]
      rfl
  · rw [if_neg (fun q => z ((o_eq (by omega) (by omega)).mp q)), if_neg z]
    refine ⟨Y, ?_, g2⟩
    unfold fX12_chanceOf_21
    rw [nm_eq, show Int32.ofNat (suA r i k G s) - 0 = Int32.ofNat (suA r i k G s) from o_sub (b := 0) (by omega), if_pos (show (0 : Int32) ≤ Int32.ofNat _ from (o_le (a := 0) (by omega) (by omega)).mpr (by omega))]
theorem cn_m (h : MA X n r G) (hi : i < n) (hk : MK X i k v) : ∃ Y, fX12_chanceNow (Int32.ofNat i) X = some (Int32.ofNat (cnA r i k v G), Y) ∧ eqP X Y := by
  obtain ⟨Y, g1, g2⟩ := ai_m h hi hk
  obtain ⟨W, k1, k2⟩ := nt_m (h.p g2) hi (hk.p g2)
  obtain ⟨U, m1, m2⟩ := ch_m (h.p (g2.trans k2)) hi (hk.p (g2.trans k2)) (aiA_le (k := k) (v := v) (i := i) (G := G) h.2.2.1) (noteA_le (v := fact (factR r i k) (rL r i)) (G := G) (h.2.2.1.1 i))
  unfold fX12_chanceNow
  rw [bnw_of g1, bnw_of k1, bnw_of (show fX12_chanceOf (Int32.ofNat i) (Int32.ofNat (aiA r i k v G)) (Int32.ofNat (ntA r i k G)) W = _ from m1)]
  exact ⟨U, rfl, (g2.trans k2).trans m2⟩
end A
