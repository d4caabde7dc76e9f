set_option maxHeartbeats 40000000
set_option maxRecDepth 100000
/-! orders of places: the class's codes, the reference's numbers -/
def fac : Nat → Nat
  | 0 => 1
  | n + 1 => (n + 1) * fac n
def pick : Nat → Nat → Nat → Nat → Option Nat
  | 0, _, _, _ => none
  | d + 1, p, left, nth => if left.testBit p = true ∧ nth = 0 then some p else pick d (p + 1) left (nth - (if left.testBit p then 1 else 0))
def lo44 (n : Nat) : Nat → Nat → Nat → Nat → Nat → Option (List Nat)
  | 0, _, _, _, _ => some []
  | d + 1, all, left, rest, k => if all / (n - k) = 0 then none else match pick 4 0 left (rest / (all / (n - k))) with
    | none => none
    | some p => (lo44 n d (all / (n - k)) (left - 2 ^ p) (rest % (all / (n - k))) (k + 1)).map (fun l => p :: l)
def arr (n code : Nat) : Nat → Nat → Nat → Option (List Nat)
  | 0, _, _ => some []
  | d + 1, k, used => if n ≤ code / 4 ^ (n - 1 - k) % 4 ∨ used.testBit (code / 4 ^ (n - 1 - k) % 4) = true then none else (arr n code d (k + 1) (used + 2 ^ (code / 4 ^ (n - 1 - k) % 4))).map (fun l => code / 4 ^ (n - 1 - k) % 4 :: l)
def fm (f : Nat → Option (List Nat)) : Nat → Nat → List (List Nat)
  | _, 0 => []
  | c, d + 1 => match f c with
    | none => fm f (c + 1) d
    | some l => l :: fm f (c + 1) d
def arrN (n code : Nat) : Option (List Nat) := arr n code n 0 0
def layN (n num : Nat) : Option (List Nat) := lo44 n n (fac n) (2 ^ n - 1) num 0
theorem perm_eq : ∀ n, n < 5 → fm (arrN n) 0 (4 ^ n) = fm (layN n) 0 (fac n) := by decide +kernel
def okL (n : Nat) (o : Option (List Nat)) : Bool := match o with
  | none => true
  | some l => decide (l.length = n) && l.all (fun p => decide (p < n))
def okS (n : Nat) (o : Option (List Nat)) : Bool := match o with
  | none => false
  | some l => decide (l.length = n) && l.all (fun p => decide (p < n))
theorem arr_ok : ∀ n, n < 5 → ∀ code, code < 4 ^ n → okL n (arrN n code) = true := by decide +kernel
theorem lay_ok : ∀ n, n < 5 → ∀ num, num < fac n → okS n (layN n num) = true := by decide +kernel
theorem okL_s {n : Nat} {l : List Nat} (h : okL n (some l) = true) : l.length = n ∧ ∀ j, j < n → l.getD j 0 < n := by
  unfold okL at h
  rw [Bool.and_eq_true, decide_eq_true_iff, List.all_eq_true] at h
  refine ⟨h.1, fun j hj => ?_⟩
  have hj2 : j < l.length := by rw [h.1]; exact hj
  rw [show l.getD j 0 = l[j] from by simp [List.getD_eq_getElem?_getD, List.getElem?_eq_getElem hj2]]
  exact of_decide_eq_true (h.2 _ (List.getElem_mem hj2))
theorem tb_left : ∀ left, left < 16 → ∀ p, p < 4 → left.testBit p = true → (Int32.ofNat left &&& (((1 : Int32) <<< (Int32.ofNat p &&& 31)) ^^^ (-1))) = Int32.ofNat (left - 2 ^ p) := by decide +kernel
theorem tb_used : ∀ u, u < 16 → ∀ p, p < 4 → u.testBit p = false → (Int32.ofNat u ||| ((1 : Int32) <<< (Int32.ofNat p &&& 31))) = Int32.ofNat (u + 2 ^ p) ∧ u + 2 ^ p < 16 := by decide +kernel
theorem tb_code : ∀ c, c < 256 → ∀ e, e < 4 → ((Int32.ofNat c >>> (Int32.ofNat (2 * e) &&& 31)) &&& 3) = Int32.ofNat (c / 4 ^ e % 4) := by decide +kernel
theorem pick_m {k44 : Int32 → Int32 → Int32 → Int32 → XD → Option (Int32 × XD)} {x2 x4 : Int32} {left k : Nat} (hl : left < 16) (hk : k < 4) : ∀ (d p nth m q : Nat) (X : XD), p + d = 4 → d < m → nth < 1000 → pick d p left nth = some q → q < 4 ∧ left.testBit q = true ∧ fX12_layOrder_78 k44 m x2 (Int32.ofNat left) x4 (Int32.ofNat k) (Int32.ofNat nth) (Int32.ofNat p) X = k44 x2 (Int32.ofNat (left - 2 ^ q)) x4 (Int32.ofNat (k + 1)) (wI X 21 k (Int32.ofNat q)) := by
  intro d
  induction d with
  | zero => intro p nth m q X h1 h2 h3 h4; cases h4
  | succ d ih =>
    intro p nth m q X h1 h2 h3 h4
    obtain ⟨m, rfl⟩ : ∃ q, m = q + 1 := ⟨m - 1, by omega⟩
    have h4 : (if left.testBit p = true ∧ nth = 0 then some p else pick d (p + 1) left (nth - (if left.testBit p then 1 else 0))) = some q := h4
    have hh := fun X => has_m (X := X) hl (show p < 4 by omega)
    rw [fX12_layOrder_78_s]
    unfold fX12_layOrder_93 fX12_layOrder_110
    rw [bnd_of (hh X), nm_eq, nm_eq, nm_eq, nm_eq]
    have ep : Int32.ofNat p + 1 = Int32.ofNat (p + 1) := o_add p 1
    by_cases z : left.testBit p = true
    · rw [z, if_neg (show ¬ b2 true = 0 by decide)]
      by_cases y : nth = 0
      · rw [if_pos ⟨z, y⟩] at h4
        have h4 := Option.some.inj h4
        subst h4
        rw [if_pos (show Int32.ofNat nth ≤ 0 by rw [y]; decide), gin_o (by omega) (by omega), nm_eq, nm_eq, nm_eq, i32n (by omega), tb_left left hl p (by omega) z, show Int32.ofNat k + 1 = Int32.ofNat (k + 1) from o_add k 1]
        exact ⟨by omega, z, rfl⟩
      · rw [if_neg (fun w => y w.2), if_pos z] at h4
        rw [if_neg (show ¬ Int32.ofNat nth ≤ 0 from fun w => by have := (o_le (b := 0) (by omega) (by omega)).mp w; omega), bnd_of (hh X), z, if_neg (show ¬ b2 true = 0 by decide), show Int32.ofNat nth - 1 = Int32.ofNat (nth - 1) from o_sub (b := 1) (by omega), ep]
        exact ih (p + 1) (nth - 1) m q X (by omega) (by omega) (by omega) h4
    · rw [if_neg (fun w => z w.1), if_neg z] at h4
      have zf : left.testBit p = false := by simpa using z
      rw [zf, if_pos (show b2 false = 0 by decide), bnd_of (hh X), zf, if_pos (show b2 false = 0 by decide), show Int32.ofNat nth - 0 = Int32.ofNat (nth - 0) from o_sub (b := 0) (by omega), ep]
      exact ih (p + 1) (nth - 0) m q X (by omega) (by omega) (by omega) h4
theorem lo_m {n : Nat} (hn : n ≤ 4) : ∀ (d all left rest k m : Nat) (l : List Nat) (X : XD), k + d = n → d < m → all < 1000 → rest < 1000 → left < 16 → X.1 0 32 = Int32.ofNat n → lo44 n d all left rest k = some l → ∃ Y, fX12_layOrder_44 m (Int32.ofNat all) (Int32.ofNat left) (Int32.ofNat rest) (Int32.ofNat k) X = some (1, Y) ∧ (∀ j, j < d → Y.1 21 (k + j) = Int32.ofNat (l.getD j 0)) ∧ (∀ j, j < k → Y.1 21 j = X.1 21 j) ∧ (∀ q, q ≠ 21 → Y.1 q = X.1 q) ∧ Y.2 = X.2 := by
  intro d
  induction d with
  | zero =>
    intro all left rest k m l X h1 h2 h3 h4 h5 h0 h6
    obtain ⟨m, rfl⟩ : ∃ q, m = q + 1 := ⟨m - 1, by omega⟩
    rw [fX12_layOrder_44_s, h0, if_pos ((o_le (by omega) (by omega)).mpr (by omega))]
    exact ⟨X, rfl, fun j hj => absurd hj (Nat.not_lt_zero j), fun j _ => rfl, fun q _ => rfl, rfl⟩
  | succ d ih =>
    intro all left rest k m l X h1 h2 h3 h4 h5 h0 h6
    obtain ⟨m, rfl⟩ : ∃ q, m = q + 1 := ⟨m - 1, by omega⟩
    have h6 : (if all / (n - k) = 0 then none else match pick 4 0 left (rest / (all / (n - k))) with
      | none => none
      | some p => (lo44 n d (all / (n - k)) (left - 2 ^ p) (rest % (all / (n - k))) (k + 1)).map (fun l => p :: l)) = some l := h6
    by_cases z : all / (n - k) = 0
    · rw [if_pos z] at h6; cases h6
    rw [if_neg z] at h6
    have ba : all / (n - k) < 1000 := Nat.lt_of_le_of_lt (Nat.div_le_self _ _) h3
    have bn : rest / (all / (n - k)) < 1000 := Nat.lt_of_le_of_lt (Nat.div_le_self _ _) h4
    have br : rest % (all / (n - k)) < 1000 := Nat.lt_of_le_of_lt (Nat.mod_le _ _) h4
    cases hp : pick 4 0 left (rest / (all / (n - k))) with
    | none => rw [hp] at h6; cases h6
    | some p =>
      rw [hp] at h6
      have h6 : (lo44 n d (all / (n - k)) (left - 2 ^ p) (rest % (all / (n - k))) (k + 1)).map (fun l => p :: l) = some l := h6
      cases hq : lo44 n d (all / (n - k)) (left - 2 ^ p) (rest % (all / (n - k))) (k + 1) with
      | none => rw [hq] at h6; cases h6
      | some l' =>
        rw [hq] at h6
        have h6 : some (p :: l') = some l := h6
        have h6 := Option.some.inj h6
        subst h6
        obtain ⟨p1, p2, p3⟩ := pick_m (k44 := fX12_layOrder_44 m) (x2 := Int32.ofNat (all / (n - k))) (x4 := Int32.ofNat (rest % (all / (n - k)))) (k := k) h5 (by omega) 4 0 (rest / (all / (n - k))) FU p X rfl (FU_gt (by decide)) bn hp
        obtain ⟨Y, y1, y2, y3, y4, y5⟩ := ih (all / (n - k)) (left - 2 ^ p) (rest % (all / (n - k))) (k + 1) m l' (wI X 21 k (Int32.ofNat p)) (by omega) (by omega) ba br (Nat.lt_of_le_of_lt (Nat.sub_le _ _) h5) (by rw [wI_c (by decide)]; exact h0) hq
        refine ⟨Y, ?_, fun j hj => ?_, fun j hj => ?_, fun q hq => ?_, y5⟩
        · have gz : ∀ {α : Type} {a : Nat} (x : Option α), 0 < a → a < 2000 → gnz (Int32.ofNat a) x = x := fun x ha hb => by
            unfold gnz
            rw [if_neg (fun y => by have := (o_eq (b := 0) (by omega) (by omega)).mp y; omega)]
          rw [fX12_layOrder_44_s, h0, if_neg (show ¬ Int32.ofNat n ≤ Int32.ofNat k by rw [o_le (by omega) (by omega)]; omega), o_sub (by omega), gz _ (by omega) (by omega), nm_eq, o_div (by omega) (by omega), gz _ (Nat.pos_of_ne_zero z) (by omega), nm_eq, gz _ (Nat.pos_of_ne_zero z) (by omega), nm_eq, o_rem (by omega) (by omega), o_div (by omega) (by omega)]
          exact p3.trans y1
        · cases j with
          | zero => rw [Nat.add_zero, y3 k (by omega), wI_s]; rfl
          | succ j => rw [show k + (j + 1) = k + 1 + j by omega, y2 j (by omega)]; rfl
        · rw [y3 j (by omega), wI_k (by omega)]
        · rw [y4 q hq, wI_c hq]
theorem lay_num {n num : Nat} {l : List Nat} {X : XD} (hn1 : 1 ≤ n) (hn : n ≤ 4) (h0 : X.1 0 32 = Int32.ofNat n) (hnum : num < fac n) (hl : layN n num = some l) : ∃ Y, fX12_layOrder (Int32.ofNat num) X = some (1, Y) ∧ (∀ j, j < n → Y.1 21 j = Int32.ofNat (l.getD j 0)) ∧ (∀ q, q ≠ 21 → Y.1 q = X.1 q) ∧ Y.2 = X.2 := by
  have hf : fac n < 100 := by rcases (show n = 1 ∨ n = 2 ∨ n = 3 ∨ n = 4 by omega) with rfl | rfl | rfl | rfl <;> decide
  have h2 : 2 ^ n - 1 < 16 := by rcases (show n = 1 ∨ n = 2 ∨ n = 3 ∨ n = 4 by omega) with rfl | rfl | rfl | rfl <;> decide
  obtain ⟨Y, y1, y2, y3, y4, y5⟩ := lo_m hn n (fac n) (2 ^ n - 1) num 0 FU l X (by omega) (FU_gt (by omega)) (by omega) (by omega) h2 h0 hl
  refine ⟨Y, ?_, fun j hj => by have := y2 j hj; rw [Nat.zero_add] at this; exact this, y4, y5⟩
  have lt : Int32.ofNat num < Int32.ofNat (fac n) := (o_lt (by omega) (by omega)).mpr hnum
  obtain ⟨m, hm⟩ : ∃ m, FU = m + 4 := ⟨999996, rfl⟩
  have y1' : fX12_layOrder_44 FU (Int32.ofNat (fac n)) (((1 : Int32) <<< (Int32.ofNat n &&& 31)) - 1) (Int32.ofNat num) 0 X = some (1, Y) := by
    rw [show ((1 : Int32) <<< (Int32.ofNat n &&& 31)) - 1 = Int32.ofNat (2 ^ n - 1) from by rcases (show n = 1 ∨ n = 2 ∨ n = 3 ∨ n = 4 by omega) with rfl | rfl | rfl | rfl <;> decide]
    exact y1
  unfold fX12_layOrder
  have go : ∀ m, fX12_layOrder_4 (m + 4) (Int32.ofNat num) 1 2 X = some (1, Y) := by
    intro m
    rcases (show n = 1 ∨ n = 2 ∨ n = 3 ∨ n = 4 by omega) with rfl | rfl | rfl | rfl
    · rw [fX12_layOrder_4_s, h0, if_pos (by decide), if_pos (show Int32.ofNat num < 1 from lt), nm_eq]
      exact y1'
    · rw [fX12_layOrder_4_s, h0, if_neg (by decide), nm_eq, nm_eq, fX12_layOrder_4_s, h0, if_pos (by decide), if_pos (show Int32.ofNat num < 1 * 2 from lt), nm_eq]
      exact y1'
    · rw [fX12_layOrder_4_s, h0, if_neg (by decide), nm_eq, nm_eq, fX12_layOrder_4_s, h0, if_neg (by decide), nm_eq, nm_eq, fX12_layOrder_4_s, h0, if_pos (by decide), if_pos (show Int32.ofNat num < 1 * 2 * (2 + 1) from lt), nm_eq]
      exact y1'
    · rw [fX12_layOrder_4_s, h0, if_neg (by decide), nm_eq, nm_eq, fX12_layOrder_4_s, h0, if_neg (by decide), nm_eq, nm_eq, fX12_layOrder_4_s, h0, if_neg (by decide), nm_eq, nm_eq, fX12_layOrder_4_s, h0, if_pos (by decide), if_pos (show Int32.ofNat num < 1 * 2 * (2 + 1) * (2 + 1 + 1) from lt), nm_eq]
      exact y1'
  rw [hm]
  exact go m
theorem lay_end {n : Nat} {X : XD} (hn1 : 1 ≤ n) (hn : n ≤ 4) (h0 : X.1 0 32 = Int32.ofNat n) : fX12_layOrder (Int32.ofNat (fac n)) X = some (0, X) := by
  obtain ⟨m, hm⟩ : ∃ m, FU = m + 4 := ⟨999996, rfl⟩
  unfold fX12_layOrder
  have go : ∀ m, fX12_layOrder_4 (m + 4) (Int32.ofNat (fac n)) 1 2 X = some (0, X) := by
    intro m
    rcases (show n = 1 ∨ n = 2 ∨ n = 3 ∨ n = 4 by omega) with rfl | rfl | rfl | rfl
    · rw [fX12_layOrder_4_s, h0, if_pos (by decide), if_neg (by decide)]
    · rw [fX12_layOrder_4_s, h0, if_neg (by decide), nm_eq, nm_eq, fX12_layOrder_4_s, h0, if_pos (by decide), if_neg (by decide)]
    · rw [fX12_layOrder_4_s, h0, if_neg (by decide), nm_eq, nm_eq, fX12_layOrder_4_s, h0, if_neg (by decide), nm_eq, nm_eq, fX12_layOrder_4_s, h0, if_pos (by decide), if_neg (by decide)]
    · rw [fX12_layOrder_4_s, h0, if_neg (by decide), nm_eq, nm_eq, fX12_layOrder_4_s, h0, if_neg (by decide), nm_eq, nm_eq, fX12_layOrder_4_s, h0, if_neg (by decide), nm_eq, nm_eq, fX12_layOrder_4_s, h0, if_pos (by decide), if_neg (by decide)]
  rw [hm]
  exact go m
theorem arr_c {Z : XS} {n code : Nat} (hn : n ≤ 4) (hc : code < 256) : ∀ (d k used m : Nat) (X : XD), k + d = n → d < m → used < 16 → ∃ Y, fX11_arrange_5 Z m (Int32.ofNat code) (Int32.ofNat n) (Int32.ofNat used) (Int32.ofNat k) X = some (b2 (arr n code d k used).isSome, Y) ∧ (∀ l, arr n code d k used = some l → ∀ j, j < d → Y.1 155 (k + j) = Int32.ofNat (l.getD j 0)) ∧ (∀ j, j < k → Y.1 155 j = X.1 155 j) ∧ (∀ q, q ≠ 155 → Y.1 q = X.1 q) ∧ Y.2 = X.2 := by
  intro d
  induction d with
  | zero =>
    intro k used m X h1 h2 h3
    obtain ⟨m, rfl⟩ : ∃ q, m = q + 1 := ⟨m - 1, by omega⟩
    rw [fX11_arrange_5_s, if_pos ((o_le (by omega) (by omega)).mpr (by omega))]
    exact ⟨X, rfl, fun l _ j hj => absurd hj (Nat.not_lt_zero j), fun j _ => rfl, fun q _ => rfl, rfl⟩
  | succ d ih =>
    intro k used m X h1 h2 h3
    obtain ⟨m, rfl⟩ : ∃ q, m = q + 1 := ⟨m - 1, by omega⟩
    have hd : arr n code (d + 1) k used = if n ≤ code / 4 ^ (n - 1 - k) % 4 ∨ used.testBit (code / 4 ^ (n - 1 - k) % 4) = true then none else (arr n code d (k + 1) (used + 2 ^ (code / 4 ^ (n - 1 - k) % 4))).map (fun l => code / 4 ^ (n - 1 - k) % 4 :: l) := rfl
    rw [fX11_arrange_5_s, if_neg (show ¬ Int32.ofNat n ≤ Int32.ofNat k by rw [o_le (by omega) (by omega)]; omega), if_neg (show ¬ (4 : Int32) ≤ Int32.ofNat k from fun z => by have := (o_le (a := 4) (by omega) (by omega)).mp z; omega), nm_eq]
    rw [show (2 : Int32) * (Int32.ofNat n - 1 - Int32.ofNat k) = Int32.ofNat (2 * (n - 1 - k)) from by rw [show Int32.ofNat n - 1 = Int32.ofNat (n - 1) from o_sub (b := 1) (by omega), o_sub (by omega)]; exact o_mul (a := 2), tb_code code hc (n - 1 - k) (by omega), hd]
    have hp : code / 4 ^ (n - 1 - k) % 4 < 4 := Nat.mod_lt _ (by decide)
    generalize code / 4 ^ (n - 1 - k) % 4 = p at hp
    by_cases z : n ≤ p
    · rw [if_pos ((o_le (by omega) (by omega)).mpr z), if_pos (Or.inl z)]
      exact ⟨X, rfl, fun l hl => (by cases hl), fun j _ => rfl, fun q _ => rfl, rfl⟩
    rw [if_neg (fun y => z ((o_le (by omega) (by omega)).mp y))]
    by_cases y : used.testBit p = true
    · rw [if_pos ((bitc h3 hp).mpr y), if_pos (Or.inr y)]
      exact ⟨X, rfl, fun l hl => (by cases hl), fun j _ => rfl, fun q _ => rfl, rfl⟩
    rw [if_neg (fun w => y ((bitc h3 hp).mp w)), if_neg (fun w => w.elim z y), nm_eq]
    obtain ⟨t1, t2⟩ := tb_used used h3 p hp (by simpa using y)
    obtain ⟨Y, y1, y2, y3, y4, y5⟩ := ih (k + 1) (used + 2 ^ p) m (wI X 155 k (Int32.ofNat p)) (by omega) (by omega) t2
    rw [t1, gin_o (by omega) (by omega), nm_eq, nm_eq, i32n (by omega), show Int32.ofNat k + 1 = Int32.ofNat (k + 1) from o_add k 1, y1]
    refine ⟨Y, ?_, fun l hl j hj => ?_, fun j hj => ?_, fun q hq => ?_, y5⟩
    · cases arr n code d (k + 1) (used + 2 ^ p) <;> rfl
    · cases ha : arr n code d (k + 1) (used + 2 ^ p) with
      | none => rw [ha] at hl; cases hl
      | some l' =>
        rw [ha] at hl
        have hl : some (p :: l') = some l := hl
        have hl := Option.some.inj hl
        subst hl
        cases j with
        | zero => rw [Nat.add_zero, y3 k (by omega), wI_s]; rfl
        | succ j => rw [show k + (j + 1) = k + 1 + j by omega, y2 l' ha j (by omega)]; rfl
    · rw [y3 j (by omega), wI_k (by omega)]
    · rw [y4 q hq, wI_c hq]
