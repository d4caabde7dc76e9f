set_option maxHeartbeats 40000000
set_option maxRecDepth 100000
/-! SURE, SAVES and the NOTE of the reference -/
def sumA (w : Nat) (v : Nat → Nat) : List Cl → Nat
  | [] => 0
  | q :: G => (if q.1 = w ∧ hold v q.2.2 = true then q.2.1 else 0) + sumA w v G
def hasA (w : Nat) : List Cl → Bool
  | [] => false
  | q :: G => decide (q.1 = w) || hasA w G
def pct (w wo : Nat) (v : Nat → Nat) (G : List Cl) : Nat := if hasA w G then min 100 (sumA w v G) else wo
def noteA (v : Nat → Nat) (last : Nat) : List Cl → Nat
  | [] => if last = 3 then 1 else last
  | q :: G => if 2 ≤ q.1 ∧ hold v q.2.2 = true then (if q.1 = 2 then 0 else if q.1 = 3 then 2 else 1) else noteA v last G
def GM1 (X : XD) (c : Nat) (q : Cl) : Prop := X.1 9 c = Int32.ofNat q.1 ∧ (q.1 ≤ 1 → X.1 10 c = Int32.ofNat q.2.1) ∧ ∃ a, X.1 11 c = Int32.ofNat a ∧ X.1 12 c = Int32.ofNat (a + q.2.2.length) ∧ a + q.2.2.length ≤ 600 ∧ CMl X a q.2.2
def GMl (X : XD) : Nat → List Cl → Prop
  | _, [] => True
  | c, q :: G => GM1 X c q ∧ GMl X (c + 1) G
theorem GM1.eq {X Y : XD} (h : Y.1 9 = X.1 9) (h0 : Y.1 10 = X.1 10) (h1 : Y.1 11 = X.1 11) (h2 : Y.1 12 = X.1 12) (h3 : Y.1 13 = X.1 13) {q : Cl} {c : Nat} (z : GM1 X c q) : GM1 Y c q := by
  obtain ⟨a1, a2, a, a3, a4, a5, a6⟩ := z
  exact ⟨by rw [h]; exact a1, fun k => by rw [h0]; exact a2 k, a, by rw [h1]; exact a3, by rw [h2]; exact a4, a5, a6.eq h3⟩
theorem GMl.eq {X Y : XD} (h : Y.1 9 = X.1 9) (h0 : Y.1 10 = X.1 10) (h1 : Y.1 11 = X.1 11) (h2 : Y.1 12 = X.1 12) (h3 : Y.1 13 = X.1 13) : ∀ {G : List Cl} {c : Nat}, GMl X c G → GMl Y c G
  | [], _, _ => trivial
  | _ :: _, _, z => ⟨GM1.eq h h0 h1 h2 h3 z.1, GMl.eq h h0 h1 h2 h3 z.2⟩
theorem GMl.p {X Y : XD} (h : eqP X Y) {G : List Cl} {c : Nat} (z : GMl X c G) : GMl Y c G := z.eq (h.2 _ (by decide)) (h.2 _ (by decide)) (h.2 _ (by decide)) (h.2 _ (by decide)) (h.2 _ (by decide))
theorem holdM {X : XD} {c p s : Nat} {v : Nat → Nat} {q : Cl} (hc : c < 60) (hq : okC q) (h : GM1 X c q) (hF : FM X p s v) : ∃ Y, fX12_holds (Int32.ofNat c) (Int32.ofNat p) (Int32.ofNat s) X = some (b2 (hold v q.2.2), Y) ∧ eqP X Y := by
  obtain ⟨a1, a2, a, a3, a4, a5, a6⟩ := h
  obtain ⟨b1, b2, b3, b4, b5⟩ := hq
  unfold fX12_holds
  rw [gin_o hc (by omega), nm_eq, i32n (by omega), a3]
  exact holds_lp hc q.2.2 [] a FU X (FU_gt (by omega)) trivial b3 b4 a6 a4 a5 (by decide) hF
def HM (X : XD) (G : List Cl) : Prop := (∀ q ∈ G, okC q) ∧ G.length ≤ 10 ∧ ((X.1 0 10 = -1 ∧ G = []) ∨ ∃ j, j < 6 ∧ X.1 0 10 = Int32.ofNat j ∧ X.1 8 j = Int32.ofNat G.length ∧ GMl X (10 * j) G)
theorem HM.eq {X Y : XD} {G : List Cl} (h10 : Y.1 0 10 = X.1 0 10) (h8 : Y.1 8 = X.1 8) (h : Y.1 9 = X.1 9) (h0 : Y.1 10 = X.1 10) (h1 : Y.1 11 = X.1 11) (h2 : Y.1 12 = X.1 12) (h3 : Y.1 13 = X.1 13) (z : HM X G) : HM Y G := by
  obtain ⟨a1, a2, a3⟩ := z
  refine ⟨a1, a2, ?_⟩
  rcases a3 with ⟨b1, b2⟩ | ⟨j, b1, b2, b3, b4⟩
  · exact Or.inl ⟨by rw [h10]; exact b1, b2⟩
  · exact Or.inr ⟨j, b1, by rw [h10]; exact b2, by rw [h8]; exact b3, b4.eq h h0 h1 h2 h3⟩
theorem HM.p {X Y : XD} (h : eqP X Y) {G : List Cl} (z : HM X G) : HM Y G := z.eq (by rw [h.2 0 (by decide)]) (h.2 _ (by decide)) (h.2 _ (by decide)) (h.2 _ (by decide)) (h.2 _ (by decide)) (h.2 _ (by decide)) (h.2 _ (by decide))
theorem HM.ends {X : XD} {G : List Cl} (h : HM X G) : ∃ b, b + G.length ≤ 60 ∧ GMl X b G ∧ ∀ Y, eqP X Y → fX12_begin Y = some (Int32.ofNat b) ∧ fX12_behind Y = some (Int32.ofNat (b + G.length)) := by
  obtain ⟨h1, h2, h3⟩ := h
  rcases h3 with ⟨h3, rfl⟩ | ⟨j, h3, h4, h5, h6⟩
  · refine ⟨0, by decide, trivial, fun Y hY => ?_⟩
    have e : Y.1 0 10 = -1 := by rw [hY.2 0 (by decide)]; exact h3
    unfold fX12_begin fX12_behind
    rw [e]
    exact ⟨rfl, rfl⟩
  · refine ⟨10 * j, by omega, h6, fun Y hY => ?_⟩
    have e : Y.1 0 10 = Int32.ofNat j := by rw [hY.2 0 (by decide)]; exact h4
    have e8 : Y.1 8 j = Int32.ofNat G.length := by rw [hY.2 8 (by decide)]; exact h5
    unfold fX12_begin fX12_behind
    simp (disch := omega) only [↓bnd_some, ↓bnw_some, ↓nm_eq, ↓gb_0, ↓gb_1, ↓gin_o, ↓reduceIte, lit, o_lt_t, o_lt_f, o_le_t, o_le_f, o_eq_t, o_eq_f, n_lt_t, n_le_t, n_eq_f, i32n, wI_s, wI_c, wI_k, wI_2, wJ_s, wJ_c, wJ_k, wJ_1, o_add, o_sub, o_addn, o_mul, o_div, n_rem, Nat.add_zero, Nat.zero_add, e, e8]
    exact ⟨trivial, trivial⟩
theorem pct_lp {p s w wo e : Nat} {v : Nat → Nat} (hw : w ≤ 1) : ∀ (G : List Cl) (sum c n : Nat) (has : Bool) (X : XD), G.length < n → (∀ q ∈ G, okC q) → GMl X c G → c + G.length = e → e ≤ 60 → sum + 99 * G.length ≤ 2000 → FM X p s v → (∀ Y, eqP X Y → fX12_behind Y = some (Int32.ofNat e)) → ∃ Y, fX12_percent_12 n (Int32.ofNat w) (Int32.ofNat p) (Int32.ofNat s) (Int32.ofNat wo) (Int32.ofNat sum) (b2 has) (Int32.ofNat c) X = some (Int32.ofNat (if has || hasA w G then min 100 (sum + sumA w v G) else wo), Y) ∧ eqP X Y := by
  intro G
  induction G with
  | nil =>
    intro sum c n has X h1 h2 h3 h4 h5 h6 h7 h8
    obtain ⟨n, rfl⟩ : ∃ q, n = q + 1 := ⟨n - 1, by omega⟩
    have h4 : c = e := h4
    have h6 : sum ≤ 2000 := h6
    rw [fX12_percent_12_s, bnd_of (h8 X eqP.rfl)]
    subst h4
    rw [if_pos (Int32.le_refl _)]
    refine ⟨X, ?_, eqP.rfl⟩
    cases has with
    | false => rfl
    | true =>
      rw [if_neg (show ¬ b2 true = 0 by decide)]
      show (if Int32.ofNat sum ≤ 100 then some (Int32.ofNat sum, X) else some (100, X)) = some (Int32.ofNat (min 100 (sum + 0)), X)
      by_cases q : sum ≤ 100
      · rw [if_pos (show Int32.ofNat sum ≤ 100 from (o_le (b := 100) (by omega) (by omega)).mpr q), show min 100 (sum + 0) = sum by omega]
      · rw [if_neg (show ¬ Int32.ofNat sum ≤ 100 from fun z => q ((o_le (b := 100) (by omega) (by omega)).mp z)), show min 100 (sum + 0) = 100 by omega]
        rfl
  | cons q G ih =>
    intro sum c n has X h1 h2 h3 h4 h5 h6 h7 h8
    obtain ⟨n, rfl⟩ : ∃ q, n = q + 1 := ⟨n - 1, by omega⟩
    have hl : (q :: G).length = G.length + 1 := rfl
    rw [hl] at h1 h4 h6
    have hq := h2 q List.mem_cons_self
    have hq1 := hq.1
    have hq2 := hq.2.1
    have h9 : X.1 9 c = Int32.ofNat q.1 := h3.1.1
    rw [fX12_percent_12_s, bnd_of (h8 X eqP.rfl), if_neg (show ¬ Int32.ofNat e ≤ Int32.ofNat c by rw [o_le (by omega) (by omega)]; omega), gin_o (by omega) (by omega), i32n (by omega), h9]
    have e1 : Int32.ofNat c + 1 = Int32.ofNat (c + 1) := o_add c 1
    by_cases k : q.1 = w
    · rw [if_pos (by rw [k])]
      obtain ⟨Y, g1, g2⟩ := holdM (by omega) hq h3.1 h7
      rw [bnw_of g1]
      have ht : hasA w (q :: G) = true := by show (decide (q.1 = w) || _) = true; rw [decide_eq_true k]; rfl
      have h10 : Y.1 10 c = Int32.ofNat q.2.1 := by rw [g2.2 10 (by decide)]; exact h3.1.2.1 (by omega)
      have go : ∀ add : Nat, add ≤ 99 → ∃ Z, fX12_percent_62 (fX12_percent_12 n) (Int32.ofNat w) (Int32.ofNat p) (Int32.ofNat s) (Int32.ofNat wo) 1 (Int32.ofNat c) (Int32.ofNat add) (Int32.ofNat sum) Y = some (Int32.ofNat (min 100 (sum + (add + sumA w v G))), Z) ∧ eqP X Z := by
        intro add ha
        unfold fX12_percent_62 fX12_percent_65
        simp only [nm_eq, e1, o_add]
        have := ih (sum + add) (c + 1) n true Y (by omega) (fun q h => h2 q (List.mem_cons_of_mem _ h)) (h3.2.p g2) (by omega) h5 (by omega) (h7.eq g2) (fun Z hZ => h8 Z (g2.trans hZ))
        obtain ⟨Z, k1, k2⟩ := this
        refine ⟨Z, ?_, g2.trans k2⟩
        rw [show (sum + (add + sumA w v G)) = sum + add + sumA w v G by omega]
        exact k1
      rw [ht, Bool.or_true, if_pos rfl]
      by_cases kh : hold v q.2.2 = true
      · rw [if_neg (show ¬ b2 (hold v q.2.2) = 0 by rw [kh]; decide), gin_o (by omega) (by omega), h10]
        have : sumA w v (q :: G) = q.2.1 + sumA w v G := by show (if _ then _ else _) + _ = _; rw [if_pos ⟨k, kh⟩]
        rw [this]
        exact go q.2.1 (by omega)
      · rw [if_pos (show b2 (hold v q.2.2) = 0 by rw [b2_0]; simpa using kh)]
        have : sumA w v (q :: G) = 0 + sumA w v G := by show (if _ then _ else _) + _ = _; rw [if_neg (fun z => kh z.2)]
        rw [this]
        exact go 0 (by omega)
    · rw [if_neg (fun z => k ((o_eq (by omega) (by omega)).mp z))]
      unfold fX12_percent_65
      simp only [nm_eq, e1]
      have := ih sum (c + 1) n has X (by omega) (fun q h => h2 q (List.mem_cons_of_mem _ h)) h3.2 (by omega) h5 (by omega) h7 h8
      have e2 : hasA w (q :: G) = hasA w G := by show (decide (q.1 = w) || _) = _; rw [decide_eq_false k]; rfl
      have e3 : sumA w v (q :: G) = sumA w v G := by show (if _ then _ else _) + _ = _; rw [if_neg (fun z => k z.1), Nat.zero_add]
      rw [e2, e3]
      exact this
theorem pct_m {X : XD} {p s w wo : Nat} {v : Nat → Nat} {G : List Cl} (hw : w ≤ 1) (h : HM X G) (hF : FM X p s v) : ∃ Y, fX12_percent (Int32.ofNat w) (Int32.ofNat p) (Int32.ofNat s) (Int32.ofNat wo) X = some (Int32.ofNat (pct w wo v G), Y) ∧ eqP X Y := by
  obtain ⟨b, b1, b2, b3⟩ := h.ends
  obtain ⟨h1, h2, h3⟩ := h
  unfold fX12_percent
  rw [bnd_of (b3 X eqP.rfl).1]
  have := pct_lp (wo := wo) hw G 0 b FU false X (FU_gt (by omega)) h1 b2 rfl b1 (by omega) hF (fun Y hY => (b3 Y hY).2)
  rw [Nat.zero_add] at this
  exact this
theorem sure_m {X : XD} {p s : Nat} {v : Nat → Nat} {G : List Cl} (h : HM X G) (hF : FM X p s v) : ∃ Y, fX12_sure (Int32.ofNat p) (Int32.ofNat s) X = some (Int32.ofNat (pct 0 80 v G), Y) ∧ eqP X Y := by
  obtain ⟨Y, g1, g2⟩ := pct_m (w := 0) (wo := 80) (by decide) h hF
  refine ⟨Y, ?_, g2⟩
  unfold fX12_sure
  exact bnw_of g1 _
theorem saves_m {X : XD} {p s : Nat} {v : Nat → Nat} {G : List Cl} (h : HM X G) (hF : FM X p s v) : ∃ Y, fX12_saves (Int32.ofNat p) (Int32.ofNat s) X = some (Int32.ofNat (pct 1 40 v G), Y) ∧ eqP X Y := by
  obtain ⟨Y, g1, g2⟩ := pct_m (w := 1) (wo := 40) (by decide) h hF
  refine ⟨Y, ?_, g2⟩
  unfold fX12_saves
  exact bnw_of g1 _
theorem note_lp {p la e : Nat} {v : Nat → Nat} (hp : p < 6) (hla : la ≤ 3) : ∀ (G : List Cl) (c n : Nat) (X : XD), G.length < n → (∀ q ∈ G, okC q) → GMl X c G → c + G.length = e → e ≤ 60 → X.1 3 p = Int32.ofNat la → FM X p la v → (∀ Y, eqP X Y → fX12_behind Y = some (Int32.ofNat e)) → ∃ Y, fX12_note_5 n (Int32.ofNat p) (Int32.ofNat c) X = some (Int32.ofNat (noteA v la G), Y) ∧ eqP X Y := by
  intro G
  induction G with
  | nil =>
    intro c n X h1 h2 h3 h4 h5 h6 h7 h8
    obtain ⟨n, rfl⟩ : ∃ q, n = q + 1 := ⟨n - 1, by omega⟩
    have h4 : c = e := h4
    subst h4
    rw [fX12_note_5_s, bnd_of (h8 X eqP.rfl), if_pos (Int32.le_refl _), gin_o (by omega) (by omega), i32n (by omega), h6, gin_o (by omega) (by omega)]
    refine ⟨X, ?_, eqP.rfl⟩
    show _ = some (Int32.ofNat (if la = 3 then 1 else la), X)
    by_cases q : la = 3
    · rw [if_pos (by rw [q]; rfl), if_pos q]; rfl
    · rw [if_neg (show ¬ Int32.ofNat la = 3 from fun z => q ((o_eq (b := 3) (by omega) (by omega)).mp z)), if_neg q]
  | cons q G ih =>
    intro c n X h1 h2 h3 h4 h5 h6 h7 h8
    obtain ⟨n, rfl⟩ : ∃ q, n = q + 1 := ⟨n - 1, by omega⟩
    have hl : (q :: G).length = G.length + 1 := rfl
    rw [hl] at h1 h4
    have hq := h2 q List.mem_cons_self
    have hq1 := hq.1
    have h9 : X.1 9 c = Int32.ofNat q.1 := h3.1.1
    rw [fX12_note_5_s, bnd_of (h8 X eqP.rfl), if_neg (show ¬ Int32.ofNat e ≤ Int32.ofNat c by rw [o_le (by omega) (by omega)]; omega), gin_o (by omega) (by omega), i32n (by omega), h9, gin_o (by omega) (by omega), i32n (by omega), h6]
    have e1 : Int32.ofNat c + 1 = Int32.ofNat (c + 1) := o_add c 1
    have go : ∀ Y, eqP X Y → ∃ Z, fX12_note_71 (fX12_note_5 n) (Int32.ofNat p) (Int32.ofNat c) Y = some (Int32.ofNat (noteA v la G), Z) ∧ eqP X Z := by
      intro Y g2
      unfold fX12_note_71
      simp only [nm_eq, e1]
      obtain ⟨Z, k1, k2⟩ := ih (c + 1) n Y (by omega) (fun q h => h2 q (List.mem_cons_of_mem _ h)) (h3.2.p g2) (by omega) h5 (by rw [g2.2 3 (by decide)]; exact h6) (h7.eq g2) (fun Z hZ => h8 Z (g2.trans hZ))
      exact ⟨Z, k1, g2.trans k2⟩
    have eN : noteA v la (q :: G) = if 2 ≤ q.1 ∧ hold v q.2.2 = true then (if q.1 = 2 then 0 else if q.1 = 3 then 2 else 1) else noteA v la G := rfl
    by_cases k : q.1 < 2
    · rw [if_pos (show Int32.ofNat q.1 < 2 from (o_lt (b := 2) (by omega) (by omega)).mpr k), eN, if_neg (fun z => by omega)]
      exact go X eqP.rfl
    · rw [if_neg (show ¬ Int32.ofNat q.1 < 2 from fun z => k ((o_lt (b := 2) (by omega) (by omega)).mp z))]
      obtain ⟨Y, g1, g2⟩ := holdM (by omega) hq h3.1 h7
      rw [bnw_of g1, eN]
      by_cases kh : hold v q.2.2 = true
      · have h9y : Y.1 9 c = Int32.ofNat q.1 := by rw [g2.2 9 (by decide)]; exact h9
        rw [if_neg (show ¬ b2 (hold v q.2.2) = 0 by rw [kh]; decide), gin_o (by omega) (by omega), h9y, gin_o (by omega) (by omega), if_pos (show 2 ≤ q.1 ∧ hold v q.2.2 = true from ⟨by omega, kh⟩)]
        refine ⟨Y, ?_, g2⟩
        rcases (show q.1 = 2 ∨ q.1 = 3 ∨ q.1 = 4 by omega) with e | e | e <;> rw [e] <;> rfl
      · rw [if_pos (show b2 (hold v q.2.2) = 0 by rw [b2_0]; simpa using kh), if_neg (fun z => kh z.2)]
        exact go Y g2
theorem note_m {X : XD} {p la : Nat} {v : Nat → Nat} {G : List Cl} (hp : p < 6) (hla : la ≤ 3) (h3 : X.1 3 p = Int32.ofNat la) (h : HM X G) (hF : FM X p la v) : ∃ Y, fX12_note (Int32.ofNat p) X = some (Int32.ofNat (noteA v la G), Y) ∧ eqP X Y := by
  obtain ⟨b, b1, b2, b3⟩ := h.ends
  obtain ⟨h1, h2, h4⟩ := h
  unfold fX12_note
  rw [bnd_of (b3 X eqP.rfl).1]
  exact note_lp hp hla G b FU X (FU_gt (by omega)) h1 b2 rfl b1 h3 hF (fun Y hY => (b3 Y hY).2)
