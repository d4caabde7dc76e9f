set_option maxHeartbeats 40000000
set_option maxRecDepth 100000
/-! the grammar, in the middle of the two parsers: ok, the place, the tokens -/
abbrev Rr : Type := Bool × Nat × List Tok
section G
variable (N : Nat) (tx : Nat → Nat)
def cT (p : Nat) : Nat := if p < N then tx p else 1000
def dig (n : Nat) : Bool := decide (48 ≤ n) && decide (n ≤ 57)
def letN (n : Nat) : Option Nat := if n = 112 then some 0 else if n = 107 then some 1 else if n = 115 then some 2 else if n = 110 then some 3 else if n = 103 then some 4 else if n = 97 then some 5 else none
def pTest (p : Nat) : Rr := match letN (cT N tx p) with
  | none => (false, p, [])
  | some f => if 60 ≤ cT N tx (p + 1) ∧ cT N tx (p + 1) ≤ 62 then
      (if dig (cT N tx (p + 2)) = true then
        (if dig (cT N tx (p + 3)) = true then (true, p + 4, [.inr (f, cT N tx (p + 1) - 60, 10 * (cT N tx (p + 2) - 48) + (cT N tx (p + 3) - 48))]) else (true, p + 3, [.inr (f, cT N tx (p + 1) - 60, cT N tx (p + 2) - 48)]))
      else (false, p + 2, []))
    else (false, p + 1, [])
/-- what comes behind a first operand: sign, operand, step, and so on -/
def loopB (sg : Nat) (tk : Tok) (u : Nat → Rr) : Nat → Nat → Rr
  | 0, p => (true, p, [])
  | n + 1, p => if cT N tx p = sg then
      (if (u (p + 1)).1 = true then ((loopB sg tk u n (u (p + 1)).2.1).1, (loopB sg tk u n (u (p + 1)).2.1).2.1, (u (p + 1)).2.2 ++ tk :: (loopB sg tk u n (u (p + 1)).2.1).2.2) else u (p + 1))
    else (true, p, [])
def pB (sg : Nat) (tk : Tok) (u : Nat → Rr) (p : Nat) : Rr := if (u p).1 = true then ((loopB N tx sg tk u 101 (u p).2.1).1, (loopB N tx sg tk u 101 (u p).2.1).2.1, (u p).2.2 ++ (loopB N tx sg tk u 101 (u p).2.1).2.2) else u p
def pT (u : Nat → Rr) : Nat → Rr := pB N tx 38 (.inl 1) u
def pE (u : Nat → Rr) : Nat → Rr := pB N tx 124 (.inl 2) (pT N tx u)
def pU : Nat → Nat → Rr
  | 0, p => pTest N tx p
  | k + 1, p => if cT N tx p = 33 then
      (if (pU k (p + 1)).1 = true then (true, (pU k (p + 1)).2.1, (pU k (p + 1)).2.2 ++ [.inl 0]) else pU k (p + 1))
    else if cT N tx p = 40 then
      (if (pE N tx (pU k) (p + 1)).1 = true then
        (if cT N tx (pE N tx (pU k) (p + 1)).2.1 = 41 then (true, (pE N tx (pU k) (p + 1)).2.1 + 1, (pE N tx (pU k) (p + 1)).2.2) else (false, (pE N tx (pU k) (p + 1)).2.1, (pE N tx (pU k) (p + 1)).2.2))
      else pE N tx (pU k) (p + 1))
    else pTest N tx p
end G
def Bn (N p : Nat) (R : Rr) : Prop := R.2.2.length + p ≤ R.2.1 ∧ (p ≤ N → R.2.1 ≤ N) ∧ ∀ t ∈ R.2.2, okT t
def Ht (a : Nat) (R : Rr) : Prop := R.1 = true → ∀ h, h ≤ a → hts R.2.2 h = some (h + 1)
theorem cT_lt {N : Nat} {tx : Nat → Nat} {p k : Nat} (h : cT N tx p = k) (hk : k < 1000) : p < N := by
  unfold cT at h
  by_cases q : p < N
  · exact q
  · rw [if_neg q] at h; omega
theorem dig_i {n : Nat} : dig n = true ↔ 48 ≤ n ∧ n ≤ 57 := by
  unfold dig
  rw [Bool.and_eq_true, decide_eq_true_iff, decide_eq_true_iff]
theorem letN_b {n f : Nat} (h : letN n = some f) : n < 1000 ∧ f ≤ 5 := by
  unfold letN at h
  repeat' split at h
  all_goals first | (cases h; omega) | (cases h)
theorem nodig {a p : Nat} {N : Nat} {tx : Nat → Nat} (h : dig (cT N tx p) = true) : p < N ∧ 48 ≤ cT N tx p ∧ cT N tx p ≤ 57 := by
  have := dig_i.mp h
  exact ⟨cT_lt (tx := tx) rfl (by omega), this⟩
theorem test_b {N : Nat} {tx : Nat → Nat} (p : Nat) : Bn N p (pTest N tx p) ∧ Ht 12 (pTest N tx p) := by
  unfold pTest
  cases hl : letN (cT N tx p) with
  | none => exact ⟨⟨by simp, fun h => h, fun t ht => by cases ht⟩, fun h => by cases h⟩
  | some f =>
    obtain ⟨b1, b2⟩ := letN_b hl
    have hp : p < N := cT_lt (tx := tx) rfl b1
    dsimp only
    by_cases h1 : 60 ≤ cT N tx (p + 1) ∧ cT N tx (p + 1) ≤ 62
    · have hp1 : p + 1 < N := cT_lt (tx := tx) rfl (by omega)
      rw [if_pos h1]
      by_cases h2 : dig (cT N tx (p + 2)) = true
      · rw [if_pos h2]
        obtain ⟨e1, e2, e3⟩ := nodig (a := 0) h2
        have one : ∀ t : Tok, (∃ q, t = .inr q) → ∀ h, h ≤ 12 → hts [t] h = some (h + 1) := by
          intro t ⟨q, e⟩ h hh
          subst e
          show (match hs1 (.inr q) h with | none => none | some h2 => hts [] h2) = _
          unfold hs1
          dsimp only
          rw [if_pos hh]
          rfl
        by_cases h3 : dig (cT N tx (p + 3)) = true
        · rw [if_pos h3]
          obtain ⟨f1, f2, f3⟩ := nodig (a := 0) h3
          refine ⟨⟨by show 1 + p ≤ p + 4; omega, fun _ => by show p + 4 ≤ N; omega, fun t ht => ?_⟩, fun _ h hh => one _ ⟨_, rfl⟩ h hh⟩
          rcases List.mem_singleton.mp ht with rfl
          exact ⟨b2, by show _ ≤ 2; dsimp only; omega, by show _ ≤ 99; dsimp only; omega⟩
        · rw [if_neg h3]
          refine ⟨⟨by show 1 + p ≤ p + 3; omega, fun _ => by show p + 3 ≤ N; omega, fun t ht => ?_⟩, fun _ h hh => one _ ⟨_, rfl⟩ h hh⟩
          rcases List.mem_singleton.mp ht with rfl
          exact ⟨b2, by show _ ≤ 2; dsimp only; omega, by show _ ≤ 99; dsimp only; omega⟩
      · rw [if_neg h2]
        exact ⟨⟨by show 0 + p ≤ p + 2; omega, fun _ => by show p + 2 ≤ N; omega, fun t ht => by cases ht⟩, fun h => by cases h⟩
    · rw [if_neg h1]
      exact ⟨⟨by show 0 + p ≤ p + 1; omega, fun _ => by show p + 1 ≤ N; omega, fun t ht => by cases ht⟩, fun h => by cases h⟩
theorem hts_2 {k h : Nat} {l : List Tok} (hk : 1 ≤ k) : hts (Sum.inl k :: l) (h + 2) = hts l (h + 1) := by
  obtain ⟨k, rfl⟩ : ∃ q, k = q + 1 := ⟨k - 1, by omega⟩
  show (match hs1 (.inl (k + 1)) (h + 2) with | none => none | some h2 => hts l h2) = _
  unfold hs1
  dsimp only
  rw [if_pos (by omega)]
  rfl
theorem loopB_b {N : Nat} {tx : Nat → Nat} {sg k a : Nat} {u : Nat → Rr} (hsg : sg < 1000) (hk : 1 ≤ k) (hu : ∀ p, Bn N p (u p) ∧ Ht (a + 1) (u p)) : ∀ (n p : Nat), Bn N p (loopB N tx sg (.inl k) u n p) ∧ ((loopB N tx sg (.inl k) u n p).1 = true → ∀ h, h ≤ a → hts (loopB N tx sg (.inl k) u n p).2.2 (h + 1) = some (h + 1)) := by
  intro n
  induction n with
  | zero => intro p; exact ⟨⟨by show 0 + p ≤ p; omega, fun h => h, fun t ht => by cases ht⟩, fun _ h _ => rfl⟩
  | succ n ih =>
    intro p
    unfold loopB
    by_cases h1 : cT N tx p = sg
    · have hp : p < N := cT_lt h1 hsg
      rw [if_pos h1]
      obtain ⟨⟨a1, a2, a3⟩, b1⟩ := hu (p + 1)
      by_cases h2 : (u (p + 1)).1 = true
      · rw [if_pos h2]
        obtain ⟨⟨c1, c2, c3⟩, d1⟩ := ih (u (p + 1)).2.1
        refine ⟨⟨?_, fun _ => c2 (a2 (by omega)), fun t ht => ?_⟩, fun h3 h hh => ?_⟩
        · show ((u (p + 1)).2.2 ++ _ :: _).length + p ≤ _
          rw [List.length_append, List.length_cons]
          dsimp only
          omega
        · rcases List.mem_append.mp ht with ht | ht
          · exact a3 t ht
          · rcases List.mem_cons.mp ht with rfl | ht
            · exact trivial
            · exact c3 t ht
        · exact hts_app (b1 h2 (h + 1) (by omega)) ((hts_2 hk).trans (d1 h3 h hh))
      · rw [if_neg h2]
        exact ⟨⟨by omega, fun _ => a2 (by omega), a3⟩, fun h3 => absurd h3 h2⟩
    · rw [if_neg h1]
      exact ⟨⟨by show 0 + p ≤ p; omega, fun h => h, fun t ht => by cases ht⟩, fun _ h _ => rfl⟩
theorem pB_b {N : Nat} {tx : Nat → Nat} {sg k a : Nat} {u : Nat → Rr} (hsg : sg < 1000) (hk : 1 ≤ k) (hu : ∀ p, Bn N p (u p) ∧ Ht (a + 1) (u p)) (p : Nat) : Bn N p (pB N tx sg (.inl k) u p) ∧ Ht a (pB N tx sg (.inl k) u p) := by
  unfold pB
  obtain ⟨⟨a1, a2, a3⟩, b1⟩ := hu p
  by_cases h2 : (u p).1 = true
  · rw [if_pos h2]
    obtain ⟨⟨c1, c2, c3⟩, d1⟩ := loopB_b (tx := tx) hsg hk hu 101 (u p).2.1
    refine ⟨⟨?_, fun h => c2 (a2 h), fun t ht => ?_⟩, fun h3 h hh => ?_⟩
    · show ((u p).2.2 ++ _).length + p ≤ _
      rw [List.length_append]
      dsimp only
      omega
    · rcases List.mem_append.mp ht with ht | ht
      · exact a3 t ht
      · exact c3 t ht
    · exact hts_app (b1 h2 h (by omega)) (d1 h3 h hh)
  · rw [if_neg h2]
    exact ⟨⟨a1, a2, a3⟩, fun h3 => absurd h3 h2⟩
theorem Ht.mono {a b : Nat} {R : Rr} (h : Ht a R) (hb : b ≤ a) : Ht b R := fun h1 k hk => h h1 k (by omega)
/-- a unit with k levels left: at depth 4 - k -/
theorem pU_b {N : Nat} {tx : Nat → Nat} : ∀ (k : Nat), k ≤ 4 → ∀ p, Bn N p (pU N tx k p) ∧ Ht (2 * (4 - k) + 2) (pU N tx k p) := by
  intro k
  induction k with
  | zero => intro _ p; have := test_b (N := N) (tx := tx) p; exact ⟨this.1, this.2.mono (by decide)⟩
  | succ k ih =>
    intro hk p
    have ih := ih (by omega)
    have e1 : 2 * (4 - k) + 2 = 2 * (4 - (k + 1)) + 4 := by omega
    have hE : ∀ q, Bn N q (pE N tx (pU N tx k) q) ∧ Ht (2 * (4 - (k + 1)) + 2) (pE N tx (pU N tx k) q) := by
      intro q
      refine pB_b (by decide) (by decide) (fun q => ?_) q
      refine pB_b (by decide) (by decide) (fun q => ?_) q
      have := ih q
      rw [e1] at this
      exact this
    unfold pU
    by_cases h1 : cT N tx p = 33
    · have hp : p < N := cT_lt h1 (by decide)
      rw [if_pos h1]
      obtain ⟨⟨a1, a2, a3⟩, b1⟩ := ih (p + 1)
      by_cases h2 : (pU N tx k (p + 1)).1 = true
      · rw [if_pos h2]
        refine ⟨⟨?_, fun _ => a2 (by omega), fun t ht => ?_⟩, fun _ h hh => ?_⟩
        · show ((pU N tx k (p + 1)).2.2 ++ _).length + p ≤ _
          rw [List.length_append]
          show _ + 1 + p ≤ (pU N tx k (p + 1)).2.1
          omega
        · rcases List.mem_append.mp ht with ht | ht
          · exact a3 t ht
          · rcases List.mem_singleton.mp ht with rfl
            exact trivial
        · refine hts_app (b1 h2 h (by omega)) ?_
          show (match hs1 (.inl 0) (h + 1) with | none => none | some h2 => hts [] h2) = _
          unfold hs1
          dsimp only
          rw [if_pos (by omega)]
          rfl
      · rw [if_neg h2]
        exact ⟨⟨by omega, fun _ => a2 (by omega), a3⟩, fun h3 => absurd h3 h2⟩
    · rw [if_neg h1]
      by_cases h4 : cT N tx p = 40
      · have hp : p < N := cT_lt h4 (by decide)
        rw [if_pos h4]
        obtain ⟨⟨a1, a2, a3⟩, b1⟩ := hE (p + 1)
        by_cases h2 : (pE N tx (pU N tx k) (p + 1)).1 = true
        · rw [if_pos h2]
          by_cases h5 : cT N tx (pE N tx (pU N tx k) (p + 1)).2.1 = 41
          · have hp5 : (pE N tx (pU N tx k) (p + 1)).2.1 < N := cT_lt h5 (by decide)
            rw [if_pos h5]
            exact ⟨⟨by dsimp only; omega, fun _ => by dsimp only; omega, a3⟩, fun _ h hh => b1 h2 h hh⟩
          · rw [if_neg h5]
            exact ⟨⟨by dsimp only; omega, fun _ => a2 (by omega), a3⟩, fun h => by cases h⟩
        · rw [if_neg h2]
          exact ⟨⟨by omega, fun _ => a2 (by omega), a3⟩, fun h3 => absurd h3 h2⟩
      · rw [if_neg h4]
        have := test_b (N := N) (tx := tx) p
        exact ⟨this.1, this.2.mono (by omega)⟩
theorem pE_b {N : Nat} {tx : Nat → Nat} (p : Nat) : Bn N p (pE N tx (pU N tx 4) p) ∧ Ht 0 (pE N tx (pU N tx 4) p) := by
  refine pB_b (by decide) (by decide) (fun q => ?_) p
  refine pB_b (by decide) (by decide) (fun q => ?_) q
  exact pU_b 4 (by decide) q
