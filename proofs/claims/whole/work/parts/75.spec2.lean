set_option maxHeartbeats 40000000
set_option maxRecDepth 100000
/-! the grammar, in the middle: words, heads, clauses, texts -/
def wd (k : Nat) : List Nat := if k = 0 then [105, 110] else if k = 1 then [115, 97, 118, 101] else if k = 2 then [108, 101, 102, 116] else if k = 3 then [114, 105, 103, 104, 116] else [115, 116, 97, 121]
theorem wd_b : ∀ k, k < 5 → (∀ b ∈ wd k, b < 1000 ∧ b ≠ 32) ∧ (wd k).length ≤ 5 := by decide +kernel
theorem wd_len : ∀ k, k < 5 → xLen.getD k 0 = (wd k).length := by decide +kernel
theorem wd_byt : ∀ k, k < 5 → xByt.getD k [] = (wd k).map Int32.ofNat := by decide +kernel
section
variable (N : Nat) (tx : Nat → Nat)
def alk : List Nat → Nat → Nat
  | [], _ => 0
  | b :: B, p => if cT N tx p = b then 1 + alk B (p + 1) else 0
def pk (p : Nat) : Nat := if cT N tx p = 105 then 0 else if cT N tx p = 108 then 2 else if cT N tx p = 114 then 3 else if cT N tx (p + 1) = 116 then 4 else 1
def pHd (p : Nat) : Option Nat × Nat := if alk N tx (wd (pk N tx p)) p = (wd (pk N tx p)).length then (if cT N tx (p + (wd (pk N tx p)).length) = 32 then (some (pk N tx p), p + (wd (pk N tx p)).length + 1) else (none, p + (wd (pk N tx p)).length)) else (none, p + alk N tx (wd (pk N tx p)) p)
def pEx (k v q : Nat) : Bool × Nat × Cl := ((pE N tx (pU N tx 4) q).1, (pE N tx (pU N tx 4) q).2.1, (k, v, (pE N tx (pU N tx 4) q).2.2))
def pCl (p : Nat) : Bool × Nat × Cl := match pHd N tx p with
  | (none, q) => (false, q, (0, 0, []))
  | (some k, q) => if k ≤ 1 then (match pNum N tx q with
      | none => (false, q, (0, 0, []))
      | some z => if cT N tx z.1 = 32 then pEx N tx k z.2 (z.1 + 1) else (false, z.1, (0, 0, [])))
    else pEx N tx k 0 q
def pTx : Nat → Nat → Bool × Nat × List Cl
  | 0, p => (false, p, [])
  | d + 1, p => if (pCl N tx p).1 = true then
      (if (pCl N tx p).2.1 < N then
        (if cT N tx (pCl N tx p).2.1 = 59 ∧ d ≠ 0 then ((pTx d ((pCl N tx p).2.1 + 1)).1, (pTx d ((pCl N tx p).2.1 + 1)).2.1, (pCl N tx p).2.2 :: (pTx d ((pCl N tx p).2.1 + 1)).2.2) else (false, (pCl N tx p).2.1, []))
      else (true, (pCl N tx p).2.1, [(pCl N tx p).2.2]))
    else (false, (pCl N tx p).2.1, [])
end
section
variable {N : Nat} {tx : Nat → Nat}
theorem alk_b : ∀ {B : List Nat}, (∀ b ∈ B, b < 1000 ∧ b ≠ 32) → ∀ {p : Nat}, alk N tx B p ≤ B.length ∧ (p ≤ N → p + alk N tx B p ≤ N)
  | [], _, p => ⟨Nat.le_refl _, fun h => h⟩
  | b :: B, hB, p => by
    unfold alk
    by_cases h : cT N tx p = b
    · have := cT_lt h (hB b (List.mem_cons_self ..)).1
      obtain ⟨h1, h2⟩ := alk_b (B := B) (fun b hb => hB b (List.mem_cons_of_mem _ hb)) (p := p + 1)
      have h2 := h2 (by omega)
      rw [if_pos h, List.length_cons]
      omega
    · rw [if_neg h]
      exact ⟨Nat.zero_le _, fun h => h⟩
theorem pk_b {p : Nat} : pk N tx p < 5 := by
  unfold pk
  repeat' split
  all_goals decide
theorem pHd_b {p : Nat} (hp : p ≤ N) : (pHd N tx p).2 ≤ N ∧ p ≤ (pHd N tx p).2 ∧ ∀ k, (pHd N tx p).1 = some k → k ≤ 4 ∧ p < (pHd N tx p).2 := by
  have hk := pk_b (N := N) (tx := tx) (p := p)
  obtain ⟨w1, w2⟩ := wd_b _ hk
  obtain ⟨a1, a2⟩ := alk_b (N := N) (tx := tx) w1 (p := p)
  have a2 := a2 hp
  unfold pHd
  by_cases h : alk N tx (wd (pk N tx p)) p = (wd (pk N tx p)).length
  · rw [if_pos h]
    by_cases h2 : cT N tx (p + (wd (pk N tx p)).length) = 32
    · have := cT_lt h2 (by decide)
      rw [if_pos h2]
      refine ⟨by dsimp only; omega, by dsimp only; omega, fun k e => ⟨?_, by dsimp only; omega⟩⟩
      cases e
      omega
    · rw [if_neg h2]
      exact ⟨by dsimp only; omega, by dsimp only; omega, fun k e => by cases e⟩
  · rw [if_neg h]
    exact ⟨by dsimp only; omega, by dsimp only; omega, fun k e => by cases e⟩
theorem pEx_b {k v q p : Nat} (hk : k ≤ 4) (hv : v ≤ 99) (hN : N ≤ 100) (hp : p < q) (hq : q ≤ N) : (pEx N tx k v q).2.1 ≤ N ∧ p ≤ (pEx N tx k v q).2.1 ∧ ((pEx N tx k v q).1 = true → okC (pEx N tx k v q).2.2 ∧ (pEx N tx k v q).2.2.2.2.length + p < (pEx N tx k v q).2.1) := by
  obtain ⟨⟨a1, a2, a3⟩, b⟩ := pE_b (N := N) (tx := tx) q
  have a2 := a2 hq
  unfold pEx
  refine ⟨a2, by dsimp only; omega, fun h => ⟨⟨hk, hv, a3, b h 0 (Nat.le_refl _), ?_⟩, ?_⟩⟩
  · dsimp only; omega
  · dsimp only; omega
theorem pCl_b {p : Nat} (hN : N ≤ 100) (hp : p ≤ N) : (pCl N tx p).2.1 ≤ N ∧ p ≤ (pCl N tx p).2.1 ∧ ((pCl N tx p).1 = true → okC (pCl N tx p).2.2 ∧ (pCl N tx p).2.2.2.2.length + p < (pCl N tx p).2.1) := by
  obtain ⟨h1, h2, h3⟩ := pHd_b (tx := tx) hp
  unfold pCl
  rcases e : pHd N tx p with ⟨k, q⟩
  rw [e] at h1 h2 h3
  cases k with
  | none => exact ⟨h1, h2, fun q => by cases q⟩
  | some k =>
    obtain ⟨k1, k2⟩ := h3 k rfl
    dsimp only at h1 h2 k2 ⊢
    by_cases hk : k ≤ 1
    · rw [if_pos hk]
      cases en : pNum N tx q with
      | none => exact ⟨h1, h2, fun q => by cases q⟩
      | some z =>
        obtain ⟨z1, z2, z3⟩ := pNum_b en
        dsimp only
        by_cases h32 : cT N tx z.1 = 32
        · have := cT_lt h32 (by decide)
          rw [if_pos h32]
          exact pEx_b k1 z3 hN (by omega) (by omega)
        · rw [if_neg h32]
          exact ⟨z2, by dsimp only; omega, fun q => by cases q⟩
    · rw [if_neg hk]
      exact pEx_b k1 (by decide) hN k2 h1
theorem pTx_b (hN : N ≤ 100) : ∀ {d p : Nat}, p ≤ N → (pTx N tx d p).2.1 ≤ N ∧ p ≤ (pTx N tx d p).2.1 ∧ (pTx N tx d p).2.2.length ≤ d ∧ ((pTx N tx d p).1 = true → (∀ q ∈ (pTx N tx d p).2.2, okC q) ∧ (pTx N tx d p).2.2 ≠ []) := by
  intro d
  induction d with
  | zero => intro p hp; exact ⟨hp, Nat.le_refl _, Nat.le_refl _, fun h => by cases h⟩
  | succ d ih =>
    intro p hp
    obtain ⟨a1, a2, a3⟩ := pCl_b (tx := tx) hN hp
    unfold pTx
    by_cases c1 : (pCl N tx p).1 = true
    · obtain ⟨a4, a5⟩ := a3 c1
      rw [if_pos c1]
      by_cases c2 : (pCl N tx p).2.1 < N
      · rw [if_pos c2]
        by_cases c3 : cT N tx (pCl N tx p).2.1 = 59 ∧ d ≠ 0
        · rw [if_pos c3]
          obtain ⟨b1, b2, b3, b4⟩ := ih (p := (pCl N tx p).2.1 + 1) (by omega)
          refine ⟨b1, by dsimp only; omega, by dsimp only; rw [List.length_cons]; omega, fun h => ⟨fun q hq => ?_, by dsimp only; exact List.cons_ne_nil _ _⟩⟩
          rcases List.mem_cons.mp hq with rfl | hq
          · exact a4
          · exact (b4 h).1 q hq
        · rw [if_neg c3]
          exact ⟨a1, a2, Nat.zero_le _, fun h => by cases h⟩
      · rw [if_neg c2]
        refine ⟨a1, a2, by dsimp only; rw [List.length_singleton]; omega, fun _ => ⟨fun q hq => ?_, List.cons_ne_nil _ _⟩⟩
        rw [List.mem_singleton.mp hq]
        exact a4
    · rw [if_neg c1]
      exact ⟨a1, a2, Nat.zero_le _, fun h => by cases h⟩
end
