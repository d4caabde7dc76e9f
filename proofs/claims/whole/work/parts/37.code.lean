set_option maxHeartbeats 40000000
set_option maxRecDepth 100000
/-! the code of a condition: steps behind their operands -/
abbrev Tok : Type := Nat ⊕ (Nat × Nat × Nat)
def tokM : Tok → Int32
  | .inl 0 => -33
  | .inl 1 => -38
  | .inl (_ + 2) => -124
  | .inr q => Int32.ofNat (1000 * q.1 + 100 * q.2.1 + q.2.2)
def tokC : Tok → Int32
  | .inl 0 => -3
  | .inl 1 => -1
  | .inl (_ + 2) => -2
  | .inr q => Int32.ofNat ((q.1 * 3 + q.2.1) * 100 + q.2.2)
def okT : Tok → Prop
  | .inl _ => True
  | .inr q => q.1 ≤ 5 ∧ q.2.1 ≤ 2 ∧ q.2.2 ≤ 99
def cmpN (a r d : Nat) : Bool := if r = 0 then decide (a < d) else if r = 1 then decide (a = d) else decide (d < a)
def stp (v : Nat → Nat) (t : Tok) (st : List Bool) : List Bool := match t, st with
  | .inl 0, b :: r => (!b) :: r
  | .inl 1, b :: a :: r => (a && b) :: r
  | .inl (_ + 2), b :: a :: r => (a || b) :: r
  | .inr q, r => cmpN (v q.1) q.2.1 q.2.2 :: r
  | _, r => r
def evs (v : Nat → Nat) : List Tok → List Bool → List Bool
  | [], st => st
  | t :: c, st => evs v c (stp v t st)
def hs1 (t : Tok) (h : Nat) : Option Nat := match t with
  | .inl 0 => if 1 ≤ h then some h else none
  | .inl (_ + 1) => if 2 ≤ h then some (h - 1) else none
  | .inr _ => if h ≤ 12 then some (h + 1) else none
def hts : List Tok → Nat → Option Nat
  | [], h => some h
  | t :: c, h => match hs1 t h with
    | none => none
    | some h2 => hts c h2
def hold (v : Nat → Nat) (c : List Tok) : Bool := (evs v c []).headD false
theorem hts_cons {t : Tok} {c : List Tok} {h k : Nat} (q : hts (t :: c) h = some k) : ∃ h2, hs1 t h = some h2 ∧ hts c h2 = some k := by
  unfold hts at q
  cases e : hs1 t h with
  | none => rw [e] at q; cases q
  | some h2 => rw [e] at q; exact ⟨h2, rfl, q⟩
theorem hts_app {c d : List Tok} {h k j : Nat} (q : hts c h = some k) (q2 : hts d k = some j) : hts (c ++ d) h = some j := by
  induction c generalizing h with
  | nil => cases q; exact q2
  | cons t c ih =>
    obtain ⟨h2, e1, e2⟩ := hts_cons q
    show hts (t :: (c ++ d)) h = some j
    unfold hts
    rw [e1]
    exact ih e2
theorem stp_len {v : Nat → Nat} {t : Tok} {st : List Bool} {h : Nat} (q : hs1 t st.length = some h) : (stp v t st).length = h := by
  match t, st with
  | .inl 0, [] => cases q
  | .inl 0, b :: r => unfold hs1 at q; rw [if_pos (by simp)] at q; cases q; rfl
  | .inl (k + 1), [] => cases q
  | .inl (k + 1), [b] => cases q
  | .inl 1, b :: a :: r => unfold hs1 at q; rw [if_pos (by simp)] at q; cases q; rfl
  | .inl (k + 2), b :: a :: r => unfold hs1 at q; rw [if_pos (by simp)] at q; cases q; rfl
  | .inr t, r =>
    unfold hs1 at q
    by_cases e : r.length ≤ 12
    · rw [if_pos e] at q; cases q; rfl
    · rw [if_neg e] at q; cases q
def b2 (b : Bool) : Int32 := if b then 1 else 0
theorem b2_t : b2 true = 1 := rfl
theorem b2_f : b2 false = 0 := rfl
theorem gb_b2 {α : Type} {f : Option α} (b : Bool) : gb (b2 b) f = f := by cases b <;> rfl
theorem b2_0 {b : Bool} : b2 b = 0 ↔ b = false := by cases b <;> simp [b2]
/-- the rows of a clause list: word, amount, code -/
abbrev Cl : Type := Nat × Nat × List Tok
def okC (c : Cl) : Prop := c.1 ≤ 4 ∧ c.2.1 ≤ 99 ∧ (∀ t ∈ c.2.2, okT t) ∧ hts c.2.2 0 = some 1 ∧ c.2.2.length ≤ 100
/-- the facts of a shooter, with a side -/
def fact (f : Nat → Nat) (s : Nat) : Nat → Nat := fun k => if k = 2 then s else f k
