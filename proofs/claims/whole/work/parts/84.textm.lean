set_option maxHeartbeats 40000000
set_option maxRecDepth 100000
/-! the reference's parser: heads, clauses, texts -/
section
variable {N : Nat} {tx : Nat → Nat}
def hdR (N : Nat) (tx : Nat → Nat) (k p : Nat) : Bool × Nat := if alk N tx (wd k) p = (wd k).length then (if cT N tx (p + (wd k).length) = 32 then (true, p + (wd k).length + 1) else (false, p + (wd k).length)) else (false, p + alk N tx (wd k) p)
theorem pHd_R {p : Nat} : pHd N tx p = (if (hdR N tx (pk N tx p) p).1 = true then some (pk N tx p) else none, (hdR N tx (pk N tx p) p).2) := by
  unfold pHd hdR
  by_cases h : alk N tx (wd (pk N tx p)) p = (wd (pk N tx p)).length
  · rw [if_pos h, if_pos h]
    by_cases h2 : cT N tx (p + (wd (pk N tx p)).length) = 32
    · rw [if_pos h2, if_pos h2]; rfl
    · rw [if_neg h2, if_neg h2]; rfl
  · rw [if_neg h, if_neg h]; rfl
theorem RLt.X {x e : Nat} {X Y : XD} (h : RLt X) (f : FrX x e X Y) : RLt Y := fun j hj => by rw [f.2 15 j (by omega) (by omega) (by omega) (by omega)]; exact h j hj
theorem hd_w {k p : Nat} {X : XD} (hk : k < 5) (hp : p ≤ 100) (hT : TM X N tx) (hL : RLt X) (h12 : X.1 0 12 = Int32.ofNat p) : bnw (fX12_takesWord (Int32.ofNat (off k)) (Int32.ofNat (wd k).length) X) (fun r X => gb r (some (r, X))) = some (b2 (hdR N tx k p).1, mm X (hdR N tx k p).2) := by
  unfold fX12_takesWord hdR
  have h5 := (wd_b k hk).2
  have := words_lp (N := N) (tx := tx) hk hp (wd k) FU 0 X hT hL h12 rfl (by omega) (FU_gt (by omega))
  rw [Nat.add_zero] at this
  rw [show (0 : Int32) = Int32.ofNat 0 from rfl, this]
  by_cases h : alk N tx (wd k) p = (wd k).length
  · rw [if_pos h, if_pos h]
    by_cases h2 : cT N tx (p + (wd k).length) = 32
    · rw [if_pos h2, if_pos h2]; rfl
    · rw [if_neg h2, if_neg h2]; rfl
  · rw [if_neg h, if_neg h]; rfl
theorem head_m {x p b e : Nat} {X : XD} (hx : x < 60) (h : Tm N tx b X p e) (hL : RLt X) : ∃ Y, fX12_takesHead (Int32.ofNat x) X = some (b2 (hdR N tx (pk N tx p) p).1, Y) ∧ Y.1 0 12 = Int32.ofNat (hdR N tx (pk N tx p) p).2 ∧ FrX x e X Y ∧ Y.1 0 22 = X.1 0 22 ∧ Y.1 9 x = Int32.ofNat (pk N tx p) := by
  obtain ⟨h1, h2, h3, h4, h5, h6⟩ := h
  have hN := h1.1
  have hl := h1.le p
  have hl1 := h1.le (p + 1)
  have fW : ∀ v, FrX x e X (wI X 9 x v) := fun v => FrX.w (by decide) (by decide)
  have g : ∀ k, k < 5 → bnw (fX12_takesWord (Int32.ofNat (off k)) (Int32.ofNat (wd k).length) (wI X 9 x (Int32.ofNat k))) (fun r X => gb r (some (r, X))) = some (b2 (hdR N tx k p).1, mm (wI X 9 x (Int32.ofNat k)) (hdR N tx k p).2) := fun k hk => hd_w hk (by omega) ((fW _).TM h1) (hL.X (fW _)) (by rw [wI_c (by decide)]; exact h5)
  have fin : ∀ k, pk N tx p = k → fX12_takesHead (Int32.ofNat x) X = some (b2 (hdR N tx k p).1, mm (wI X 9 x (Int32.ofNat k)) (hdR N tx k p).2) → ∃ Y, fX12_takesHead (Int32.ofNat x) X = some (b2 (hdR N tx (pk N tx p) p).1, Y) ∧ Y.1 0 12 = Int32.ofNat (hdR N tx (pk N tx p) p).2 ∧ FrX x e X Y ∧ Y.1 0 22 = X.1 0 22 ∧ Y.1 9 x = Int32.ofNat (pk N tx p) := by
    intro k e1 e2
    rw [e1]
    refine ⟨_, e2, wI_s, (fW _).trans mm_F, ?_, ?_⟩
    · show (wI (wI X 9 x (Int32.ofNat k)) 0 12 _).1 0 22 = _
      rw [wI_k (by decide), wI_c (by decide)]
    · show (wI (wI X 9 x (Int32.ofNat k)) 0 12 _).1 9 x = _
      rw [wI_c (by decide), wI_s]
  have n1 : ∀ v : Nat, v < 1000 → ¬ cT N tx p = v → ¬ cI (cT N tx p) = Int32.ofNat v := fun v hv c q => c ((cI_eq hl hv).mp q)
  have gi : ∀ {f : Option (Int32 × XD)}, gin (Int32.ofNat x) 60 f = f := gin_o hx (by omega)
  by_cases c0 : cT N tx p = 105
  · refine fin 0 (by unfold pk; rw [if_pos c0]) ?_
    unfold fX12_takesHead
    rw [next_m h1 h5 (by omega), bnd_some, if_pos (show cI (cT N tx p) = 105 by rw [c0]; decide), gi, i32n (by omega), nm_eq]
    exact g 0 (by decide)
  by_cases c2 : cT N tx p = 108
  · refine fin 2 (by unfold pk; rw [if_neg c0, if_pos c2]) ?_
    unfold fX12_takesHead
    rw [next_m h1 h5 (by omega), bnd_some, if_neg (show ¬ cI (cT N tx p) = 105 from n1 105 (by decide) c0), if_pos (show cI (cT N tx p) = 108 by rw [c2]; decide), gi, i32n (by omega), nm_eq]
    exact g 2 (by decide)
  by_cases c3 : cT N tx p = 114
  · refine fin 3 (by unfold pk; rw [if_neg c0, if_neg c2, if_pos c3]) ?_
    unfold fX12_takesHead
    rw [next_m h1 h5 (by omega), bnd_some, if_neg (show ¬ cI (cT N tx p) = 105 from n1 105 (by decide) c0), if_neg (show ¬ cI (cT N tx p) = 108 from n1 108 (by decide) c2), if_pos (show cI (cT N tx p) = 114 by rw [c3]; decide), gi, i32n (by omega), nm_eq]
    exact g 3 (by decide)
  have last : fX12_takesHead (Int32.ofNat x) X = if cI (cT N tx (p + 1)) = 116 then fX12_takesHead_103 (Int32.ofNat x) 4 (Int32.ofNat x) X else fX12_takesHead_103 (Int32.ofNat x) 1 (Int32.ofNat x) X := by
    unfold fX12_takesHead
    rw [next_m h1 h5 (by omega), bnd_some, if_neg (show ¬ cI (cT N tx p) = 105 from n1 105 (by decide) c0), if_neg (show ¬ cI (cT N tx p) = 108 from n1 108 (by decide) c2), if_neg (show ¬ cI (cT N tx p) = 114 from n1 114 (by decide) c3), second_m h1 h5 (by omega), bnd_some]
  by_cases c4 : cT N tx (p + 1) = 116
  · refine fin 4 (by unfold pk; rw [if_neg c0, if_neg c2, if_neg c3, if_pos c4]) ?_
    rw [last, if_pos (show cI (cT N tx (p + 1)) = 116 by rw [c4]; decide)]
    unfold fX12_takesHead_103
    rw [gi, nm_eq, gi, i32n (by omega), if_pos (show (wI X 9 x 4).1 9 x = 4 from wI_s)]
    exact g 4 (by decide)
  · refine fin 1 (by unfold pk; rw [if_neg c0, if_neg c2, if_neg c3, if_neg c4]) ?_
    rw [last, if_neg (show ¬ cI (cT N tx (p + 1)) = 116 from fun q => c4 ((cI_eq (k := 116) hl1 (by decide)).mp q))]
    unfold fX12_takesHead_103
    rw [gi, nm_eq, gi, i32n (by omega), if_neg (show ¬ (wI X 9 x 1).1 9 x = 4 from fun q => by rw [wI_s] at q; exact absurd q (by decide))]
    exact g 1 (by decide)
end
