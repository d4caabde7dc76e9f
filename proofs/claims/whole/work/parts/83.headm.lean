set_option maxHeartbeats 40000000
set_option maxRecDepth 100000
/-! the reference's parser: conditions, heads -/
section
variable {N : Nat} {tx : Nat → Nat}
def FrX (x e : Nat) (X Y : XD) : Prop := Y.2 = X.2 ∧ ∀ i k, i ≠ 14 → ¬ (i = 0 ∧ (k = 12 ∨ k = 13 ∨ k = 22 ∨ k = 23 ∨ k = 24)) → ¬ (9 ≤ i ∧ i ≤ 12 ∧ k = x) → ¬ (i = 13 ∧ e ≤ k) → Y.1 i k = X.1 i k
theorem FrX.rfl {x e : Nat} {X : XD} : FrX x e X X := ⟨Eq.refl _, fun _ _ _ _ _ _ => Eq.refl _⟩
theorem FrX.trans {x e : Nat} {X Y W : XD} (h : FrX x e X Y) (h2 : FrX x e Y W) : FrX x e X W := ⟨h2.1.trans h.1, fun i k a b c d => (h2.2 i k a b c d).trans (h.2 i k a b c d)⟩
theorem FrX.TM {x e : Nat} {X Y : XD} (f : FrX x e X Y) (h : TM X N tx) : TM Y N tx := by
  obtain ⟨h2, h3, h4⟩ := h
  refine ⟨h2, ?_, fun j hj => ⟨(h4 j hj).1, ?_⟩⟩
  · rw [f.2 0 11 (by omega) (by omega) (by omega) (by omega)]; exact h3
  · rw [f.2 7 j (by omega) (by omega) (by omega) (by omega)]; exact (h4 j hj).2
theorem FrM.X {x e : Nat} {X Y : XD} (h : FrM x e X Y) : FrX x e X Y := ⟨h.1, fun i k a b c d => h.2 i k a b (by omega) d⟩
theorem FrX.w {x e r : Nat} {X : XD} {v : Int32} (h1 : 9 ≤ r) (h2 : r ≤ 12) : FrX x e X (wI X r x v) := ⟨Eq.refl _, fun i q a b c d => by
  by_cases z : i = r
  · rw [wI_k (by omega)]
  · rw [wI_c z]⟩
/-- what stands before a clause or in it -/
def Tm (N : Nat) (tx : Nat → Nat) (b : Nat) (X : XD) (p e : Nat) : Prop := TM X N tx ∧ p ≤ N ∧ b ≤ 500 ∧ e ≤ b + p ∧ X.1 0 12 = Int32.ofNat p ∧ X.1 0 22 = Int32.ofNat e
theorem expr_m {b x p e : Nat} {X : XD} (hx : x < 60) (h : Tm N tx b X p e) : ∃ Y, fX12_takesE (Int32.ofNat x) X = some (b2 (pE N tx (pU N tx 4) p).1, Y) ∧ Y.1 0 12 = Int32.ofNat (pE N tx (pU N tx 4) p).2.1 ∧ FrX x e X Y ∧ Y.1 9 x = X.1 9 x ∧ Y.1 10 x = X.1 10 x ∧ ((pE N tx (pU N tx 4) p).1 = true → Y.1 0 22 = Int32.ofNat (e + (pE N tx (pU N tx 4) p).2.2.length) ∧ Y.1 11 x = Int32.ofNat e ∧ Y.1 12 x = Int32.ofNat (e + (pE N tx (pU N tx 4) p).2.2.length) ∧ CMl Y e (pE N tx (pU N tx 4) p).2.2) := by
  obtain ⟨h1, h2, h3, h4, h5, h6⟩ := h
  have hN := h1.1
  unfold fX12_takesE
  rw [nm_eq, nm_eq, gin_o hx (by omega), i32n (by omega)]
  have e22 : (wI (wI X 0 23 0) 0 24 0).1 0 22 = Int32.ofNat e := by rw [wI_k (by decide), wI_k (by decide)]; exact h6
  rw [e22, nm_eq]
  generalize eW : wI (wI (wI X 0 23 0) 0 24 0) 11 x (Int32.ofNat e) = W
  have fW : FrX x e X W := by
    subst eW
    exact ((FrM.w0 (by omega)).X.trans (FrM.w0 (by omega)).X).trans (FrX.w (by decide) (by decide))
  have w11 : W.1 11 x = Int32.ofNat e := by subst eW; exact wI_s
  have w9 : ∀ r, r ≠ 0 → r ≠ 11 → W.1 r = X.1 r := fun r r0 r1 => by subst eW; rw [wI_c r1, wI_c r0, wI_c r0]
  have sW : Sm N tx b W p [] e := by
    refine ⟨fW.TM h1, h2, h3, h4, Nat.zero_le _, fun w hw => absurd hw List.not_mem_nil, ?_, ?_, trivial, ?_, ?_⟩
    · subst eW; rw [wI_c (by decide), wI_k (by decide), wI_k (by decide)]; exact h5
    · subst eW; rw [wI_c (by decide), wI_k (by decide), wI_s]; rfl
    · subst eW; rw [wI_c (by decide), wI_s]; rfl
    · subst eW; rw [wI_c (by decide)]; exact e22
  have bU : ∀ q, Bn N q (pU N tx 4 q) := fun q => (pU_b 4 (by decide) q).1
  have bT : ∀ q, Bn N q (pT N tx (pU N tx 4) q) := fun q => (pB_b (a := 1) (by decide) (by decide) (fun q => pU_b 4 (by decide) q) q).1
  have bE := (pE_b (N := N) (tx := tx) p).1
  have ru := E_m (unit_m (b := b) hx 4 (by decide)) bU bT (B := []) trivial (by rfl) sW
  have hq := bE.2.1 h2
  have fin : ∀ k, k ≤ 500 → ∃ n, FU = n + 1 + k := fun k hk => ⟨FU - 1 - k, by have := FU_gt (k := 600) (by decide); omega⟩
  cases e1 : (pE N tx (pU N tx 4) p).1 with
  | false =>
    obtain ⟨k, Y, a1, a2, a3, a4⟩ := ru.2 e1
    obtain ⟨n, hn⟩ := fin k (by omega)
    rw [hn]
    refine ⟨Y, a1 _, a3, fW.trans a4.X, ?_, ?_, fun t => by cases t⟩
    · rw [a4.2 9 x (by decide) (by omega) (by omega) (by omega), w9 9 (by decide) (by decide)]
    · rw [a4.2 10 x (by decide) (by omega) (by omega) (by omega), w9 10 (by decide) (by decide)]
  | true =>
    obtain ⟨k, W1, l, Y1, a1, a2, a3, a4, c', d', a5, a6, a7, a8⟩ := ru.1 e1
    subst a5
    obtain ⟨n, hn⟩ := fin k (by omega)
    rw [hn]
    generalize (pE N tx (pU N tx 4) p).2.1 = q at *
    generalize (pE N tx (pU N tx 4) p).2.2 = L at *
    have hlq := a3.1.le q
    obtain ⟨Y2, b1, b2', b3⟩ := settle_m (x := x) (v := 124) (by decide) (P38 c' (P124 d' [])) FU q _ Y1 (FU_gt (by have := a3.2.2.2.2.1; omega)) a3
    have hq0 : hd0 [] := trivial
    rw [stl_124 hq0] at b2' b3
    dsimp only at b2' b3
    have hlen : e + l.length + (K1 c' ++ K2 d').length = e + L.length := by rw [← a6, List.length_append (as := l)]; omega
    rw [hlen] at b2'
    have hp3 : Pc x e W (wI Y2 12 x (Y2.1 0 22)) L := by
      have := (a4.app b3).fr (FrM.w12 (v := Y2.1 0 22))
      rwa [a6] at this
    have g23 : (wI Y2 12 x (Y2.1 0 22)).1 0 23 = 0 := by rw [wI_c (by decide)]; exact b2'.2.2.2.2.2.2.2.1
    have y22 := b2'.2.2.2.2.2.2.2.2.2.2
    have run : LE (n + 1 + k) (Int32.ofNat x) 1 W = some (1, wI Y2 12 x (Y2.1 0 22)) := by
      rw [a1, LE_1 a3]
      show (if (0 : Int32) = 0 then if cI (cT N tx q) = 38 then _ else if cI (cT N tx q) = 124 then _ else _ else _) = _
      rw [if_pos rfl, if_neg (show ¬ cI (cT N tx q) = 38 from fun z => a7 ((cI_eq (k := 38) hlq (by decide)).mp z)), if_neg (show ¬ cI (cT N tx q) = 124 from fun z => a8 ((cI_eq (k := 124) hlq (by decide)).mp z))]
      unfold fX12_settle
      rw [show (124 : Int32) = Int32.ofNat 124 from rfl, b1, bnw_some, gin_o hx (by omega), i32n (by omega), nm_eq, if_pos g23]
    refine ⟨wI Y2 12 x (Y2.1 0 22), run, ?_, fW.trans hp3.1.X, ?_, ?_, fun _ => ⟨?_, ?_, ?_, hp3.2⟩⟩
    · rw [wI_c (by decide)]; exact b2'.2.2.2.2.2.2.1
    · rw [hp3.1.2 9 x (by decide) (by omega) (by omega) (by omega), w9 9 (by decide) (by decide)]
    · rw [hp3.1.2 10 x (by decide) (by omega) (by omega) (by omega), w9 10 (by decide) (by decide)]
    · rw [wI_c (by decide)]; exact y22
    · rw [hp3.1.2 11 x (by decide) (by omega) (by omega) (by omega), w11]
    · rw [wI_s]; exact y22
def mm (X : XD) (p : Nat) : XD := wI X 0 12 (Int32.ofNat p)
theorem mm_mm {X : XD} {p q : Nat} : mm (mm X p) q = mm X q := Prod.ext up2_up2 rfl
theorem mm_F {X : XD} {x e p : Nat} : FrX x e X (mm X p) := (FrM.w0 (by omega)).X
theorem takes_m {X : XD} {p k : Nat} (h : TM X N tx) (hp : X.1 0 12 = Int32.ofNat p) (hb : p < 1000) (hk : k < 1000) : fX12_takes (Int32.ofNat k) X = some (if cT N tx p = k then ((1 : Int32), mm X (p + 1)) else ((0 : Int32), X)) := by
  unfold fX12_takes
  rw [next_m h hp (by omega), bnd_some]
  by_cases c : cT N tx p = k
  · rw [if_pos ((cI_eq (h.le p) hk).mpr c), if_pos c, nm_eq, hp, i1]
    rfl
  · rw [if_neg (fun q => c ((cI_eq (h.le p) hk).mp q)), if_neg c]
def off (k : Nat) : Nat := if k = 0 then 0 else if k = 1 then 2 else if k = 2 then 6 else if k = 3 then 10 else 15
theorem off_b : ∀ k, k < 5 → ∀ j, j < (wd k).length → off k + j < 19 ∧ lettersM.getD (off k + j) 0 = (wd k).getD j 0 := by decide +kernel
theorem words_lp {k p : Nat} (hk : k < 5) (hp : p ≤ 100) : ∀ (B : List Nat) (n j : Nat) (X : XD), TM X N tx → RLt X → X.1 0 12 = Int32.ofNat (p + j) → (wd k).drop j = B → j + B.length = (wd k).length → B.length < n → fX12_takesWord_2 n (Int32.ofNat (off k)) (Int32.ofNat (wd k).length) (Int32.ofNat j) X = some (if alk N tx B (p + j) = B.length then (if cT N tx (p + j + B.length) = 32 then ((1 : Int32), mm X (p + j + B.length + 1)) else ((0 : Int32), mm X (p + j + B.length))) else ((0 : Int32), mm X (p + j + alk N tx B (p + j)))) := by
  have h5 := (wd_b k hk).2
  have mmX : ∀ (X : XD) (q : Nat), X.1 0 12 = Int32.ofNat q → mm X q = X := by
    intro X q h
    refine Prod.ext ?_ rfl
    funext i m
    show (wI X 0 12 (Int32.ofNat q)).1 i m = X.1 i m
    by_cases z : i = 0
    · by_cases z2 : m = 12
      · rw [z, z2, wI_s, h]
      · rw [wI_k z2]
    · rw [wI_c z]
  intro B
  induction B with
  | nil =>
    intro n j X hT hL h12 hd hj hn
    obtain ⟨n, rfl⟩ : ∃ q, n = q + 1 := ⟨n - 1, by omega⟩
    rw [show fX12_takesWord_2 (n + 1) (Int32.ofNat (off k)) (Int32.ofNat (wd k).length) (Int32.ofNat j) X = if Int32.ofNat (wd k).length ≤ Int32.ofNat j then bnw (fX12_takes ((32 : Int32)) X) (fun r2 X_3 => gb r2 (some (r2, X_3))) else gin (Int32.ofNat (off k) + Int32.ofNat j) 19 (bnw (fX12_takes (X.1 15 (Int32.ofNat (off k) + Int32.ofNat j).toNatClampNeg) X) (fun r6 X_7 => if r6 = 0 then some ((0 : Int32), X_7) else nm (Int32.ofNat j + (1 : Int32)) (fun y8 => fX12_takesWord_2 n (Int32.ofNat (off k)) (Int32.ofNat (wd k).length) y8 X_7))) from rfl]
    rw [List.length_nil] at hj
    rw [if_pos ((o_le (by omega) (by omega)).mpr (by omega)), show (32 : Int32) = Int32.ofNat 32 from rfl, takes_m hT h12 (by omega) (by decide)]
    show bnw (some (if cT N tx (p + j) = 32 then _ else _)) _ = some (if cT N tx (p + j) = 32 then _ else ((0 : Int32), mm X (p + j)))
    by_cases c : cT N tx (p + j) = 32
    · rw [if_pos c, if_pos c, bnw_some, gb_1]
      rfl
    · rw [if_neg c, if_neg c, bnw_some, gb_0, mmX X (p + j) h12]
  | cons l B ih =>
    intro n j X hT hL h12 hd hj hn
    rw [List.length_cons] at hj hn
    obtain ⟨n, rfl⟩ : ∃ q, n = q + 1 := ⟨n - 1, by omega⟩
    have hbj : (wd k).getD j 0 = l := by
      have := congrArg (fun l => l.getD 0 0) hd
      simpa [List.getD_eq_getElem?_getD, List.getElem?_drop] using this
    have hdr : (wd k).drop (j + 1) = B := by
      have := congrArg List.tail hd
      simpa [List.tail_drop] using this
    have hbm : l ∈ wd k := by
      have : l ∈ (wd k).drop j := by rw [hd]; exact List.mem_cons_self ..
      exact List.mem_of_mem_drop this
    have hb1 := ((wd_b k hk).1 l hbm).1
    obtain ⟨o1, o2⟩ := off_b k hk j (by omega)
    rw [show fX12_takesWord_2 (n + 1) (Int32.ofNat (off k)) (Int32.ofNat (wd k).length) (Int32.ofNat j) X = if Int32.ofNat (wd k).length ≤ Int32.ofNat j then bnw (fX12_takes ((32 : Int32)) X) (fun r2 X_3 => gb r2 (some (r2, X_3))) else gin (Int32.ofNat (off k) + Int32.ofNat j) 19 (bnw (fX12_takes (X.1 15 (Int32.ofNat (off k) + Int32.ofNat j).toNatClampNeg) X) (fun r6 X_7 => if r6 = 0 then some ((0 : Int32), X_7) else nm (Int32.ofNat j + (1 : Int32)) (fun y8 => fX12_takesWord_2 n (Int32.ofNat (off k)) (Int32.ofNat (wd k).length) y8 X_7))) from rfl]
    rw [if_neg (fun q => by have := (o_le (by omega) (by omega)).mp q; omega), o_add, gin_o o1 (by omega), i32n (by omega), hL _ o1, o2, hbj, takes_m hT h12 (by omega) hb1]
    unfold alk
    by_cases c : cT N tx (p + j) = l
    · rw [if_pos c, if_pos c, bnw_some, if_neg (show ¬ (1 : Int32) = 0 by decide), nm_eq, i1]
      have hL2 : RLt (mm X (p + j + 1)) := fun i hi => by rw [show (mm X (p + j + 1)).1 15 = X.1 15 from wI_c (by decide)]; exact hL i hi
      rw [ih n (j + 1) (mm X (p + j + 1)) ((mm_F (x := 0) (e := 0)).TM hT) hL2 wI_s hdr (by omega) (by omega)]
      rw [List.length_cons, ← Nat.add_assoc p j 1]
      by_cases c2 : alk N tx B (p + j + 1) = B.length
      · rw [if_pos c2, if_pos (show 1 + alk N tx B (p + j + 1) = B.length + 1 by omega), show p + j + (B.length + 1) = p + j + 1 + B.length by omega, mm_mm, mm_mm]
      · rw [if_neg c2, if_neg (show ¬ 1 + alk N tx B (p + j + 1) = B.length + 1 by omega), show p + j + (1 + alk N tx B (p + j + 1)) = p + j + 1 + alk N tx B (p + j + 1) by omega, mm_mm]
    · rw [if_neg c, if_neg c, bnw_some, if_pos rfl, if_neg (by rw [List.length_cons]; omega), Nat.add_zero, mmX X (p + j) h12]
end
