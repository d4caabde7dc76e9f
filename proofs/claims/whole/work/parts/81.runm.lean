set_option maxHeartbeats 40000000
set_option maxRecDepth 100000
/-! the reference's parser: units, both, either -/
section
variable {N : Nat} {tx : Nat → Nat}
theorem Rm.pre {b x e p p' j : Nat} {X Y : XD} {w w' : Int32} {R R' : Rr} {V V' : List Nat → List Tok → Prop} {l0 : List Tok} (hj : ∀ n, LE (n + j) (Int32.ofNat x) w X = LE n (Int32.ofNat x) w' Y) (hp : j + p ≤ p') (h0 : Pc x e X Y l0) (h : Rm N tx b x (e + l0.length) p' Y w' R' V') (e1 : R.1 = R'.1) (e2 : R.2.1 = R'.2.1) (hV : ∀ W l, R.1 = true → V' W l → V W (l0 ++ l)) : Rm N tx b x e p X w R V := by
  obtain ⟨h1, h2⟩ := h
  rw [Rm, e1, e2]
  refine ⟨fun t => ?_, fun t => ?_⟩
  · obtain ⟨k, W, l, Y1, a1, a2, a3, a4, a5⟩ := h1 t
    refine ⟨k + j, W, l0 ++ l, Y1, fun n => ?_, by omega, ?_, h0.app a4, hV W l (e1.trans t) a5⟩
    · rw [← Nat.add_assoc, hj, a1]
    · rw [List.length_append, ← Nat.add_assoc]
      exact a3
  · obtain ⟨k, Y1, a1, a2, a3, a4⟩ := h2 t
    refine ⟨k + j, Y1, fun n => ?_, by omega, a3, h0.1.trans a4 (by omega)⟩
    rw [← Nat.add_assoc, hj, a1]
theorem Rm.stay {b x e p : Nat} {X : XD} {W : List Nat} {V : List Nat → List Tok → Prop} {t : List Tok} (h : Sm N tx b X p W e) (hV : V W []) : Rm N tx b x e p X 0 (true, p, t) V := ⟨fun _ => ⟨0, W, [], X, fun _ => rfl, by dsimp only; omega, h, Pc.nil FrM.rfl, hV⟩, fun h => by cases h⟩
def hd1 (Q : List Nat) : Prop := match Q with | [] => True | w :: _ => w = 40 ∨ w = 124
def hd0 (Q : List Nat) : Prop := match Q with | [] => True | w :: _ => w = 40
theorem hd1_s {Q : List Nat} (h : hd1 Q) : strip Q = Q ∧ nb Q = 0 ∧ stl 38 Q = (Q, []) := by
  cases Q with
  | nil => exact ⟨rfl, rfl, rfl⟩
  | cons w Q =>
    have h : w = 40 ∨ w = 124 := h
    unfold strip nb stl
    rw [if_neg (by omega), if_neg (by omega), if_neg (by omega)]
    refine ⟨rfl, rfl, ?_⟩
    by_cases c : w = 124
    · rw [if_pos c, if_pos rfl]
    · rw [if_neg c]
theorem hd0_s {Q : List Nat} (h : hd0 Q) : hd1 Q ∧ stl 124 Q = (Q, []) := by
  cases Q with
  | nil => exact ⟨trivial, rfl⟩
  | cons w Q =>
    have h : w = 40 := h
    refine ⟨Or.inl h, ?_⟩
    unfold stl
    rw [if_neg (by omega), if_neg (by omega)]
def P38 (c : Bool) (Q : List Nat) : List Nat := if c then 38 :: Q else Q
def P124 (c : Bool) (Q : List Nat) : List Nat := if c then 124 :: Q else Q
def K1 (c : Bool) : List Tok := if c then [.inl 1] else []
def K2 (c : Bool) : List Tok := if c then [.inl 2] else []
theorem stl_38 {c : Bool} {Q : List Nat} (h : hd1 Q) : stl 38 (P38 c Q) = (Q, K1 c) := by
  cases c with
  | false => exact (hd1_s h).2.2
  | true =>
    show stl 38 (38 :: Q) = (Q, [.inl 1])
    unfold stl
    rw [if_pos rfl, (hd1_s h).2.2]
theorem stl_124 {c d : Bool} {B : List Nat} (h : hd0 B) : stl 124 (P38 c (P124 d B)) = (B, K1 c ++ K2 d) := by
  have e : stl 124 (P124 d B) = (B, K2 d) := by
    cases d with
    | false => exact (hd0_s h).2
    | true =>
      show stl 124 (124 :: B) = (B, [.inl 2])
      unfold stl
      rw [if_neg (by decide), if_pos rfl, if_neg (by decide), (hd0_s h).2]
  cases c with
  | false => exact e
  | true =>
    show stl 124 (38 :: P124 d B) = (B, .inl 1 :: K2 d)
    unfold stl
    rw [if_pos rfl, e]
theorem i1 (q : Nat) : Int32.ofNat q + 1 = Int32.ofNat (q + 1) := by
  show Int32.ofNat q + Int32.ofNat 1 = _
  rw [o_add]
/-- the sign stands -/
theorem LE_1 {b x p e : Nat} {W : List Nat} {X : XD} (hS : Sm N tx b X p W e) (n : Nat) (x2 : Int32) : LE (n + 1) (Int32.ofNat x) x2 X = (fun r5 => if x2 = 0 then if r5 = ((38 : Int32)) then fX12_takesE_122 ((fX12_takesE_22 n)) (Int32.ofNat x) r5 X else if r5 = ((124 : Int32)) then fX12_takesE_122 ((fX12_takesE_22 n)) (Int32.ofNat x) r5 X else bnw (fX12_settle ((124 : Int32)) X) (fun _ X_8 => gin (Int32.ofNat x) 60 (nm (wI X_8 12 (Int32.ofNat x).toNatClampNeg (X_8.1 0 22)) (fun X_9 => if (X_9.1 0 23) = 0 then some ((1 : Int32), X_9) else if r5 = ((41 : Int32)) then nm (wI X_9 0 23 ((X_9.1 0 23) - ((1 : Int32)))) (fun X_10 => nm (wI X_10 0 24 ((X_10.1 0 24) - ((1 : Int32)))) (fun X_11 => nm (wI X_11 0 12 ((X_11.1 0 12) + ((1 : Int32)))) (fun X_12 => bnw (fX12_whole X_12) (fun _ X_15 => (fX12_takesE_22 n) (Int32.ofNat x) x2 X_15)))) else some ((0 : Int32), X_9)))) else if r5 = ((33 : Int32)) then fX12_takesE_43 ((fX12_takesE_22 n)) (Int32.ofNat x) x2 r5 X else if r5 = ((40 : Int32)) then fX12_takesE_43 ((fX12_takesE_22 n)) (Int32.ofNat x) x2 r5 X else bnw (fX12_takesTest X) (fun r17 X_18 => if r17 = 0 then some ((0 : Int32), X_18) else (fX12_takesE_22 n) (Int32.ofNat x) ((0 : Int32)) X_18)) (cI (cT N tx p)) := by
  have hN := hS.1.1
  have hp := hS.2.1
  rw [LE, fX12_takesE_22_s, next_m hS.1 hS.2.2.2.2.2.2.1 (by omega), bnd_some]
/-- one sign put on the stack -/
def pu (X : XD) (W : List Nat) (s p : Nat) : XD := wI (wI (wI X 14 W.length (Int32.ofNat s)) 0 23 (Int32.ofNat (W.length + 1))) 0 12 (Int32.ofNat (p + 1))
theorem pu_F {X : XD} {W : List Nat} {x e s p : Nat} : FrM x e X (pu X W s p) := ((FrM.w14.trans (FrM.w0 (by omega)) (Nat.le_refl _)).trans (FrM.w0 (by omega)) (Nat.le_refl _))
theorem pu_S {b p e s o : Nat} {W : List Nat} {X X0 : XD} (hX : X = wI X0 0 24 (Int32.ofNat o)) (hS : Sm N tx b X0 p W e) (hp : p < N) (hs : s ≤ 124) (ho : opn (s :: W) = o) : Sm N tx b (pu X W s p) (p + 1) (s :: W) e := by
  obtain ⟨s1, s2, s3, s4, s5, s6, s7, s8, s9, s10, s11⟩ := hS
  subst hX
  have f : FrM 0 0 X0 (pu (wI X0 0 24 (Int32.ofNat o)) W s p) := (FrM.w0 (by omega)).trans pu_F (Nat.le_refl _)
  have pl : pnd (s :: W) ≤ 1 + pnd W := by
    show (if s = 40 then 0 else 1) + pnd W ≤ _
    split <;> omega
  refine ⟨f.TM s1, by omega, s3, by omega, by rw [List.length_cons]; omega, fun w hw => ?_, wI_s, ?_, ⟨?_, stk_eq (fun k hk => ?_) s9⟩, ?_, ?_⟩
  · rcases List.mem_cons.mp hw with rfl | hw
    · exact hs
    · exact s6 w hw
  · unfold pu; rw [wI_k (by decide), wI_s]; rfl
  · unfold pu; rw [wI_c (by decide), wI_c (by decide), wI_s]
  · unfold pu; rw [wI_c (by decide), wI_c (by decide), wI_k (by omega), wI_c (by decide)]
  · unfold pu; rw [wI_k (by decide), wI_k (by decide), wI_c (by decide), wI_s, ho]
  · unfold pu; rw [wI_k (by decide), wI_k (by decide), wI_c (by decide), wI_k (by decide), s11]
/-- an open sign -/
theorem open_m {b x p e s : Nat} {W : List Nat} {X : XD} (hS : Sm N tx b X p W e) (hp : p < N) (hs : s = 33 ∨ s = 40) (ho : opn W < 4) : ∃ Y, (∀ (f : Int32 → Int32 → XD → Option (Int32 × XD)) (x2 : Int32), fX12_takesE_43 f (Int32.ofNat x) x2 (Int32.ofNat s) X = f (Int32.ofNat x) x2 Y) ∧ Sm N tx b Y (p + 1) (s :: W) e ∧ FrM x e X Y := by
  obtain ⟨s1, s2, s3, s4, s5, s6, s7, s8, s9, s10, s11⟩ := id hS
  have hN := s1.1
  have eo : opn (s :: W) = opn W + 1 := by
    show (if s = 33 ∨ s = 40 then 1 else 0) + opn W = _
    rw [if_pos hs]
    omega
  refine ⟨pu (wI X 0 24 (Int32.ofNat (opn W + 1))) W s p, fun f x2 => ?_, pu_S rfl hS hp (by omega) eo, (FrM.w0 (by omega)).trans pu_F (Nat.le_refl _)⟩
  unfold fX12_takesE_43
  rw [s10, if_neg (show ¬ Int32.ofNat (opn W) = 4 from fun q => by have := (o_eq (b := 4) (by omega) (by omega)).mp q; omega), nm_eq, i1]
  have e23 : (wI X 0 24 (Int32.ofNat (opn W + 1))).1 0 23 = Int32.ofNat W.length := by rw [wI_k (by decide)]; exact s8
  rw [e23, gin_o (by omega) (by omega), i32n (by omega), nm_eq, nm_eq, nm_eq]
  have e24 : (wI (wI X 0 24 (Int32.ofNat (opn W + 1))) 14 W.length (Int32.ofNat s)).1 0 23 = Int32.ofNat W.length := by rw [wI_c (by decide)]; exact e23
  rw [e24, i1]
  have e12 : (wI (wI (wI X 0 24 (Int32.ofNat (opn W + 1))) 14 W.length (Int32.ofNat s)) 0 23 (Int32.ofNat (W.length + 1))).1 0 12 = Int32.ofNat p := by rw [wI_k (by decide), wI_c (by decide), wI_k (by decide)]; exact s7
  rw [e12, i1]
  rfl
/-- a sign between operands -/
theorem between_m {b x p e s : Nat} {W Q : List Nat} {l : List Tok} {X : XD} (hS : Sm N tx b X p W e) (hp : p < N) (hs : s = 38 ∨ s = 124) (hq : stl s W = (Q, l)) : ∃ Y, (∀ (f : Int32 → Int32 → XD → Option (Int32 × XD)), fX12_takesE_122 f (Int32.ofNat x) (Int32.ofNat s) X = f (Int32.ofNat x) 1 Y) ∧ Sm N tx b Y (p + 1) (s :: Q) (e + l.length) ∧ Pc x e X Y l := by
  have hN := hS.1.1
  obtain ⟨Y, y1, y2, y3⟩ := settle_m (x := x) (v := s) (by omega) W FU p e X (FU_gt (by have := hS.2.2.2.2.1; have := hS.2.1; omega)) hS
  rw [hq] at y2 y3
  dsimp only at y2 y3
  obtain ⟨s1, s2, s3, s4, s5, s6, s7, s8, s9, s10, s11⟩ := id y2
  have eo : opn (s :: Q) = opn Q := by
    show (if s = 33 ∨ s = 40 then 1 else 0) + opn Q = _
    rw [if_neg (by omega)]
    omega
  have e0 : Y = wI Y 0 24 (Int32.ofNat (opn Q)) := by
    refine Prod.ext ?_ rfl
    funext i k
    by_cases z : i = 0
    · by_cases z2 : k = 24
      · rw [z, z2, wI_s, s10]
      · rw [wI_k z2]
    · rw [wI_c z]
  refine ⟨pu Y Q s p, fun f => ?_, pu_S e0 y2 hp (by omega) eo, y3.fr pu_F⟩
  unfold fX12_takesE_122 fX12_settle
  rw [y1, bnw_some, s8, gin_o (by omega) (by omega), i32n (by omega), nm_eq, nm_eq, nm_eq]
  have e24 : (wI Y 14 Q.length (Int32.ofNat s)).1 0 23 = Int32.ofNat Q.length := by rw [wI_c (by decide)]; exact s8
  rw [e24, i1]
  have e12 : (wI (wI Y 14 Q.length (Int32.ofNat s)) 0 23 (Int32.ofNat (Q.length + 1))).1 0 12 = Int32.ofNat p := by rw [wI_k (by decide), wI_c (by decide)]; exact s7
  rw [e12, i1]
  rfl
end
