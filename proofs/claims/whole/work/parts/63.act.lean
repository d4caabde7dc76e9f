set_option maxHeartbeats 40000000
set_option maxRecDepth 100000
/-! act -/
def ASt (C0 M0 Xc Xm : XD) (q : Nat) : Prop := (q ≤ 20 ∧ Xc.1 142 2 = Int32.ofNat q ∧ Xc.1 142 1 = Int32.ofNat q ∧ Xm.1 0 61 = Int32.ofNat q ∧ ∀ j, j < q → Xc.1 143 j = Xm.1 38 j) ∧ (∀ p, p ≠ 142 → p ≠ 143 → Xc.1 p = C0.1 p) ∧ Xc.2 = C0.2 ∧ (∀ p, p ≠ 0 → p ≠ 38 → Xm.1 p = M0.1 p) ∧ (∀ j, j ≠ 61 → Xm.1 0 j = M0.1 0 j) ∧ Xm.2 = M0.2
def AR (C0 M0 : XD) (c : Nat) (fc fm : XD → Option (Int32 × XD)) : Prop := ∀ q Xc Xm, q + c ≤ 20 → ASt C0 M0 Xc Xm q → ∃ v Yc Ym q', fc Xc = some (v, Yc) ∧ fm Xm = some (v, Ym) ∧ ASt C0 M0 Yc Ym q' ∧ q' ≤ q + c
theorem AR.mono {C0 M0 : XD} {c d : Nat} {fc fm : XD → Option (Int32 × XD)} (h : AR C0 M0 c fc fm) (hd : c ≤ d) : AR C0 M0 d fc fm := by
  intro q Xc Xm h1 h2
  obtain ⟨v, Yc, Ym, q', a, b, e, f⟩ := h q Xc Xm (by omega) h2
  exact ⟨v, Yc, Ym, q', a, b, e, by omega⟩
theorem AR.body {Z : XS} {C0 M0 : XD} {c : Nat} {b : Int32} {fc fm : XD → Option (Int32 × XD)} (h143 : sL Z 143 = 20) (h : AR C0 M0 c fc fm) : AR C0 M0 (c + 1) (fun X => bnw (fX3_add Z 142 b X) (fun _ X' => fc X')) (fun X => bnw (fX12_body b X) (fun _ X' => fm X')) := by
  intro q Xc Xm h1 ⟨⟨a0, a1, a2, a3, a4⟩, b1, b2, b3, b4, b5⟩
  have e1 : Int32.ofNat q + 1 = Int32.ofNat (q + 1) := o_add q 1
  have hb : fX12_body b Xm = some ((), wI (wI Xm 38 q b) 0 61 (Int32.ofNat (q + 1))) := by
    unfold fX12_body fX12_body_19
    rw [a3, if_neg (show ¬ (20 : Int32) ≤ Int32.ofNat q from fun z => by have := (o_le (a := 20) (by omega) (by omega)).mp z; omega), gin_o (by omega) (by omega), nm_eq, nm_eq, i32n (by omega), wI_c (show 0 ≠ 38 by decide), a3, e1]
  have ha := add_in (Z := Z) (x := b) h143 a2 (by decide) (show q < 20 by omega)
  obtain ⟨v, Yc, Ym, q', k1, k2, k3, k4⟩ := h (q + 1) (rAdd Xc 142 q b) (wI (wI Xm 38 q b) 0 61 (Int32.ofNat (q + 1))) (by omega) ⟨⟨by omega, by
      unfold rAdd
      rw [wI_k (by decide), wI_c (by decide), wI_s, a1, e1], wI_s, wI_s, fun j hj => by
      unfold rAdd
      rw [wI_c (show 143 ≠ 142 by decide), wI_c (show 38 ≠ 0 by decide)]
      by_cases z : j = q
      · subst z; rw [wI_s, wI_s]
      · rw [wI_k z, wI_k z, wI_c (by decide)]; exact a4 j (by omega)⟩, fun p p1 p2 => by rw [rAdd_o p1 p2]; exact b1 p p1 p2, b2, fun p p0 p38 => by rw [wI_c p0, wI_c p38]; exact b3 p p0 p38, fun j hj => by rw [wI_k hj, wI_c (by decide)]; exact b4 j hj, b5⟩
  refine ⟨v, Yc, Ym, q', ?_, ?_, k3, by omega⟩
  · show bnw (fX3_add Z 142 b Xc) _ = _
    rw [bnw_of ha]; exact k1
  · show bnw (fX12_body b Xm) _ = _
    rw [bnw_of hb]; exact k2
theorem AR.seq {C0 M0 : XD} {c d : Nat} {f1 g1 : XD → Option (Int32 × XD)} {f2 g2 : Int32 → XD → Option (Int32 × XD)} (h : AR C0 M0 c f1 g1) (h2 : ∀ v, AR C0 M0 d (f2 v) (g2 v)) : AR C0 M0 (c + d) (fun X => bnw (f1 X) (fun v X' => f2 v X')) (fun X => bnw (g1 X) (fun v X' => g2 v X')) := by
  intro q Xc Xm h1 hs
  obtain ⟨v, Yc, Ym, q', k1, k2, k3, k4⟩ := h q Xc Xm (by omega) hs
  obtain ⟨w, Wc, Wm, q2, m1, m2, m3, m4⟩ := h2 v q' Yc Ym (by omega) k3
  refine ⟨w, Wc, Wm, q2, ?_, ?_, m3, by omega⟩
  · show bnw (f1 Xc) _ = _
    rw [bnw_of k1]; exact m1
  · show bnw (g1 Xm) _ = _
    rw [bnw_of k2]; exact m2
theorem AR.ret {C0 M0 : XD} {fc fm : XD → Option (Int32 × XD)} (h : ∀ q Xc Xm, ASt C0 M0 Xc Xm q → ∃ w, fc Xc = some (w, Xc) ∧ fm Xm = some (w, Xm)) : AR C0 M0 0 fc fm := by
  intro q Xc Xm _ hs
  obtain ⟨w, k1, k2⟩ := h q Xc Xm hs
  exact ⟨w, Xc, Xm, q, k1, k2, hs, by omega⟩
theorem AR.congr {C0 M0 : XD} {c : Nat} {fc fm fc' fm' : XD → Option (Int32 × XD)} (h : AR C0 M0 c fc fm) (h1 : ∀ q Xc Xm, ASt C0 M0 Xc Xm q → fc' Xc = fc Xc ∧ fm' Xm = fm Xm) : AR C0 M0 c fc' fm' := by
  intro q Xc Xm hq hs
  obtain ⟨e1, e2⟩ := h1 q Xc Xm hs
  rw [e1, e2]
  exact h q Xc Xm hq hs
section A
variable {Z : XS} {C0 M0 : XD} {o i k v : Nat}
theorem ASt.f {Xc Xm : XD} {q : Nat} (hc : CK Z C0 o i k v) (hm : MK M0 i k v) (h : ASt C0 M0 Xc Xm q) : Xc.1 o 0 = Int32.ofNat i ∧ Xc.1 o 1 = Int32.ofNat v ∧ Xm.1 1 i = Int32.ofNat k ∧ Xm.1 2 i = Int32.ofNat v := by
  obtain ⟨-, b1, -, b3, -⟩ := h
  have ho := hc.1
  exact ⟨by rw [b1 o (by omega) (by omega)]; exact hc.2.2.2.1, by rw [b1 o (by omega) (by omega)]; exact hc.2.2.2.2.1, by rw [b3 1 (by decide) (by decide)]; exact hm.2.2.1, by rw [b3 2 (by decide) (by decide)]; exact hm.2.2.2⟩
theorem ar_sa (h143 : sL Z 143 = 20) (hc : CK Z C0 o i k v) (hm : MK M0 i k v) (x : Int32) : AR C0 M0 1 (fX4_aims Z o 142 x) (fX12_shooterAims (Int32.ofNat i) x) := by
  refine (AR.body (b := 10) h143 (AR.ret (fc := fun X => some (x + X.1 o 0, X)) (fm := fun X => some (x + Int32.ofNat i, X)) fun q Xc Xm hs => ?_) : AR C0 M0 (0 + 1) _ _)
  rw [(hs.f hc hm).1]
  exact ⟨_, rfl, rfl⟩
theorem ar_aims (h143 : sL Z 143 = 20) (hc : CK Z C0 o i k v) (hm : MK M0 i k v) (x : Int32) : AR C0 M0 2 (fV_X4_aims Z o 142 x) (fX12_aimsAct (Int32.ofNat i) x) := by
  have sa := ar_sa h143 hc hm
  have hi := hc.2.2.2.2.2.2.2
  have hk := hm.1
  have key : ∀ q Xc Xm, ASt C0 M0 Xc Xm q → fX12_aimsAct (Int32.ofNat i) x Xm = (if k = 2 ∨ k = 5 then bnw (fX12_body 30 Xm) (fun _ X_4 => bnw (fX12_shooterAims (Int32.ofNat i) (x * 3) X_4) (fun r6 X_7 => some (r6, X_7))) else if k = 4 then bnw (fX12_body 50 Xm) (fun _ X_15 => bnw (fX12_shooterAims (Int32.ofNat i) x X_15) (fun r17 X_18 => some (-r17, X_18))) else if k = 6 then bnw (fX12_body 71 Xm) (fun _ X_29 => bnw (fX12_shooterAims (Int32.ofNat i) x X_29) (fun r31 X_32 => gin (Int32.ofNat i) 6 (some (r31 ^^^ (X_32.1 2 (Int32.ofNat i).toNatClampNeg), X_32)))) else bnw (fX12_shooterAims (Int32.ofNat i) x Xm) (fun r34 X_35 => some (r34, X_35))) := by
    intro q Xc Xm hs
    unfold fX12_aimsAct
    rw [gin_o (by omega) (by omega), i32n (by omega), (hs.f hc hm).2.2.1]
    rcases (show k = 0 ∨ k = 1 ∨ k = 2 ∨ k = 3 ∨ k = 4 ∨ k = 5 ∨ k = 6 by omega) with rfl | rfl | rfl | rfl | rfl | rfl | rfl <;> rfl
  have keyc : ∀ Xc, fV_X4_aims Z o 142 x Xc = (if k = 2 ∨ k = 5 then fX5_aims Z o 142 x Xc else if k = 4 then fX0_aims Z o 142 x Xc else if k = 6 then fX7_aims Z o 142 x Xc else fX4_aims Z o 142 x Xc) := by
    intro Xc
    unfold fV_X4_aims
    rw [hc.2.2.1]
    rcases (show k = 0 ∨ k = 1 ∨ k = 2 ∨ k = 3 ∨ k = 4 ∨ k = 5 ∨ k = 6 by omega) with rfl | rfl | rfl | rfl | rfl | rfl | rfl <;> rfl
  by_cases k25 : k = 2 ∨ k = 5
  · refine AR.congr (fc := fX5_aims Z o 142 x) (AR.body (b := 30) h143 (AR.seq (d := 0) (sa (x * 3)) (f2 := fun r6 X_7 => some (r6, X_7)) (g2 := fun r6 X_7 => some (r6, X_7)) (fun w => AR.ret fun q Xc Xm hs => ⟨_, rfl, rfl⟩))) (fun q Xc Xm hs => ⟨by rw [keyc, if_pos k25], by rw [key q Xc Xm hs, if_pos k25]⟩)
  by_cases k4 : k = 4
  · refine AR.congr (fc := fX0_aims Z o 142 x) (AR.body (b := 50) h143 (AR.seq (d := 0) (sa x) (f2 := fun r6 X_7 => some (-r6, X_7)) (g2 := fun r6 X_7 => some (-r6, X_7)) (fun w => AR.ret fun q Xc Xm hs => ⟨_, rfl, rfl⟩))) (fun q Xc Xm hs => ⟨by rw [keyc, if_neg k25, if_pos k4], by rw [key q Xc Xm hs, if_neg k25, if_pos k4]⟩)
  by_cases k6 : k = 6
  · refine AR.congr (fc := fX7_aims Z o 142 x) (AR.body (b := 71) h143 (AR.seq (d := 0) (sa x) (f2 := fun r6 X_7 => some (r6 ^^^ (X_7.1 o 1), X_7)) (g2 := fun r6 X_7 => gin (Int32.ofNat i) 6 (some (r6 ^^^ (X_7.1 2 (Int32.ofNat i).toNatClampNeg), X_7))) (fun w => AR.ret fun q Xc Xm hs => ?_))) (fun q Xc Xm hs => ⟨by rw [keyc, if_neg k25, if_neg k4, if_pos k6], by rw [key q Xc Xm hs, if_neg k25, if_neg k4, if_pos k6]⟩)
    have f := hs.f hc hm
    rw [gin_o (by omega) (by omega), i32n (by omega), f.2.1, f.2.2.2]
    exact ⟨_, rfl, rfl⟩
  · refine AR.mono (c := 1) (AR.congr (fc := fX4_aims Z o 142 x) (fm := fX12_shooterAims (Int32.ofNat i) x) (sa x) (fun q Xc Xm hs => ⟨by rw [keyc, if_neg k25, if_neg k4, if_neg k6], ?_⟩)) (by decide)
    rw [key q Xc Xm hs, if_neg k25, if_neg k4, if_neg k6]
    cases fX12_shooterAims (Int32.ofNat i) x Xm <;> rfl
theorem ar_ss (h143 : sL Z 143 = 20) (hc : CK Z C0 o i k v) (hm : MK M0 i k v) (x : Int32) : AR C0 M0 3 (fX4_shows Z o 142 x) (fX12_shooterShows (Int32.ofNat i) x) := by
  have hi := hc.2.2.2.2.2.2.2
  refine (AR.body (b := 11) h143 (AR.seq (d := 0) (ar_aims h143 hc hm x) (f2 := fun r6 X_7 => some (r6 - (X_7.1 o 1), X_7)) (g2 := fun r6 X_7 => gin (Int32.ofNat i) 6 (some (r6 - (X_7.1 2 (Int32.ofNat i).toNatClampNeg), X_7))) (fun w => AR.ret fun q Xc Xm hs => ?_)))
  have f := hs.f hc hm
  rw [gin_o (by omega) (by omega), i32n (by omega), f.2.1, f.2.2.2]
  exact ⟨_, rfl, rfl⟩
theorem ar_ts (h143 : sL Z 143 = 20) (hc : CK Z C0 o i k v) (hm : MK M0 i k v) (x : Int32) : AR C0 M0 4 (fX8_shows Z o 142 x) (fX12_turnedShows (Int32.ofNat i) x) :=
  AR.body (b := 20) h143 (AR.seq (d := 0) (ar_ss h143 hc hm x) (f2 := fun r6 X_7 => some (r6 ^^^ 6, X_7)) (g2 := fun r6 X_7 => some (r6 ^^^ 6, X_7)) (fun w => AR.ret fun q Xc Xm hs => ⟨_, rfl, rfl⟩))
theorem ar_shows (h143 : sL Z 143 = 20) (hc : CK Z C0 o i k v) (hm : MK M0 i k v) (x : Int32) : AR C0 M0 5 (fV_X4_shows Z o 142 x) (fX12_showsAct (Int32.ofNat i) x) := by
  have hi := hc.2.2.2.2.2.2.2
  have hk := hm.1
  have key : ∀ q Xc Xm, ASt C0 M0 Xc Xm q → fX12_showsAct (Int32.ofNat i) x Xm = (if k = 1 then bnw (fX12_turnedShows (Int32.ofNat i) x Xm) (fun r3 X_4 => some (r3, X_4)) else if k = 4 then bnw (fX12_body 51 Xm) (fun _ X_8 => bnw (fX12_turnedShows (Int32.ofNat i) (x + 1) X_8) (fun r10 X_11 => some (r10, X_11))) else if k = 6 then bnw (fX12_body 70 Xm) (fun _ X_15 => bnw (fX12_shooterShows (Int32.ofNat i) x X_15) (fun r17 X_18 => bnw (fX12_shooterAims (Int32.ofNat i) 2 X_18) (fun r20 X_21 => some (r17 + r20, X_21)))) else bnw (fX12_shooterShows (Int32.ofNat i) x Xm) (fun r23 X_24 => some (r23, X_24))) := by
    intro q Xc Xm hs
    unfold fX12_showsAct
    rw [gin_o (by omega) (by omega), i32n (by omega), (hs.f hc hm).2.2.1]
    rcases (show k = 0 ∨ k = 1 ∨ k = 2 ∨ k = 3 ∨ k = 4 ∨ k = 5 ∨ k = 6 by omega) with rfl | rfl | rfl | rfl | rfl | rfl | rfl <;> rfl
  have keyc : ∀ Xc, fV_X4_shows Z o 142 x Xc = (if k = 1 then fX8_shows Z o 142 x Xc else if k = 4 then fX0_shows Z o 142 x Xc else if k = 6 then fX7_shows Z o 142 x Xc else fX4_shows Z o 142 x Xc) := by
    intro Xc
    unfold fV_X4_shows
    rw [hc.2.2.1]
    rcases (show k = 0 ∨ k = 1 ∨ k = 2 ∨ k = 3 ∨ k = 4 ∨ k = 5 ∨ k = 6 by omega) with rfl | rfl | rfl | rfl | rfl | rfl | rfl <;> rfl
  by_cases k1 : k = 1
  · refine AR.mono (c := 4) (AR.congr (fc := fX8_shows Z o 142 x) (fm := fX12_turnedShows (Int32.ofNat i) x) (ar_ts h143 hc hm x) (fun q Xc Xm hs => ⟨by rw [keyc, if_pos k1], ?_⟩)) (by decide)
    rw [key q Xc Xm hs, if_pos k1]
    cases fX12_turnedShows (Int32.ofNat i) x Xm <;> rfl
  by_cases k4 : k = 4
  · exact AR.congr (fc := fX0_shows Z o 142 x) (AR.body (b := 51) h143 (AR.seq (d := 0) (ar_ts h143 hc hm (x + 1)) (f2 := fun r6 X_7 => some (r6, X_7)) (g2 := fun r6 X_7 => some (r6, X_7)) (fun w => AR.ret fun q Xc Xm hs => ⟨_, rfl, rfl⟩))) (fun q Xc Xm hs => ⟨by rw [keyc, if_neg k1, if_pos k4], by rw [key q Xc Xm hs, if_neg k1, if_pos k4]⟩)
  by_cases k6 : k = 6
  · exact AR.congr (fc := fX7_shows Z o 142 x) (AR.body (b := 70) h143 (AR.seq (d := 1) (ar_ss h143 hc hm x) (f2 := fun r5 X_6 => bnw (fX4_aims Z o 142 2 X_6) (fun r8 X_9 => some (r5 + r8, X_9))) (g2 := fun r17 X_18 => bnw (fX12_shooterAims (Int32.ofNat i) 2 X_18) (fun r20 X_21 => some (r17 + r20, X_21))) (fun w => AR.seq (d := 0) (ar_sa h143 hc hm 2) (f2 := fun r8 X_9 => some (w + r8, X_9)) (g2 := fun r8 X_9 => some (w + r8, X_9)) (fun u => AR.ret fun q Xc Xm hs => ⟨_, rfl, rfl⟩)))) (fun q Xc Xm hs => ⟨by rw [keyc, if_neg k1, if_neg k4, if_pos k6], by rw [key q Xc Xm hs, if_neg k1, if_neg k4, if_pos k6]⟩)
  · refine AR.mono (c := 3) (AR.congr (fc := fX4_shows Z o 142 x) (fm := fX12_shooterShows (Int32.ofNat i) x) (ar_ss h143 hc hm x) (fun q Xc Xm hs => ⟨by rw [keyc, if_neg k1, if_neg k4, if_neg k6], ?_⟩)) (by decide)
    rw [key q Xc Xm hs, if_neg k1, if_neg k4, if_neg k6]
    cases fX12_shooterShows (Int32.ofNat i) x Xm <;> rfl
theorem ar_st (h143 : sL Z 143 = 20) (hc : CK Z C0 o i k v) (hm : MK M0 i k v) (x : Int32) : AR C0 M0 6 (fX4_tells Z o 142 x) (fX12_shooterTells (Int32.ofNat i) x) :=
  AR.body (b := 12) h143 (AR.seq (d := 0) (ar_shows h143 hc hm x) (f2 := fun r6 X_7 => some (r6 * 2, X_7)) (g2 := fun r6 X_7 => some (r6 * 2, X_7)) (fun w => AR.ret fun q Xc Xm hs => ⟨_, rfl, rfl⟩))
theorem ar_tells (h143 : sL Z 143 = 20) (hc : CK Z C0 o i k v) (hm : MK M0 i k v) (x : Int32) : AR C0 M0 12 (fV_X4_tells Z o 142 x) (fX12_tellsAct (Int32.ofNat i) x) := by
  have hi := hc.2.2.2.2.2.2.2
  have hk := hm.1
  have key : ∀ q Xc Xm, ASt C0 M0 Xc Xm q → fX12_tellsAct (Int32.ofNat i) x Xm = (if k = 3 ∨ k = 6 then bnw (fX12_body 40 Xm) (fun _ X_4 => bnw (fX12_shooterTells (Int32.ofNat i) x X_4) (fun r6 X_7 => bnw (fX12_showsAct (Int32.ofNat i) 1 X_7) (fun r9 X_10 => some (r6 + r9, X_10)))) else if k = 5 then bnw (fX12_body 60 Xm) (fun _ X_18 => bnw (fX12_shooterTells (Int32.ofNat i) (x - Int32.ofNat i) X_18) (fun r20 X_21 => some (r20, X_21))) else bnw (fX12_shooterTells (Int32.ofNat i) x Xm) (fun r33 X_34 => some (r33, X_34))) := by
    intro q Xc Xm hs
    unfold fX12_tellsAct
    rw [gin_o (by omega) (by omega), i32n (by omega), (hs.f hc hm).2.2.1]
    rcases (show k = 0 ∨ k = 1 ∨ k = 2 ∨ k = 3 ∨ k = 4 ∨ k = 5 ∨ k = 6 by omega) with rfl | rfl | rfl | rfl | rfl | rfl | rfl <;> rfl
  have keyc : ∀ Xc, fV_X4_tells Z o 142 x Xc = (if k = 3 ∨ k = 6 then fX10_tells Z o 142 x Xc else if k = 5 then fX2_tells Z o 142 x Xc else fX4_tells Z o 142 x Xc) := by
    intro Xc
    unfold fV_X4_tells
    rw [hc.2.2.1]
    rcases (show k = 0 ∨ k = 1 ∨ k = 2 ∨ k = 3 ∨ k = 4 ∨ k = 5 ∨ k = 6 by omega) with rfl | rfl | rfl | rfl | rfl | rfl | rfl <;> rfl
  by_cases k36 : k = 3 ∨ k = 6
  · have e10 : ∀ X, fV_X10_shows Z o 142 1 X = fV_X4_shows Z o 142 1 X := by
      intro X
      unfold fV_X10_shows fV_X4_shows
      rw [hc.2.2.1]
      rcases k36 with rfl | rfl <;> rfl
    refine AR.congr (fc := fX10_tells Z o 142 x) (AR.body (b := 40) h143 (AR.seq (d := 5) (ar_st h143 hc hm x) (f2 := fun r5 X_6 => bnw (fV_X10_shows Z o 142 1 X_6) (fun r8 X_9 => some (r5 + r8, X_9))) (g2 := fun r17 X_18 => bnw (fX12_showsAct (Int32.ofNat i) 1 X_18) (fun r20 X_21 => some (r17 + r20, X_21))) (fun w => AR.seq (d := 0) (AR.congr (ar_shows h143 hc hm 1) (fun q Xc Xm hs => ⟨e10 Xc, rfl⟩)) (f2 := fun r8 X_9 => some (w + r8, X_9)) (g2 := fun r8 X_9 => some (w + r8, X_9)) (fun u => AR.ret fun q Xc Xm hs => ⟨_, rfl, rfl⟩)))) (fun q Xc Xm hs => ⟨by rw [keyc, if_pos k36], by rw [key q Xc Xm hs, if_pos k36]⟩)
  by_cases k5 : k = 5
  · have e2 : AR C0 M0 7 (fX2_tells Z o 142 x) (fun X => bnw (fX12_body 60 X) (fun _ X_18 => bnw (fX12_shooterTells (Int32.ofNat i) (x - Int32.ofNat i) X_18) (fun r20 X_21 => some (r20, X_21)))) := by
      refine AR.body (b := 60) h143 (AR.congr (fc := fun X => bnw (fX4_tells Z o 142 (x - Int32.ofNat i) X) (fun r5 X_6 => some (r5, X_6))) (AR.seq (d := 0) (ar_st h143 hc hm (x - Int32.ofNat i)) (f2 := fun r6 X_7 => some (r6, X_7)) (g2 := fun r6 X_7 => some (r6, X_7)) (fun w => AR.ret fun q Xc Xm hs => ⟨_, rfl, rfl⟩)) (fc' := fun X_3 => bnw (fX4_tells Z o 142 (x - X_3.1 o 0) X_3) (fun r5 X_6 => some (r5, X_6))) (fun q Xc Xm hs => ⟨?_, rfl⟩))
      rw [(hs.f hc hm).1]
    exact AR.mono (c := 7) (AR.congr e2 (fun q Xc Xm hs => ⟨by rw [keyc, if_neg k36, if_pos k5], by rw [key q Xc Xm hs, if_neg k36, if_pos k5]⟩)) (by decide)
  · refine AR.mono (c := 6) (AR.congr (fc := fX4_tells Z o 142 x) (fm := fX12_shooterTells (Int32.ofNat i) x) (ar_st h143 hc hm x) (fun q Xc Xm hs => ⟨by rw [keyc, if_neg k36, if_neg k5], ?_⟩)) (by decide)
    rw [key q Xc Xm hs, if_neg k36, if_neg k5]
    cases fX12_shooterTells (Int32.ofNat i) x Xm <;> rfl
end A
theorem st29 : St29 Rel := by
  intro Z Xc Xm a1 a2 a3 ⟨n, m, r, h⟩
  have hn := h.2.1.1
  have h143 : sL Z 143 = 20 := h.1.2.2.2.2.2.2.2.2.2.2.2
  unfold fX11_act fX12_act fX3_clear
  rw [nm_eq, nm_eq, bnw_some, nm_eq]
  have hS : ASt Xc Xm (wI (wI Xc 142 2 0) 142 1 0) (wI Xm 0 61 0) 0 := ⟨⟨by decide, by rw [wI_k (by decide), wI_s]; rfl, wI_s, wI_s, fun j hj => absurd hj (Nat.not_lt_zero j)⟩, fun p p1 _ => by rw [wI_c p1, wI_c p1], rfl, fun p p0 _ => wI_c p0, fun j hj => wI_k hj, rfl⟩
  have fin : ∀ (Yc Ym : XD) (q : Nat), ASt Xc Xm Yc Ym q → RB Z Yc Ym n m r := by
    intro Yc Ym q ⟨⟨a0, a1, a2, a3, a4⟩, b1, b2, b3, b4, b5⟩
    exact h.rn ⟨a1.trans a3.symm, a2.trans a3.symm, q, a0, a3, fun j hj => ⟨a4 j hj, trivial⟩⟩ (fun i hi => b1 i (by omega) (by omega)) b2 (fun p p0 hp => b3 p p0 hp) (fun j hj => b4 j hj) b5
  have h' := fin _ _ _ hS
  rcases h'.2.1.find a1 with ⟨f1, f2⟩ | ⟨i, o, k, v, hi, rfl, ho, hc', hm', f1, f2⟩
  · rw [bnd_of f1, bnd_of f2]
    exact ⟨_, _, _, rfl, rfl, n, m, r, h'⟩
  have hc : CK Z Xc o i k v := hc'.eq (by rw [wI_c (by have := hc'.1; omega), wI_c (by have := hc'.1; omega)])
  have hm : MK Xm i k v := ⟨hm'.1, hm'.2.1, by have := hm'.2.2.1; rw [wI_c (by decide)] at this; exact this, by have := hm'.2.2.2; rw [wI_c (by decide)] at this; exact this⟩
  rw [bnd_of f1, bnd_of f2, mto_some, if_neg ne10]
  have run : ∀ (c : Nat) (fc fm : XD → Option (Int32 × XD)), c ≤ 20 → AR Xc Xm c fc fm → ∃ w Yc Ym, bnw (fc (wI (wI Xc 142 2 0) 142 1 0)) (fun r9 X_10 => some (r9, X_10)) = some (w, Yc) ∧ bnw (fm (wI Xm 0 61 0)) (fun r9 X_10 => some (r9, X_10)) = some (w, Ym) ∧ Rel Z Yc Ym := by
    intro c fc fm hc20 hA
    obtain ⟨w, Yc, Ym, q, k1, k2, k3, -⟩ := hA 0 _ _ (by omega) hS
    exact ⟨w, Yc, Ym, bnw_of k1 _, bnw_of k2 _, n, m, r, fin Yc Ym q k3⟩
  rcases rng a2 (k := 2) (by decide) with hr | ⟨s, hs, rfl⟩
  · have ne : ∀ j : Nat, j ≤ 2 → ¬ a2 = Int32.ofNat j := fun j hj e => by
      subst e
      rcases hr with hr | hr
      · exact o_ge0 (by omega) hr
      · have := (o_lt (by omega) (by omega)).mp hr; omega
    rw [bnd_of (show fX12_in a2 0 2 _ = some 0 from in_0 hr), if_pos rfl, if_neg (show ¬ a2 = 0 from ne 0 (by decide)), if_neg (show ¬ a2 = 1 from ne 1 (by decide)), if_neg (show ¬ a2 = 2 from ne 2 (by decide))]
    exact ⟨_, _, _, rfl, rfl, n, m, r, h'⟩
  rw [bnd_of (show fX12_in (Int32.ofNat s) 0 2 _ = some 1 from in_1 (hi := 2) hs (by decide)), if_neg ne10]
  rcases (show s = 0 ∨ s = 1 ∨ s = 2 by omega) with rfl | rfl | rfl
  · rw [if_pos (show Int32.ofNat 0 = 0 from rfl), if_pos (show Int32.ofNat 0 = 0 from rfl)]
    exact run 2 _ _ (by decide) (ar_aims h143 hc hm a3)
  · rw [if_neg (show ¬ Int32.ofNat 1 = 0 by decide), if_pos (show Int32.ofNat 1 = 1 from rfl), if_neg (show ¬ Int32.ofNat 1 = 0 by decide), if_pos (show Int32.ofNat 1 = 1 from rfl)]
    exact run 5 _ _ (by decide) (ar_shows h143 hc hm a3)
  · rw [if_neg (show ¬ Int32.ofNat 2 = 0 by decide), if_neg (show ¬ Int32.ofNat 2 = 1 by decide), if_pos (show Int32.ofNat 2 = 2 from rfl), if_neg (show ¬ Int32.ofNat 2 = 0 by decide), if_neg (show ¬ Int32.ofNat 2 = 1 by decide)]
    exact run 12 _ _ (by decide) (ar_tells h143 hc hm a3)
