/-! the shapes after the constructors, and after a shooter more -/
set_option maxHeartbeats 40000000
set_option maxRecDepth 100000
theorem snC : sn cZE = 157 := by decide +kernel
theorem snM : sn mZE = 43 := by decide +kernel
theorem layM0 : LayM mZE := by
  unfold LayM KK KA
  decide +kernel
theorem shoot0 (k : Nat) : sR cZE 1 k = none := rfl
theorem layC0 : LayC cZE := by
  refine ⟨⟨by decide +kernel, by decide +kernel⟩, by unfold KA; decide +kernel, by unfold KK; decide +kernel, ?_, ?_, ?_, ?_, by unfold KK; decide +kernel, by unfold KK; decide +kernel, by unfold KA; decide +kernel, fun k t h => ?_⟩
  · have h0 : ∀ t, t < 157 → sK cZE t = 1 → (sR cZE t 0 = some (t + 1) ∧ KA cZE (t + 1) 13 10) := by
      unfold KA
      decide +kernel
    have h1 : ∀ t, t < 157 → sK cZE t = 1 → (sR cZE t 1 = some (t + 2) ∧ KA cZE (t + 2) 13 10) := by
      unfold KA
      decide +kernel
    have h2 : ∀ t, t < 157 → sK cZE t = 1 → (sR cZE t 2 = some (t + 3) ∧ KA cZE (t + 3) 13 10) := by
      unfold KA
      decide +kernel
    have h3 : ∀ t, t < 157 → sK cZE t = 1 → (sR cZE t 3 = some (t + 4) ∧ KA cZE (t + 4) 13 10) := by
      unfold KA
      decide +kernel
    have h4 : ∀ t, t < 157 → sK cZE t = 1 → (sR cZE t 5 = some (t + 5) ∧ KA cZE (t + 5) 13 100) := by
      unfold KA
      decide +kernel
    have h5 : ∀ t, t < 157 → sK cZE t = 1 → (sR cZE t 8 = some (t + 6) ∧ KA cZE (t + 6) 13 6) := by
      unfold KA
      decide +kernel
    exact fun t ht => ⟨h0 t (snC ▸ ht.1) ht.2, h1 t (snC ▸ ht.1) ht.2, h2 t (snC ▸ ht.1) ht.2, h3 t (snC ▸ ht.1) ht.2, h4 t (snC ▸ ht.1) ht.2, h5 t (snC ▸ ht.1) ht.2⟩
  · have h0 : ∀ t, t < 157 → sK cZE t = 3 → (sR cZE t 0 = some (t + 1) ∧ KA cZE (t + 1) 13 (sL cZE (t + 1))) := by
      unfold KA
      decide +kernel
    exact fun t ht => h0 t (snC ▸ ht.1) ht.2
  · have h0 : ∀ t, t < 157 → sK cZE t = 6 → (sR cZE t 4 = some (t + 1) ∧ KA cZE (t + 1) 13 6) := by
      unfold KA
      decide +kernel
    have h1 : ∀ t, t < 157 → sK cZE t = 6 → (sR cZE t 5 = some (t + 2) ∧ KA cZE (t + 2) 13 6) := by
      unfold KA
      decide +kernel
    have h2 : ∀ t, t < 157 → sK cZE t = 6 → (sR cZE t 6 = some (t + 3) ∧ KA cZE (t + 3) 13 6) := by
      unfold KA
      decide +kernel
    have h3 : ∀ t, t < 157 → sK cZE t = 6 → (sR cZE t 7 = some (t + 4) ∧ KA cZE (t + 4) 13 24) := by
      unfold KA
      decide +kernel
    have h4 : ∀ t, t < 157 → sK cZE t = 6 → (sR cZE t 8 = some (t + 5) ∧ KK cZE (t + 5) 3) := by
      unfold KK
      decide +kernel
    have h5 : ∀ t, t < 157 → sK cZE t = 6 → (sR cZE t 9 = some (t + 7) ∧ KK cZE (t + 7) 3) := by
      unfold KK
      decide +kernel
    have h6 : ∀ t, t < 157 → sK cZE t = 6 → (sR cZE t 10 = some (t + 9) ∧ KK cZE (t + 9) 3) := by
      unfold KK
      decide +kernel
    have h7 : ∀ t, t < 157 → sK cZE t = 6 → (sR cZE t 11 = some (t + 11) ∧ KK cZE (t + 11) 3) := by
      unfold KK
      decide +kernel
    exact fun t ht => ⟨h0 t (snC ▸ ht.1) ht.2, h1 t (snC ▸ ht.1) ht.2, h2 t (snC ▸ ht.1) ht.2, h3 t (snC ▸ ht.1) ht.2, h4 t (snC ▸ ht.1) ht.2, h5 t (snC ▸ ht.1) ht.2, h6 t (snC ▸ ht.1) ht.2, h7 t (snC ▸ ht.1) ht.2⟩
  · have h0 : ∀ t, t < 157 → sK cZE t = 9 → (sR cZE t 0 = some (t + 1) ∧ KA cZE (t + 1) 13 3) := by
      unfold KA
      decide +kernel
    have h1 : ∀ t, t < 157 → sK cZE t = 9 → (sR cZE t 1 = some (t + 2) ∧ KA cZE (t + 2) 13 3) := by
      unfold KA
      decide +kernel
    exact fun t ht => ⟨h0 t (snC ▸ ht.1) ht.2, h1 t (snC ▸ ht.1) ht.2⟩
  · rw [shoot0] at h
    cases h
theorem isSh_nk (k : Int32) : isSh (nk k) := by
  unfold nk isSh
  repeat' split
  all_goals decide
def shZ (Z : XS) (k : Int32) (j : Nat) : XS := stR (newO (sn Z) Z (nk k)) 1 j (sn Z)
theorem shZ_R {Z : XS} {k : Int32} {j b q : Nat} (h1 : b < sn Z) (h2 : b ≠ 1) : sR (shZ Z k j) b q = sR Z b q := by
  show (if b = 1 ∧ q = j then some (sn Z) else (if b = sn Z then fun _ => none else sR Z b) q) = sR Z b q
  rw [if_neg (fun z => h2 z.1), if_neg (Nat.ne_of_lt h1)]
theorem shZ_KA {Z : XS} {k : Int32} {j i c n : Nat} (h : KA Z i c n) : KA (shZ Z k j) i c n := KA.o h
theorem shZ_KK {Z : XS} {k : Int32} {j i c : Nat} (h : KK Z i c) : KK (shZ Z k j) i c := KK.o h
theorem shZ_KS {Z : XS} {k : Int32} {j i : Nat} (h : KS Z i) : KS (shZ Z k j) i := KS.o h
theorem shZ_old {Z : XS} {k : Int32} {j t c : Nat} (hc : ¬ isSh c) (h : KK (shZ Z k j) t c) : KK Z t c := by
  obtain ⟨h1, h2⟩ := h
  have h3 : (if t = sn Z then nk k else sK Z t) = c := h2
  have h4 : t < sn Z + 1 := h1
  by_cases e : t = sn Z
  · rw [if_pos e] at h3
    exact absurd (h3 ▸ isSh_nk k) hc
  · rw [if_neg e] at h3
    exact ⟨by omega, h3⟩
theorem shZ_L {Z : XS} {k : Int32} {j i : Nat} : sL (shZ Z k j) i = sL Z i := rfl
theorem LayC.sh {Z : XS} (hL : LayC Z) (k : Int32) {j : Nat} (hj : j < 6) : LayC (shZ Z k j) := by
  have hA := (lay_11_0 hL).2
  have ne1 : ∀ {t c : Nat}, KK Z t c → c ≠ 17 → t ≠ 1 := fun h hc e => hc (by rw [← h.2, e, hA.2.1])
  obtain ⟨l0, l1, l2, l3, l4, l5, l6, l7, l8, l9, l10⟩ := hL
  refine ⟨shZ_KK l0, fun q hq => ⟨(shZ_R l0.1 (by decide)).trans (l1 q hq).1, shZ_KA (l1 q hq).2⟩, fun q hq => ⟨(shZ_R l0.1 (by decide)).trans (l2 q hq).1, shZ_KK (l2 q hq).2⟩, fun t ht => ?_, fun t ht => ?_, fun t ht => ?_, fun t ht => ?_, fun q hq => ?_, fun q hq => ?_, fun q hq => ?_, fun q t hq => ?_⟩
  · have ht0 := shZ_old (by unfold isSh; decide) ht
    have hl := l3 t ht0
    have hn := ne1 ht0 (by decide)
    exact ⟨⟨(shZ_R ht0.1 hn).trans hl.1.1, shZ_KA hl.1.2⟩, ⟨(shZ_R ht0.1 hn).trans hl.2.1.1, shZ_KA hl.2.1.2⟩, ⟨(shZ_R ht0.1 hn).trans hl.2.2.1.1, shZ_KA hl.2.2.1.2⟩, ⟨(shZ_R ht0.1 hn).trans hl.2.2.2.1.1, shZ_KA hl.2.2.2.1.2⟩, ⟨(shZ_R ht0.1 hn).trans hl.2.2.2.2.1.1, shZ_KA hl.2.2.2.2.1.2⟩, ⟨(shZ_R ht0.1 hn).trans hl.2.2.2.2.2.1, shZ_KA hl.2.2.2.2.2.2⟩⟩
  · have ht0 := shZ_old (by unfold isSh; decide) ht
    have hl := l4 t ht0
    have hn := ne1 ht0 (by decide)
    exact ⟨(shZ_R ht0.1 hn).trans hl.1, shZ_KA hl.2⟩
  · have ht0 := shZ_old (by unfold isSh; decide) ht
    have hl := l5 t ht0
    have hn := ne1 ht0 (by decide)
    exact ⟨⟨(shZ_R ht0.1 hn).trans hl.1.1, shZ_KA hl.1.2⟩, ⟨(shZ_R ht0.1 hn).trans hl.2.1.1, shZ_KA hl.2.1.2⟩, ⟨(shZ_R ht0.1 hn).trans hl.2.2.1.1, shZ_KA hl.2.2.1.2⟩, ⟨(shZ_R ht0.1 hn).trans hl.2.2.2.1.1, shZ_KA hl.2.2.2.1.2⟩, ⟨(shZ_R ht0.1 hn).trans hl.2.2.2.2.1.1, shZ_KK hl.2.2.2.2.1.2⟩, ⟨(shZ_R ht0.1 hn).trans hl.2.2.2.2.2.1.1, shZ_KK hl.2.2.2.2.2.1.2⟩, ⟨(shZ_R ht0.1 hn).trans hl.2.2.2.2.2.2.1.1, shZ_KK hl.2.2.2.2.2.2.1.2⟩, ⟨(shZ_R ht0.1 hn).trans hl.2.2.2.2.2.2.2.1, shZ_KK hl.2.2.2.2.2.2.2.2⟩⟩
  · have ht0 := shZ_old (by unfold isSh; decide) ht
    have hl := l6 t ht0
    have hn := ne1 ht0 (by decide)
    exact ⟨⟨(shZ_R ht0.1 hn).trans hl.1.1, shZ_KA hl.1.2⟩, ⟨(shZ_R ht0.1 hn).trans hl.2.1, shZ_KA hl.2.2⟩⟩
  · exact ⟨(shZ_R (lay_11_1 ⟨l0, l1, l2, l3, l4, l5, l6, l7, l8, l9, l10⟩).2.1 (by decide)).trans (l7 q hq).1, shZ_KK (l7 q hq).2⟩
  · exact ⟨(shZ_R (show 73 < sn Z from (l1 (7, 73, 18, 5) (by decide)).2.1) (by decide)).trans (l8 q hq).1, shZ_KK (l8 q hq).2⟩
  · exact ⟨(shZ_R (show 144 < sn Z from (l1 (10, 144, 19, 6) (by decide)).2.1) (by decide)).trans (l9 q hq).1, shZ_KA (l9 q hq).2⟩
  · have h3 : (if 1 = 1 ∧ q = j then some (sn Z) else (if 1 = sn Z then fun _ => none else sR Z 1) q) = some t := hq
    by_cases e : q = j
    · rw [if_pos ⟨rfl, e⟩] at h3
      have e2 : sn Z = t := Option.some.inj h3
      subst e2
      exact ⟨Nat.lt_succ_self _, by show isSh (if sn Z = sn Z then nk k else _); rw [if_pos rfl]; exact isSh_nk k⟩
    · rw [if_neg (fun z => e z.2), if_neg (Nat.ne_of_lt hA.1)] at h3
      exact shZ_KS (l10 q t h3)
