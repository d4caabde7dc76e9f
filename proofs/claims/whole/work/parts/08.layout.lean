theorem ww_nmX {p : Program} {l : Launch} {e : Env} {R : Room} {s : State} {m : MethodId} {args : Array Value} {below : List Frame} {meth : Method} {c : Code} {nL : Nat} {Q : State → Prop} {E : XE} {w : XW} {cells slots z : Nat} {Z : XS} {pc : Nat} {lv : List (Nat × Value)} {rest : List Value} {X X' : XD} (e2 : X' = X) (k : WW p l e R s m args below meth c nL Q E w cells slots z Z pc lv rest X') : WW p l e R s m args below meth c nL Q E w cells slots z Z pc lv rest X := e2 ▸ k
theorem ww_lv {p : Program} {l : Launch} {e : Env} {R : Room} {s : State} {m : MethodId} {args : Array Value} {below : List Frame} {meth : Method} {c : Code} {nL : Nat} {Q : State → Prop} {E : XE} {w : XW} {cells slots z : Nat} {Z : XS} {pc : Nat} {lv lv' : List (Nat × Value)} {rest : List Value} {X : XD} (e2 : lv = lv') (k : WW p l e R s m args below meth c nL Q E w cells slots z Z pc lv' rest X) : WW p l e R s m args below meth c nL Q E w cells slots z Z pc lv rest X := e2 ▸ k
theorem x_lev {k k2 mc ms : Nat} (h : k + 1 ≤ k2) : k + 1 ≤ (rmX k2 mc ms).frames ∧ 60 * (k + 1) ≤ (rmX k2 mc ms).locals := ⟨h, Nat.mul_le_mul_left 60 h⟩
theorem KS.lt {Z : XS} {i : Nat} (h : KS Z i) : sK Z i < 13 := by
  obtain ⟨-, h⟩ := h
  unfold isSh at h
  omega
def tabM : List (Nat × Nat × Nat × Nat) := [(3, 1, 13, 6), (4, 2, 13, 6), (5, 3, 13, 6), (6, 4, 13, 6), (7, 5, 13, 6), (8, 6, 13, 24), (14, 7, 13, 100), (15, 8, 13, 6), (16, 9, 13, 60), (17, 10, 13, 60), (18, 11, 13, 60), (19, 12, 13, 60), (20, 13, 13, 600), (21, 14, 13, 101), (25, 15, 13, 19), (26, 16, 15, 100), (29, 17, 13, 6), (30, 18, 13, 6), (31, 19, 13, 6), (33, 20, 13, 4), (34, 21, 13, 4), (35, 22, 13, 4), (36, 23, 14, 5), (37, 24, 14, 5), (39, 25, 13, 6), (41, 26, 13, 10), (42, 27, 13, 10), (51, 28, 13, 6), (52, 29, 13, 6), (53, 30, 13, 6), (54, 31, 13, 6), (55, 32, 13, 6), (56, 33, 13, 24), (57, 34, 13, 4), (58, 35, 13, 6), (59, 36, 13, 10), (60, 37, 13, 10), (62, 38, 13, 20), (63, 39, 13, 6), (64, 40, 13, 6), (65, 41, 14, 360), (66, 42, 14, 60)]
def LayM (Z : XS) : Prop := KK Z 0 12 ∧ ∀ q ∈ tabM, sR Z 0 q.1 = some q.2.1 ∧ KA Z q.2.1 q.2.2.1 q.2.2.2
theorem lay_12_3 {Z : XS} (hL : LayM Z) : sR Z 0 3 = some 1 ∧ KA Z 1 13 6 := hL.2 (3, 1, 13, 6) (by decide)
theorem lay_12_4 {Z : XS} (hL : LayM Z) : sR Z 0 4 = some 2 ∧ KA Z 2 13 6 := hL.2 (4, 2, 13, 6) (by decide)
theorem lay_12_5 {Z : XS} (hL : LayM Z) : sR Z 0 5 = some 3 ∧ KA Z 3 13 6 := hL.2 (5, 3, 13, 6) (by decide)
theorem lay_12_6 {Z : XS} (hL : LayM Z) : sR Z 0 6 = some 4 ∧ KA Z 4 13 6 := hL.2 (6, 4, 13, 6) (by decide)
theorem lay_12_7 {Z : XS} (hL : LayM Z) : sR Z 0 7 = some 5 ∧ KA Z 5 13 6 := hL.2 (7, 5, 13, 6) (by decide)
theorem lay_12_8 {Z : XS} (hL : LayM Z) : sR Z 0 8 = some 6 ∧ KA Z 6 13 24 := hL.2 (8, 6, 13, 24) (by decide)
theorem lay_12_14 {Z : XS} (hL : LayM Z) : sR Z 0 14 = some 7 ∧ KA Z 7 13 100 := hL.2 (14, 7, 13, 100) (by decide)
theorem lay_12_15 {Z : XS} (hL : LayM Z) : sR Z 0 15 = some 8 ∧ KA Z 8 13 6 := hL.2 (15, 8, 13, 6) (by decide)
theorem lay_12_16 {Z : XS} (hL : LayM Z) : sR Z 0 16 = some 9 ∧ KA Z 9 13 60 := hL.2 (16, 9, 13, 60) (by decide)
theorem lay_12_17 {Z : XS} (hL : LayM Z) : sR Z 0 17 = some 10 ∧ KA Z 10 13 60 := hL.2 (17, 10, 13, 60) (by decide)
theorem lay_12_18 {Z : XS} (hL : LayM Z) : sR Z 0 18 = some 11 ∧ KA Z 11 13 60 := hL.2 (18, 11, 13, 60) (by decide)
theorem lay_12_19 {Z : XS} (hL : LayM Z) : sR Z 0 19 = some 12 ∧ KA Z 12 13 60 := hL.2 (19, 12, 13, 60) (by decide)
theorem lay_12_20 {Z : XS} (hL : LayM Z) : sR Z 0 20 = some 13 ∧ KA Z 13 13 600 := hL.2 (20, 13, 13, 600) (by decide)
theorem lay_12_21 {Z : XS} (hL : LayM Z) : sR Z 0 21 = some 14 ∧ KA Z 14 13 101 := hL.2 (21, 14, 13, 101) (by decide)
theorem lay_12_25 {Z : XS} (hL : LayM Z) : sR Z 0 25 = some 15 ∧ KA Z 15 13 19 := hL.2 (25, 15, 13, 19) (by decide)
theorem lay_12_26 {Z : XS} (hL : LayM Z) : sR Z 0 26 = some 16 ∧ KA Z 16 15 100 := hL.2 (26, 16, 15, 100) (by decide)
theorem lay_12_29 {Z : XS} (hL : LayM Z) : sR Z 0 29 = some 17 ∧ KA Z 17 13 6 := hL.2 (29, 17, 13, 6) (by decide)
theorem lay_12_30 {Z : XS} (hL : LayM Z) : sR Z 0 30 = some 18 ∧ KA Z 18 13 6 := hL.2 (30, 18, 13, 6) (by decide)
theorem lay_12_31 {Z : XS} (hL : LayM Z) : sR Z 0 31 = some 19 ∧ KA Z 19 13 6 := hL.2 (31, 19, 13, 6) (by decide)
theorem lay_12_33 {Z : XS} (hL : LayM Z) : sR Z 0 33 = some 20 ∧ KA Z 20 13 4 := hL.2 (33, 20, 13, 4) (by decide)
theorem lay_12_34 {Z : XS} (hL : LayM Z) : sR Z 0 34 = some 21 ∧ KA Z 21 13 4 := hL.2 (34, 21, 13, 4) (by decide)
theorem lay_12_35 {Z : XS} (hL : LayM Z) : sR Z 0 35 = some 22 ∧ KA Z 22 13 4 := hL.2 (35, 22, 13, 4) (by decide)
theorem lay_12_36 {Z : XS} (hL : LayM Z) : sR Z 0 36 = some 23 ∧ KA Z 23 14 5 := hL.2 (36, 23, 14, 5) (by decide)
theorem lay_12_37 {Z : XS} (hL : LayM Z) : sR Z 0 37 = some 24 ∧ KA Z 24 14 5 := hL.2 (37, 24, 14, 5) (by decide)
theorem lay_12_39 {Z : XS} (hL : LayM Z) : sR Z 0 39 = some 25 ∧ KA Z 25 13 6 := hL.2 (39, 25, 13, 6) (by decide)
theorem lay_12_41 {Z : XS} (hL : LayM Z) : sR Z 0 41 = some 26 ∧ KA Z 26 13 10 := hL.2 (41, 26, 13, 10) (by decide)
theorem lay_12_42 {Z : XS} (hL : LayM Z) : sR Z 0 42 = some 27 ∧ KA Z 27 13 10 := hL.2 (42, 27, 13, 10) (by decide)
theorem lay_12_51 {Z : XS} (hL : LayM Z) : sR Z 0 51 = some 28 ∧ KA Z 28 13 6 := hL.2 (51, 28, 13, 6) (by decide)
theorem lay_12_52 {Z : XS} (hL : LayM Z) : sR Z 0 52 = some 29 ∧ KA Z 29 13 6 := hL.2 (52, 29, 13, 6) (by decide)
theorem lay_12_53 {Z : XS} (hL : LayM Z) : sR Z 0 53 = some 30 ∧ KA Z 30 13 6 := hL.2 (53, 30, 13, 6) (by decide)
theorem lay_12_54 {Z : XS} (hL : LayM Z) : sR Z 0 54 = some 31 ∧ KA Z 31 13 6 := hL.2 (54, 31, 13, 6) (by decide)
theorem lay_12_55 {Z : XS} (hL : LayM Z) : sR Z 0 55 = some 32 ∧ KA Z 32 13 6 := hL.2 (55, 32, 13, 6) (by decide)
theorem lay_12_56 {Z : XS} (hL : LayM Z) : sR Z 0 56 = some 33 ∧ KA Z 33 13 24 := hL.2 (56, 33, 13, 24) (by decide)
theorem lay_12_57 {Z : XS} (hL : LayM Z) : sR Z 0 57 = some 34 ∧ KA Z 34 13 4 := hL.2 (57, 34, 13, 4) (by decide)
theorem lay_12_58 {Z : XS} (hL : LayM Z) : sR Z 0 58 = some 35 ∧ KA Z 35 13 6 := hL.2 (58, 35, 13, 6) (by decide)
theorem lay_12_59 {Z : XS} (hL : LayM Z) : sR Z 0 59 = some 36 ∧ KA Z 36 13 10 := hL.2 (59, 36, 13, 10) (by decide)
theorem lay_12_60 {Z : XS} (hL : LayM Z) : sR Z 0 60 = some 37 ∧ KA Z 37 13 10 := hL.2 (60, 37, 13, 10) (by decide)
theorem lay_12_62 {Z : XS} (hL : LayM Z) : sR Z 0 62 = some 38 ∧ KA Z 38 13 20 := hL.2 (62, 38, 13, 20) (by decide)
theorem lay_12_63 {Z : XS} (hL : LayM Z) : sR Z 0 63 = some 39 ∧ KA Z 39 13 6 := hL.2 (63, 39, 13, 6) (by decide)
theorem lay_12_64 {Z : XS} (hL : LayM Z) : sR Z 0 64 = some 40 ∧ KA Z 40 13 6 := hL.2 (64, 40, 13, 6) (by decide)
theorem lay_12_65 {Z : XS} (hL : LayM Z) : sR Z 0 65 = some 41 ∧ KA Z 41 14 360 := hL.2 (65, 41, 14, 360) (by decide)
theorem lay_12_66 {Z : XS} (hL : LayM Z) : sR Z 0 66 = some 42 ∧ KA Z 42 14 60 := hL.2 (66, 42, 14, 60) (by decide)
def tabCA : List (Nat × Nat × Nat × Nat) := [(0, 1, 17, 6), (1, 2, 16, 6), (7, 73, 18, 5), (10, 144, 19, 6), (11, 151, 13, 6), (12, 152, 13, 6), (13, 153, 14, 5), (14, 154, 14, 5), (15, 155, 13, 4), (16, 156, 13, 4)]
def tabCO : List (Nat × Nat × Nat) := [(3, 45, 3), (4, 47, 6), (5, 60, 6), (8, 139, 9), (9, 142, 3)]
def Lay1 (Z : XS) (t : Nat) : Prop := (sR Z t 0 = some (t + 1) ∧ KA Z (t + 1) 13 10) ∧ (sR Z t 1 = some (t + 2) ∧ KA Z (t + 2) 13 10) ∧ (sR Z t 2 = some (t + 3) ∧ KA Z (t + 3) 13 10) ∧ (sR Z t 3 = some (t + 4) ∧ KA Z (t + 4) 13 10) ∧ (sR Z t 5 = some (t + 5) ∧ KA Z (t + 5) 13 100) ∧ (sR Z t 8 = some (t + 6) ∧ KA Z (t + 6) 13 6)
def Lay3 (Z : XS) (t : Nat) : Prop := (sR Z t 0 = some (t + 1) ∧ KA Z (t + 1) 13 (sL Z (t + 1)))
def Lay6 (Z : XS) (t : Nat) : Prop := (sR Z t 4 = some (t + 1) ∧ KA Z (t + 1) 13 6) ∧ (sR Z t 5 = some (t + 2) ∧ KA Z (t + 2) 13 6) ∧ (sR Z t 6 = some (t + 3) ∧ KA Z (t + 3) 13 6) ∧ (sR Z t 7 = some (t + 4) ∧ KA Z (t + 4) 13 24) ∧ (sR Z t 8 = some (t + 5) ∧ KK Z (t + 5) 3) ∧ (sR Z t 9 = some (t + 7) ∧ KK Z (t + 7) 3) ∧ (sR Z t 10 = some (t + 9) ∧ KK Z (t + 9) 3) ∧ (sR Z t 11 = some (t + 11) ∧ KK Z (t + 11) 3)
def Lay9 (Z : XS) (t : Nat) : Prop := (sR Z t 0 = some (t + 1) ∧ KA Z (t + 1) 13 3) ∧ (sR Z t 1 = some (t + 2) ∧ KA Z (t + 2) 13 3)
def LayC (Z : XS) : Prop := KK Z 0 11 ∧ (∀ q ∈ tabCA, sR Z 0 q.1 = some q.2.1 ∧ KA Z q.2.1 q.2.2.1 q.2.2.2) ∧ (∀ q ∈ tabCO, sR Z 0 q.1 = some q.2.1 ∧ KK Z q.2.1 q.2.2) ∧
  (∀ t, KK Z t 1 → Lay1 Z t) ∧ (∀ t, KK Z t 3 → Lay3 Z t) ∧ (∀ t, KK Z t 6 → Lay6 Z t) ∧ (∀ t, KK Z t 9 → Lay9 Z t) ∧
  (∀ j, j < 6 → sR Z 2 j = some (3 + 7 * j) ∧ KK Z (3 + 7 * j) 1) ∧ (∀ j, j < 5 → sR Z 73 j = some (74 + 13 * j) ∧ KK Z (74 + 13 * j) 6) ∧ (∀ j, j < 6 → sR Z 144 j = some (145 + j) ∧ KA Z (145 + j) 14 60) ∧ (∀ k t, sR Z 1 k = some t → KS Z t)
theorem lay_11_0 {Z : XS} (hL : LayC Z) : sR Z 0 0 = some 1 ∧ KA Z 1 17 6 := hL.2.1 (0, 1, 17, 6) (by decide)
theorem lay_11_1 {Z : XS} (hL : LayC Z) : sR Z 0 1 = some 2 ∧ KA Z 2 16 6 := hL.2.1 (1, 2, 16, 6) (by decide)
theorem lay_11_7 {Z : XS} (hL : LayC Z) : sR Z 0 7 = some 73 ∧ KA Z 73 18 5 := hL.2.1 (7, 73, 18, 5) (by decide)
theorem lay_11_10 {Z : XS} (hL : LayC Z) : sR Z 0 10 = some 144 ∧ KA Z 144 19 6 := hL.2.1 (10, 144, 19, 6) (by decide)
theorem lay_11_11 {Z : XS} (hL : LayC Z) : sR Z 0 11 = some 151 ∧ KA Z 151 13 6 := hL.2.1 (11, 151, 13, 6) (by decide)
theorem lay_11_12 {Z : XS} (hL : LayC Z) : sR Z 0 12 = some 152 ∧ KA Z 152 13 6 := hL.2.1 (12, 152, 13, 6) (by decide)
theorem lay_11_13 {Z : XS} (hL : LayC Z) : sR Z 0 13 = some 153 ∧ KA Z 153 14 5 := hL.2.1 (13, 153, 14, 5) (by decide)
theorem lay_11_14 {Z : XS} (hL : LayC Z) : sR Z 0 14 = some 154 ∧ KA Z 154 14 5 := hL.2.1 (14, 154, 14, 5) (by decide)
theorem lay_11_15 {Z : XS} (hL : LayC Z) : sR Z 0 15 = some 155 ∧ KA Z 155 13 4 := hL.2.1 (15, 155, 13, 4) (by decide)
theorem lay_11_16 {Z : XS} (hL : LayC Z) : sR Z 0 16 = some 156 ∧ KA Z 156 13 4 := hL.2.1 (16, 156, 13, 4) (by decide)
theorem lay_11_3 {Z : XS} (hL : LayC Z) : sR Z 0 3 = some 45 ∧ KK Z 45 3 := hL.2.2.1 (3, 45, 3) (by decide)
theorem lay_11_4 {Z : XS} (hL : LayC Z) : sR Z 0 4 = some 47 ∧ KK Z 47 6 := hL.2.2.1 (4, 47, 6) (by decide)
theorem lay_11_5 {Z : XS} (hL : LayC Z) : sR Z 0 5 = some 60 ∧ KK Z 60 6 := hL.2.2.1 (5, 60, 6) (by decide)
theorem lay_11_8 {Z : XS} (hL : LayC Z) : sR Z 0 8 = some 139 ∧ KK Z 139 9 := hL.2.2.1 (8, 139, 9) (by decide)
theorem lay_11_9 {Z : XS} (hL : LayC Z) : sR Z 0 9 = some 142 ∧ KK Z 142 3 := hL.2.2.1 (9, 142, 3) (by decide)
theorem lay_1_0 {Z : XS} (hL : LayC Z) {t : Nat} (h : KK Z t 1) : sR Z t 0 = some (t + 1) ∧ KA Z (t + 1) 13 10 := (hL.2.2.2.1 t h).1
theorem lay_1_1 {Z : XS} (hL : LayC Z) {t : Nat} (h : KK Z t 1) : sR Z t 1 = some (t + 2) ∧ KA Z (t + 2) 13 10 := (hL.2.2.2.1 t h).2.1
theorem lay_1_2 {Z : XS} (hL : LayC Z) {t : Nat} (h : KK Z t 1) : sR Z t 2 = some (t + 3) ∧ KA Z (t + 3) 13 10 := (hL.2.2.2.1 t h).2.2.1
theorem lay_1_3 {Z : XS} (hL : LayC Z) {t : Nat} (h : KK Z t 1) : sR Z t 3 = some (t + 4) ∧ KA Z (t + 4) 13 10 := (hL.2.2.2.1 t h).2.2.2.1
theorem lay_1_5 {Z : XS} (hL : LayC Z) {t : Nat} (h : KK Z t 1) : sR Z t 5 = some (t + 5) ∧ KA Z (t + 5) 13 100 := (hL.2.2.2.1 t h).2.2.2.2.1
theorem lay_1_8 {Z : XS} (hL : LayC Z) {t : Nat} (h : KK Z t 1) : sR Z t 8 = some (t + 6) ∧ KA Z (t + 6) 13 6 := (hL.2.2.2.1 t h).2.2.2.2.2
theorem lay_3_0 {Z : XS} (hL : LayC Z) {t : Nat} (h : KK Z t 3) : sR Z t 0 = some (t + 1) ∧ KA Z (t + 1) 13 (sL Z (t + 1)) := (hL.2.2.2.2.1 t h)
theorem lay_6_4 {Z : XS} (hL : LayC Z) {t : Nat} (h : KK Z t 6) : sR Z t 4 = some (t + 1) ∧ KA Z (t + 1) 13 6 := (hL.2.2.2.2.2.1 t h).1
theorem lay_6_5 {Z : XS} (hL : LayC Z) {t : Nat} (h : KK Z t 6) : sR Z t 5 = some (t + 2) ∧ KA Z (t + 2) 13 6 := (hL.2.2.2.2.2.1 t h).2.1
theorem lay_6_6 {Z : XS} (hL : LayC Z) {t : Nat} (h : KK Z t 6) : sR Z t 6 = some (t + 3) ∧ KA Z (t + 3) 13 6 := (hL.2.2.2.2.2.1 t h).2.2.1
theorem lay_6_7 {Z : XS} (hL : LayC Z) {t : Nat} (h : KK Z t 6) : sR Z t 7 = some (t + 4) ∧ KA Z (t + 4) 13 24 := (hL.2.2.2.2.2.1 t h).2.2.2.1
theorem lay_6_8 {Z : XS} (hL : LayC Z) {t : Nat} (h : KK Z t 6) : sR Z t 8 = some (t + 5) ∧ KK Z (t + 5) 3 := (hL.2.2.2.2.2.1 t h).2.2.2.2.1
theorem lay_6_9 {Z : XS} (hL : LayC Z) {t : Nat} (h : KK Z t 6) : sR Z t 9 = some (t + 7) ∧ KK Z (t + 7) 3 := (hL.2.2.2.2.2.1 t h).2.2.2.2.2.1
theorem lay_6_10 {Z : XS} (hL : LayC Z) {t : Nat} (h : KK Z t 6) : sR Z t 10 = some (t + 9) ∧ KK Z (t + 9) 3 := (hL.2.2.2.2.2.1 t h).2.2.2.2.2.2.1
theorem lay_6_11 {Z : XS} (hL : LayC Z) {t : Nat} (h : KK Z t 6) : sR Z t 11 = some (t + 11) ∧ KK Z (t + 11) 3 := (hL.2.2.2.2.2.1 t h).2.2.2.2.2.2.2
theorem lay_9_0 {Z : XS} (hL : LayC Z) {t : Nat} (h : KK Z t 9) : sR Z t 0 = some (t + 1) ∧ KA Z (t + 1) 13 3 := (hL.2.2.2.2.2.2.1 t h).1
theorem lay_9_1 {Z : XS} (hL : LayC Z) {t : Nat} (h : KK Z t 9) : sR Z t 1 = some (t + 2) ∧ KA Z (t + 2) 13 3 := (hL.2.2.2.2.2.2.1 t h).2
theorem vp_lt {j : Int32} {n : Nat} (h : vp_in j n) : j.toNatClampNeg < n := Nat.not_le.mp fun q => h (Or.inr q)
theorem lay_el16 {Z : XS} (hL : LayC Z) {j : Int32} (h : vp_in j 6) : sR Z 2 j.toNatClampNeg = some (3 + 7 * j.toNatClampNeg) ∧ KK Z (3 + 7 * j.toNatClampNeg) 1 := hL.2.2.2.2.2.2.2.1 _ (vp_lt h)
theorem lay_el18 {Z : XS} (hL : LayC Z) {j : Int32} (h : vp_in j 5) : sR Z 73 j.toNatClampNeg = some (74 + 13 * j.toNatClampNeg) ∧ KK Z (74 + 13 * j.toNatClampNeg) 6 := hL.2.2.2.2.2.2.2.2.1 _ (vp_lt h)
theorem lay_el19 {Z : XS} (hL : LayC Z) {j : Int32} (h : vp_in j 6) : sR Z 144 j.toNatClampNeg = some (145 + j.toNatClampNeg) ∧ KA Z (145 + j.toNatClampNeg) 14 60 := hL.2.2.2.2.2.2.2.2.2.1 _ (vp_lt h)
theorem lay_sh {Z : XS} (hL : LayC Z) : ∀ (k t : Nat), sR Z 1 k = some t → KS Z t := hL.2.2.2.2.2.2.2.2.2.2
theorem lay_kX11_supposed {Z : XS} (hL : LayC Z) : KK Z 74 6 := (hL.2.2.2.2.2.2.2.2.1 0 (by decide)).2
def isY (Z : XS) (a d : Nat) : Int32 := if sK Z a = d ∨ subX (sK Z a) d = true then 1 else 0
theorem ww_inst {p : Program} {l : Launch} {e : Env} {R : Room} {s : State} {m : MethodId} {args : Array Value} {below : List Frame} {meth : Method} {c : Code} {nL : Nat} {Q : State → Prop} {E : XE} {w : XW} {cells slots z : Nat} {Z : XS} {pc : Nat} {lv : List (Nat × Value)} {rest : List Value} {X : XD} {cc : ByteArray} {own : String} (h : CX p s m args meth c E cc nL own) {a idx : Nat} (d : Nat) (hd : isSh d) (hk : KS Z a) (hw : Cond.classLink own idx (XR d) ∈ xtb) (hdg : decode cc pc = .ok (.instanceof idx, 3))
    (k : WW p l e R s m args below meth c nL Q E w cells slots z Z (pc + 3) lv (.int (isY Z a d) :: rest) X) : WW p l e R s m args below meth c nL Q E w cells slots z Z pc lv (.ref (w.1 a) :: rest) X := by
  intro H locs ls hP hS hl
  have k := k H locs ls hP hS hl
  have hr := va_recv h.2.2.2.2.2.1 hP.1 (ci := sK Z a) (q0 := a) (xCl_at _ hk.lt) ((ws_get hk.1).trans (by rw [ce_o rfl hk.lt]))
  have hlk := h.2.2.2.2.1 _ hw
  unfold isY at k
  by_cases e1 : sK Z a = d
  · rw [if_pos (Or.inl e1)] at k
    have hlt : d < 13 := e1 ▸ hk.lt
    exact va_instS h.1 h.2.1 h.2.2.2.1 hlk (h.2.2.2.2.2.1.1 d _ (xCl_at d hlt)).2 (by rw [e1] at hr; exact hr) hdg k
  · have q := h.2.2.2.2.2.2.2.2.2.2.2.2.1 _ _ hk.2 hd e1
    by_cases e2 : subX (sK Z a) d = true
    · rw [if_pos (Or.inr e2)] at k
      rw [if_pos e2] at q
      exact va_instY h.1 h.2.1 h.2.2.2.1 hlk q hr hdg k
    · rw [if_neg (fun z => z.elim e1 e2)] at k
      rw [if_neg e2] at q
      exact va_instNo h.1 h.2.1 h.2.2.2.1 hlk q hr hdg k
