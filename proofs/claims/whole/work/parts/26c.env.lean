set_option maxHeartbeats 40000000
set_option maxRecDepth 100000
theorem env_str {s : State} {args : Array Value} {A : Nat → Prop} (hgv : ∀ w ∈ flatC (Cond.and given_1 narrow_1), w.before args s = true) (hA : ∀ a : Nat, a < s.heap.size → ¬ A a) : ∃ adK adV : Nat → Nat, vk_S 7 xLen xByt adK adV A s s.heap ∧ ∀ i : Nat, i < 7 → (xTerm i).eval args s none [] s = some (.ref (adK i)) := by
  refine vk_Sof (tm := xTerm) ?_ ?_ ?_ ?_ ?_ ?_ ?_ hA
  · decide
  · intro i hi
    rcases (show i = 0 ∨ i = 1 ∨ i = 2 ∨ i = 3 ∨ i = 4 ∨ i = 5 ∨ i = 6 by omega) with rfl | rfl | rfl | rfl | rfl | rfl | rfl
    · exact hgv (Cond.exactly (Term.string "FootKeeper$Ground" 87) "java/lang/String") (by decide +kernel)
    · exact hgv (Cond.exactly (Term.string "FootKeeper$Ground" 89) "java/lang/String") (by decide +kernel)
    · exact hgv (Cond.exactly (Term.string "FootKeeper$Ground" 91) "java/lang/String") (by decide +kernel)
    · exact hgv (Cond.exactly (Term.string "FootKeeper$Ground" 93) "java/lang/String") (by decide +kernel)
    · exact hgv (Cond.exactly (Term.string "FootKeeper$Ground" 95) "java/lang/String") (by decide +kernel)
    · exact hgv (Cond.exactly (Term.string "FootKeeper$Ground" 117) "java/lang/String") (by decide +kernel)
    · exact hgv (Cond.exactly (Term.string "FootKeeper$Ground" 122) "java/lang/String") (by decide +kernel)
  · intro i hi
    rcases (show i = 0 ∨ i = 1 ∨ i = 2 ∨ i = 3 ∨ i = 4 ∨ i = 5 ∨ i = 6 by omega) with rfl | rfl | rfl | rfl | rfl | rfl | rfl
    · exact hgv (Cond.eq (Term.field (Term.string "FootKeeper$Ground" 87) "java/lang/String" "coder" "B") (Term.int 0)) (by decide +kernel)
    · exact hgv (Cond.eq (Term.field (Term.string "FootKeeper$Ground" 89) "java/lang/String" "coder" "B") (Term.int 0)) (by decide +kernel)
    · exact hgv (Cond.eq (Term.field (Term.string "FootKeeper$Ground" 91) "java/lang/String" "coder" "B") (Term.int 0)) (by decide +kernel)
    · exact hgv (Cond.eq (Term.field (Term.string "FootKeeper$Ground" 93) "java/lang/String" "coder" "B") (Term.int 0)) (by decide +kernel)
    · exact hgv (Cond.eq (Term.field (Term.string "FootKeeper$Ground" 95) "java/lang/String" "coder" "B") (Term.int 0)) (by decide +kernel)
    · exact hgv (Cond.eq (Term.field (Term.string "FootKeeper$Ground" 117) "java/lang/String" "coder" "B") (Term.int 0)) (by decide +kernel)
    · exact hgv (Cond.eq (Term.field (Term.string "FootKeeper$Ground" 122) "java/lang/String" "coder" "B") (Term.int 0)) (by decide +kernel)
  · intro i hi
    rcases (show i = 0 ∨ i = 1 ∨ i = 2 ∨ i = 3 ∨ i = 4 ∨ i = 5 ∨ i = 6 by omega) with rfl | rfl | rfl | rfl | rfl | rfl | rfl
    · exact hgv (Cond.arrayOf (Term.field (Term.string "FootKeeper$Ground" 87) "java/lang/String" "value" "[B") .byte) (by decide +kernel)
    · exact hgv (Cond.arrayOf (Term.field (Term.string "FootKeeper$Ground" 89) "java/lang/String" "value" "[B") .byte) (by decide +kernel)
    · exact hgv (Cond.arrayOf (Term.field (Term.string "FootKeeper$Ground" 91) "java/lang/String" "value" "[B") .byte) (by decide +kernel)
    · exact hgv (Cond.arrayOf (Term.field (Term.string "FootKeeper$Ground" 93) "java/lang/String" "value" "[B") .byte) (by decide +kernel)
    · exact hgv (Cond.arrayOf (Term.field (Term.string "FootKeeper$Ground" 95) "java/lang/String" "value" "[B") .byte) (by decide +kernel)
    · exact hgv (Cond.arrayOf (Term.field (Term.string "FootKeeper$Ground" 117) "java/lang/String" "value" "[B") .byte) (by decide +kernel)
    · exact hgv (Cond.arrayOf (Term.field (Term.string "FootKeeper$Ground" 122) "java/lang/String" "value" "[B") .byte) (by decide +kernel)
  · intro i hi
    rcases (show i = 0 ∨ i = 1 ∨ i = 2 ∨ i = 3 ∨ i = 4 ∨ i = 5 ∨ i = 6 by omega) with rfl | rfl | rfl | rfl | rfl | rfl | rfl
    · exact hgv (Cond.eq (Term.length (Term.field (Term.string "FootKeeper$Ground" 87) "java/lang/String" "value" "[B")) (Term.int 2)) (by decide +kernel)
    · exact hgv (Cond.eq (Term.length (Term.field (Term.string "FootKeeper$Ground" 89) "java/lang/String" "value" "[B")) (Term.int 4)) (by decide +kernel)
    · exact hgv (Cond.eq (Term.length (Term.field (Term.string "FootKeeper$Ground" 91) "java/lang/String" "value" "[B")) (Term.int 4)) (by decide +kernel)
    · exact hgv (Cond.eq (Term.length (Term.field (Term.string "FootKeeper$Ground" 93) "java/lang/String" "value" "[B")) (Term.int 5)) (by decide +kernel)
    · exact hgv (Cond.eq (Term.length (Term.field (Term.string "FootKeeper$Ground" 95) "java/lang/String" "value" "[B")) (Term.int 4)) (by decide +kernel)
    · exact hgv (Cond.eq (Term.length (Term.field (Term.string "FootKeeper$Ground" 117) "java/lang/String" "value" "[B")) (Term.int 6)) (by decide +kernel)
    · exact hgv (Cond.eq (Term.length (Term.field (Term.string "FootKeeper$Ground" 122) "java/lang/String" "value" "[B")) (Term.int 3)) (by decide +kernel)
  · intro i hi j hj
    rcases (show i = 0 ∨ i = 1 ∨ i = 2 ∨ i = 3 ∨ i = 4 ∨ i = 5 ∨ i = 6 by omega) with rfl | rfl | rfl | rfl | rfl | rfl | rfl
    · have hj : j < 2 := hj
      rcases (show j = 0 ∨ j = 1 by omega) with rfl | rfl
      · exact hgv (Cond.eq (Term.elem (Term.field (Term.string "FootKeeper$Ground" 87) "java/lang/String" "value" "[B") (Term.int 0)) (Term.int 105)) (by decide +kernel)
      · exact hgv (Cond.eq (Term.elem (Term.field (Term.string "FootKeeper$Ground" 87) "java/lang/String" "value" "[B") (Term.int 1)) (Term.int 110)) (by decide +kernel)
    · have hj : j < 4 := hj
      rcases (show j = 0 ∨ j = 1 ∨ j = 2 ∨ j = 3 by omega) with rfl | rfl | rfl | rfl
      · exact hgv (Cond.eq (Term.elem (Term.field (Term.string "FootKeeper$Ground" 89) "java/lang/String" "value" "[B") (Term.int 0)) (Term.int 115)) (by decide +kernel)
      · exact hgv (Cond.eq (Term.elem (Term.field (Term.string "FootKeeper$Ground" 89) "java/lang/String" "value" "[B") (Term.int 1)) (Term.int 97)) (by decide +kernel)
      · exact hgv (Cond.eq (Term.elem (Term.field (Term.string "FootKeeper$Ground" 89) "java/lang/String" "value" "[B") (Term.int 2)) (Term.int 118)) (by decide +kernel)
      · exact hgv (Cond.eq (Term.elem (Term.field (Term.string "FootKeeper$Ground" 89) "java/lang/String" "value" "[B") (Term.int 3)) (Term.int 101)) (by decide +kernel)
    · have hj : j < 4 := hj
      rcases (show j = 0 ∨ j = 1 ∨ j = 2 ∨ j = 3 by omega) with rfl | rfl | rfl | rfl
      · exact hgv (Cond.eq (Term.elem (Term.field (Term.string "FootKeeper$Ground" 91) "java/lang/String" "value" "[B") (Term.int 0)) (Term.int 108)) (by decide +kernel)
      · exact hgv (Cond.eq (Term.elem (Term.field (Term.string "FootKeeper$Ground" 91) "java/lang/String" "value" "[B") (Term.int 1)) (Term.int 101)) (by decide +kernel)
      · exact hgv (Cond.eq (Term.elem (Term.field (Term.string "FootKeeper$Ground" 91) "java/lang/String" "value" "[B") (Term.int 2)) (Term.int 102)) (by decide +kernel)
      · exact hgv (Cond.eq (Term.elem (Term.field (Term.string "FootKeeper$Ground" 91) "java/lang/String" "value" "[B") (Term.int 3)) (Term.int 116)) (by decide +kernel)
    · have hj : j < 5 := hj
      rcases (show j = 0 ∨ j = 1 ∨ j = 2 ∨ j = 3 ∨ j = 4 by omega) with rfl | rfl | rfl | rfl | rfl
      · exact hgv (Cond.eq (Term.elem (Term.field (Term.string "FootKeeper$Ground" 93) "java/lang/String" "value" "[B") (Term.int 0)) (Term.int 114)) (by decide +kernel)
      · exact hgv (Cond.eq (Term.elem (Term.field (Term.string "FootKeeper$Ground" 93) "java/lang/String" "value" "[B") (Term.int 1)) (Term.int 105)) (by decide +kernel)
      · exact hgv (Cond.eq (Term.elem (Term.field (Term.string "FootKeeper$Ground" 93) "java/lang/String" "value" "[B") (Term.int 2)) (Term.int 103)) (by decide +kernel)
      · exact hgv (Cond.eq (Term.elem (Term.field (Term.string "FootKeeper$Ground" 93) "java/lang/String" "value" "[B") (Term.int 3)) (Term.int 104)) (by decide +kernel)
      · exact hgv (Cond.eq (Term.elem (Term.field (Term.string "FootKeeper$Ground" 93) "java/lang/String" "value" "[B") (Term.int 4)) (Term.int 116)) (by decide +kernel)
    · have hj : j < 4 := hj
      rcases (show j = 0 ∨ j = 1 ∨ j = 2 ∨ j = 3 by omega) with rfl | rfl | rfl | rfl
      · exact hgv (Cond.eq (Term.elem (Term.field (Term.string "FootKeeper$Ground" 95) "java/lang/String" "value" "[B") (Term.int 0)) (Term.int 115)) (by decide +kernel)
      · exact hgv (Cond.eq (Term.elem (Term.field (Term.string "FootKeeper$Ground" 95) "java/lang/String" "value" "[B") (Term.int 1)) (Term.int 116)) (by decide +kernel)
      · exact hgv (Cond.eq (Term.elem (Term.field (Term.string "FootKeeper$Ground" 95) "java/lang/String" "value" "[B") (Term.int 2)) (Term.int 97)) (by decide +kernel)
      · exact hgv (Cond.eq (Term.elem (Term.field (Term.string "FootKeeper$Ground" 95) "java/lang/String" "value" "[B") (Term.int 3)) (Term.int 121)) (by decide +kernel)
    · have hj : j < 6 := hj
      rcases (show j = 0 ∨ j = 1 ∨ j = 2 ∨ j = 3 ∨ j = 4 ∨ j = 5 by omega) with rfl | rfl | rfl | rfl | rfl | rfl
      · exact hgv (Cond.eq (Term.elem (Term.field (Term.string "FootKeeper$Ground" 117) "java/lang/String" "value" "[B") (Term.int 0)) (Term.int 112)) (by decide +kernel)
      · exact hgv (Cond.eq (Term.elem (Term.field (Term.string "FootKeeper$Ground" 117) "java/lang/String" "value" "[B") (Term.int 1)) (Term.int 107)) (by decide +kernel)
      · exact hgv (Cond.eq (Term.elem (Term.field (Term.string "FootKeeper$Ground" 117) "java/lang/String" "value" "[B") (Term.int 2)) (Term.int 115)) (by decide +kernel)
      · exact hgv (Cond.eq (Term.elem (Term.field (Term.string "FootKeeper$Ground" 117) "java/lang/String" "value" "[B") (Term.int 3)) (Term.int 110)) (by decide +kernel)
      · exact hgv (Cond.eq (Term.elem (Term.field (Term.string "FootKeeper$Ground" 117) "java/lang/String" "value" "[B") (Term.int 4)) (Term.int 103)) (by decide +kernel)
      · exact hgv (Cond.eq (Term.elem (Term.field (Term.string "FootKeeper$Ground" 117) "java/lang/String" "value" "[B") (Term.int 5)) (Term.int 97)) (by decide +kernel)
    · have hj : j < 3 := hj
      rcases (show j = 0 ∨ j = 1 ∨ j = 2 by omega) with rfl | rfl | rfl
      · exact hgv (Cond.eq (Term.elem (Term.field (Term.string "FootKeeper$Ground" 122) "java/lang/String" "value" "[B") (Term.int 0)) (Term.int 60)) (by decide +kernel)
      · exact hgv (Cond.eq (Term.elem (Term.field (Term.string "FootKeeper$Ground" 122) "java/lang/String" "value" "[B") (Term.int 1)) (Term.int 61)) (by decide +kernel)
      · exact hgv (Cond.eq (Term.elem (Term.field (Term.string "FootKeeper$Ground" 122) "java/lang/String" "value" "[B") (Term.int 2)) (Term.int 62)) (by decide +kernel)
  · intro i j hi hj hn
    rcases (show i = 0 ∨ i = 1 ∨ i = 2 ∨ i = 3 ∨ i = 4 ∨ i = 5 ∨ i = 6 by omega) with rfl | rfl | rfl | rfl | rfl | rfl | rfl
    · rcases (show j = 0 ∨ j = 1 ∨ j = 2 ∨ j = 3 ∨ j = 4 ∨ j = 5 ∨ j = 6 by omega) with rfl | rfl | rfl | rfl | rfl | rfl | rfl
      · exact absurd rfl hn
      · exact Or.inl (hgv (Cond.not (Cond.eq (Term.string "FootKeeper$Ground" 87) (Term.string "FootKeeper$Ground" 89))) (by decide +kernel))
      · exact Or.inl (hgv (Cond.not (Cond.eq (Term.string "FootKeeper$Ground" 87) (Term.string "FootKeeper$Ground" 91))) (by decide +kernel))
      · exact Or.inl (hgv (Cond.not (Cond.eq (Term.string "FootKeeper$Ground" 87) (Term.string "FootKeeper$Ground" 93))) (by decide +kernel))
      · exact Or.inl (hgv (Cond.not (Cond.eq (Term.string "FootKeeper$Ground" 87) (Term.string "FootKeeper$Ground" 95))) (by decide +kernel))
      · exact Or.inl (hgv (Cond.not (Cond.eq (Term.string "FootKeeper$Ground" 87) (Term.string "FootKeeper$Ground" 117))) (by decide +kernel))
      · exact Or.inl (hgv (Cond.not (Cond.eq (Term.string "FootKeeper$Ground" 87) (Term.string "FootKeeper$Ground" 122))) (by decide +kernel))
    · rcases (show j = 0 ∨ j = 1 ∨ j = 2 ∨ j = 3 ∨ j = 4 ∨ j = 5 ∨ j = 6 by omega) with rfl | rfl | rfl | rfl | rfl | rfl | rfl
      · exact Or.inr (hgv (Cond.not (Cond.eq (Term.string "FootKeeper$Ground" 87) (Term.string "FootKeeper$Ground" 89))) (by decide +kernel))
      · exact absurd rfl hn
      · exact Or.inl (hgv (Cond.not (Cond.eq (Term.string "FootKeeper$Ground" 89) (Term.string "FootKeeper$Ground" 91))) (by decide +kernel))
      · exact Or.inl (hgv (Cond.not (Cond.eq (Term.string "FootKeeper$Ground" 89) (Term.string "FootKeeper$Ground" 93))) (by decide +kernel))
      · exact Or.inl (hgv (Cond.not (Cond.eq (Term.string "FootKeeper$Ground" 89) (Term.string "FootKeeper$Ground" 95))) (by decide +kernel))
      · exact Or.inl (hgv (Cond.not (Cond.eq (Term.string "FootKeeper$Ground" 89) (Term.string "FootKeeper$Ground" 117))) (by decide +kernel))
      · exact Or.inl (hgv (Cond.not (Cond.eq (Term.string "FootKeeper$Ground" 89) (Term.string "FootKeeper$Ground" 122))) (by decide +kernel))
    · rcases (show j = 0 ∨ j = 1 ∨ j = 2 ∨ j = 3 ∨ j = 4 ∨ j = 5 ∨ j = 6 by omega) with rfl | rfl | rfl | rfl | rfl | rfl | rfl
      · exact Or.inr (hgv (Cond.not (Cond.eq (Term.string "FootKeeper$Ground" 87) (Term.string "FootKeeper$Ground" 91))) (by decide +kernel))
      · exact Or.inr (hgv (Cond.not (Cond.eq (Term.string "FootKeeper$Ground" 89) (Term.string "FootKeeper$Ground" 91))) (by decide +kernel))
      · exact absurd rfl hn
      · exact Or.inl (hgv (Cond.not (Cond.eq (Term.string "FootKeeper$Ground" 91) (Term.string "FootKeeper$Ground" 93))) (by decide +kernel))
      · exact Or.inl (hgv (Cond.not (Cond.eq (Term.string "FootKeeper$Ground" 91) (Term.string "FootKeeper$Ground" 95))) (by decide +kernel))
      · exact Or.inl (hgv (Cond.not (Cond.eq (Term.string "FootKeeper$Ground" 91) (Term.string "FootKeeper$Ground" 117))) (by decide +kernel))
      · exact Or.inl (hgv (Cond.not (Cond.eq (Term.string "FootKeeper$Ground" 91) (Term.string "FootKeeper$Ground" 122))) (by decide +kernel))
    · rcases (show j = 0 ∨ j = 1 ∨ j = 2 ∨ j = 3 ∨ j = 4 ∨ j = 5 ∨ j = 6 by omega) with rfl | rfl | rfl | rfl | rfl | rfl | rfl
      · exact Or.inr (hgv (Cond.not (Cond.eq (Term.string "FootKeeper$Ground" 87) (Term.string "FootKeeper$Ground" 93))) (by decide +kernel))
      · exact Or.inr (hgv (Cond.not (Cond.eq (Term.string "FootKeeper$Ground" 89) (Term.string "FootKeeper$Ground" 93))) (by decide +kernel))
      · exact Or.inr (hgv (Cond.not (Cond.eq (Term.string "FootKeeper$Ground" 91) (Term.string "FootKeeper$Ground" 93))) (by decide +kernel))
      · exact absurd rfl hn
      · exact Or.inl (hgv (Cond.not (Cond.eq (Term.string "FootKeeper$Ground" 93) (Term.string "FootKeeper$Ground" 95))) (by decide +kernel))
      · exact Or.inl (hgv (Cond.not (Cond.eq (Term.string "FootKeeper$Ground" 93) (Term.string "FootKeeper$Ground" 117))) (by decide +kernel))
      · exact Or.inl (hgv (Cond.not (Cond.eq (Term.string "FootKeeper$Ground" 93) (Term.string "FootKeeper$Ground" 122))) (by decide +kernel))
    · rcases (show j = 0 ∨ j = 1 ∨ j = 2 ∨ j = 3 ∨ j = 4 ∨ j = 5 ∨ j = 6 by omega) with rfl | rfl | rfl | rfl | rfl | rfl | rfl
      · exact Or.inr (hgv (Cond.not (Cond.eq (Term.string "FootKeeper$Ground" 87) (Term.string "FootKeeper$Ground" 95))) (by decide +kernel))
      · exact Or.inr (hgv (Cond.not (Cond.eq (Term.string "FootKeeper$Ground" 89) (Term.string "FootKeeper$Ground" 95))) (by decide +kernel))
      · exact Or.inr (hgv (Cond.not (Cond.eq (Term.string "FootKeeper$Ground" 91) (Term.string "FootKeeper$Ground" 95))) (by decide +kernel))
      · exact Or.inr (hgv (Cond.not (Cond.eq (Term.string "FootKeeper$Ground" 93) (Term.string "FootKeeper$Ground" 95))) (by decide +kernel))
      · exact absurd rfl hn
      · exact Or.inl (hgv (Cond.not (Cond.eq (Term.string "FootKeeper$Ground" 95) (Term.string "FootKeeper$Ground" 117))) (by decide +kernel))
      · exact Or.inl (hgv (Cond.not (Cond.eq (Term.string "FootKeeper$Ground" 95) (Term.string "FootKeeper$Ground" 122))) (by decide +kernel))
    · rcases (show j = 0 ∨ j = 1 ∨ j = 2 ∨ j = 3 ∨ j = 4 ∨ j = 5 ∨ j = 6 by omega) with rfl | rfl | rfl | rfl | rfl | rfl | rfl
      · exact Or.inr (hgv (Cond.not (Cond.eq (Term.string "FootKeeper$Ground" 87) (Term.string "FootKeeper$Ground" 117))) (by decide +kernel))
      · exact Or.inr (hgv (Cond.not (Cond.eq (Term.string "FootKeeper$Ground" 89) (Term.string "FootKeeper$Ground" 117))) (by decide +kernel))
      · exact Or.inr (hgv (Cond.not (Cond.eq (Term.string "FootKeeper$Ground" 91) (Term.string "FootKeeper$Ground" 117))) (by decide +kernel))
      · exact Or.inr (hgv (Cond.not (Cond.eq (Term.string "FootKeeper$Ground" 93) (Term.string "FootKeeper$Ground" 117))) (by decide +kernel))
      · exact Or.inr (hgv (Cond.not (Cond.eq (Term.string "FootKeeper$Ground" 95) (Term.string "FootKeeper$Ground" 117))) (by decide +kernel))
      · exact absurd rfl hn
      · exact Or.inl (hgv (Cond.not (Cond.eq (Term.string "FootKeeper$Ground" 117) (Term.string "FootKeeper$Ground" 122))) (by decide +kernel))
    · rcases (show j = 0 ∨ j = 1 ∨ j = 2 ∨ j = 3 ∨ j = 4 ∨ j = 5 ∨ j = 6 by omega) with rfl | rfl | rfl | rfl | rfl | rfl | rfl
      · exact Or.inr (hgv (Cond.not (Cond.eq (Term.string "FootKeeper$Ground" 87) (Term.string "FootKeeper$Ground" 122))) (by decide +kernel))
      · exact Or.inr (hgv (Cond.not (Cond.eq (Term.string "FootKeeper$Ground" 89) (Term.string "FootKeeper$Ground" 122))) (by decide +kernel))
      · exact Or.inr (hgv (Cond.not (Cond.eq (Term.string "FootKeeper$Ground" 91) (Term.string "FootKeeper$Ground" 122))) (by decide +kernel))
      · exact Or.inr (hgv (Cond.not (Cond.eq (Term.string "FootKeeper$Ground" 93) (Term.string "FootKeeper$Ground" 122))) (by decide +kernel))
      · exact Or.inr (hgv (Cond.not (Cond.eq (Term.string "FootKeeper$Ground" 95) (Term.string "FootKeeper$Ground" 122))) (by decide +kernel))
      · exact Or.inr (hgv (Cond.not (Cond.eq (Term.string "FootKeeper$Ground" 117) (Term.string "FootKeeper$Ground" 122))) (by decide +kernel))
      · exact absurd rfl hn
theorem env_ref {s : State} {args : Array Value} (hts : ∀ w ∈ lw_tbl, w.before args s = true) {adK : Nat → Nat} (h : ∀ i : Nat, i < 7 → (xTerm i).eval args s none [] s = some (.ref (adK i))) : ∀ i : Nat, i < 7 → vk_R "FootKeeper$Ground" (xEnt i) (xTx i) (adK i) s := by
  intro i hi
  refine vk_R.of (A := args) ?_ (h i hi)
  rcases (show i = 0 ∨ i = 1 ∨ i = 2 ∨ i = 3 ∨ i = 4 ∨ i = 5 ∨ i = 6 by omega) with rfl | rfl | rfl | rfl | rfl | rfl | rfl
  · exact (hts _ (List.mem_of_getElem? (i := 601) (by rfl)))
  · exact (hts _ (List.mem_of_getElem? (i := 602) (by rfl)))
  · exact (hts _ (List.mem_of_getElem? (i := 603) (by rfl)))
  · exact (hts _ (List.mem_of_getElem? (i := 604) (by rfl)))
  · exact (hts _ (List.mem_of_getElem? (i := 605) (by rfl)))
  · exact (hts _ (List.mem_of_getElem? (i := 693) (by rfl)))
  · exact (hts _ (List.mem_of_getElem? (i := 753) (by rfl)))
theorem env_all {s : State} {args : Array Value} (hts : ∀ w ∈ lw_tbl, w.before args s = true) (hgv : ∀ w ∈ flatC (Cond.and given_1 narrow_1), w.before args s = true) : ∃ E : XE, E.2.2.1 = s.heap.size ∧ va_K E.1 xCl (xTys E) s ∧ ES E s s.heap := by
  obtain ⟨D, hD⟩ := env_kn hts
  obtain ⟨g, hg⟩ := env_ar hts
  have hA : ∀ a : Nat, a < s.heap.size → ¬ (fun q : Nat => s.heap.size ≤ q) a := fun a h h2 => absurd h (Nat.not_lt.mpr h2)
  obtain ⟨adK, adV, hS, hT⟩ := env_str hgv hA
  refine ⟨(D, g, s.heap.size, adK, adV), rfl, ⟨hD, fun k q hk => ?_⟩, hS, ?_, env_ref hts hT, ?_, env_cast hts hgv, ?_, ?_, ?_, ?_⟩
  · have hl : k < 20 := by
      have := (List.getElem?_eq_some_iff.mp hk).1
      simpa [xTys] using this
    have e : q = if k < 13 then (g 13, xTy 13) else (g k, xTy k) := by
      simp [xTys, hl] at hk
      exact hk.symm
    by_cases h : k < 13
    · rw [if_pos h] at e
      rw [e]
      exact hg 13 (by decide) (by decide)
    · rw [if_neg h] at e
      rw [e]
      exact hg k (by omega) hl
  · exact va_Zof (hts _ (List.mem_of_getElem? (i := 619) (by rfl))) (hts _ (List.mem_of_getElem? (i := 104) (by rfl))) (va_eqt (hgv (Cond.eq (Term.static "java/lang/String" "COMPACT_STRINGS" "Z") (Term.int 1)) (by decide +kernel))) hA
  · exact va_Zqof (hts _ (List.mem_of_getElem? (i := 639) (by rfl))) (hts _ (List.mem_of_getElem? (i := 106) (by rfl))) (hgv (Cond.isRef (Term.static "jdk/internal/util/Preconditions" "SIOOBE_FORMATTER" "Ljava/util/function/BiFunction;")) (by decide +kernel)) hA
  · exact va_AO.of (hts _ (List.mem_of_getElem? (i := 119) (by rfl)))
  · exact va_AO.of (hts _ (List.mem_of_getElem? (i := 121) (by rfl)))
  · exact va_AO.of (hts _ (List.mem_of_getElem? (i := 236) (by rfl)))
  · exact (hts _ (List.mem_of_getElem? (i := 257) (by rfl)))
