/-! what the law's entry knows, as an environment -/
set_option maxHeartbeats 40000000
set_option maxRecDepth 100000
theorem arrC {U : State} {A : Array Value} {t : FieldType} (h : (Cond.arrayClass t).before A U = true) : ∃ c : ClassId, ArrOfT U c t ∧ U.vm.findClass ("[" ++ t.toString) = some c := by
  obtain ⟨c, k, comp, h1, h2, h3⟩ := Cond.arrayClass_spec h
  exact ⟨c, fun n z => ⟨fun k h => (by cases h), k, h2, comp, h3⟩, h1⟩
theorem arrO {U : State} {A : Array Value} {C : String} (h : (Cond.arrayOver (.object C)).before A U = true) : ∃ c : ClassId, ArrOfT U c (.object C) ∧ va_RA U c (.object C) := by
  obtain ⟨comp, c, k, h1, h2, h3, h4, h5⟩ := Cond.arrayOver_spec h
  exact ⟨c, fun n z => ⟨fun k h => (by cases h), k, h3, comp, h4⟩, k, comp, h3, h4, h1, h5⟩
theorem arrA {U : State} {A : Array Value} {t : FieldType} (h : (Cond.arrayOver (.array t)).before A U = true) : ∃ c : ClassId, ArrOfT U c (.array t) ∧ U.vm.findClass ("[" ++ (FieldType.array t).toString) = some c := by
  obtain ⟨comp, c, k, h1, h2, h3, h4, h5⟩ := arrayOverA_spec h
  exact ⟨c, fun n z => ⟨fun k h => (by cases h), k, h3, comp, h4⟩, h5⟩
def xTerm : Nat → Term := fun i => .string "FootKeeper$Ground" (xEnt i)
theorem env_kn {s : State} {args : Array Value} (hts : ∀ w ∈ lw_tbl, w.before args s = true) : ∃ D : va_G, ∀ (c : Nat) (q : vw_C), xCl[c]? = some q → u_Kn s q.1 q.2.1 q.2.2 (D.1 c) (D.2 c) := by
  have hx : ∀ w ∈ xtb, w.before args s = true := fun w hw => hts w (xtb_lw hw)
  have h0 : ∀ c : Nat, ∃ q : ClassId × (Nat → Nat), c < 13 → u_Kn s (XR c) (XT c) (XN c) q.1 q.2 := by
    intro c
    by_cases hc : c < 13
    · have hi : ∃ n, (Cond.instantiable (XR c) n).before args s = true := by
        rcases (show c = 0 ∨ c = 1 ∨ c = 2 ∨ c = 3 ∨ c = 4 ∨ c = 5 ∨ c = 6 ∨ c = 7 ∨ c = 8 ∨ c = 9 ∨ c = 10 ∨ c = 11 ∨ c = 12 by omega) with rfl | rfl | rfl | rfl | rfl | rfl | rfl | rfl | rfl | rfl | rfl | rfl | rfl
        · exact ⟨2, hts _ (List.mem_of_getElem? (i := 369) (by rfl))⟩
        · exact ⟨9, hts _ (List.mem_of_getElem? (i := 122) (by rfl))⟩
        · exact ⟨2, hts _ (List.mem_of_getElem? (i := 378) (by rfl))⟩
        · exact ⟨3, hts _ (List.mem_of_getElem? (i := 157) (by rfl))⟩
        · exact ⟨2, hts _ (List.mem_of_getElem? (i := 395) (by rfl))⟩
        · exact ⟨2, hts _ (List.mem_of_getElem? (i := 351) (by rfl))⟩
        · exact ⟨12, hts _ (List.mem_of_getElem? (i := 179) (by rfl))⟩
        · exact ⟨2, hts _ (List.mem_of_getElem? (i := 387) (by rfl))⟩
        · exact ⟨2, hts _ (List.mem_of_getElem? (i := 320) (by rfl))⟩
        · exact ⟨3, hts _ (List.mem_of_getElem? (i := 238) (by rfl))⟩
        · exact ⟨2, hts _ (List.mem_of_getElem? (i := 360) (by rfl))⟩
        · exact ⟨17, hts _ (List.mem_of_getElem? (i := 111) (by rfl))⟩
        · exact ⟨67, hts _ (List.mem_of_getElem? (i := 1082) (by rfl))⟩
      obtain ⟨n, hi⟩ := hi
      obtain ⟨cC, iS, h⟩ := u_known hx (xL_in c hc) hi
      exact ⟨(cC, iS), fun _ => h⟩
    · exact ⟨(0, fun _ => 0), fun h => absurd h hc⟩
  obtain ⟨f, hf⟩ := Classical.axiomOfChoice h0
  refine ⟨(fun c => (f c).1, fun c => (f c).2), fun c q hq => ?_⟩
  have hc : c < 13 := (List.getElem?_eq_some_iff.mp hq).1
  have h1 := hf c hc
  rw [xCl_at c hc] at hq
  cases hq
  exact h1
theorem env_ar {s : State} {args : Array Value} (hts : ∀ w ∈ lw_tbl, w.before args s = true) : ∃ g : Nat → ClassId, ∀ d, 13 ≤ d → d < 20 → ArrOfT s (g d) (xTy d) ∧ va_RA s (g d) (xTy d) := by
  obtain ⟨c13, h13, i13⟩ := arrC (hts _ (List.mem_of_getElem? (i := 155) (by rfl)))
  obtain ⟨c14, h14, i14⟩ := arrC (hts _ (List.mem_of_getElem? (i := 311) (by rfl)))
  obtain ⟨c15, h15, i15⟩ := arrC (hts _ (List.mem_of_getElem? (i := 1289) (by rfl)))
  obtain ⟨c16, h16, i16⟩ := arrO (hts _ (List.mem_of_getElem? (i := 121) (by rfl)))
  obtain ⟨c17, h17, i17⟩ := arrO (hts _ (List.mem_of_getElem? (i := 119) (by rfl)))
  obtain ⟨c18, h18, i18⟩ := arrO (hts _ (List.mem_of_getElem? (i := 236) (by rfl)))
  obtain ⟨c19, h19, i19⟩ := arrA (hts _ (List.mem_of_getElem? (i := 257) (by rfl)))
  refine ⟨fun d => if d = 13 then c13 else if d = 14 then c14 else if d = 15 then c15 else if d = 16 then c16 else if d = 17 then c17 else if d = 18 then c18 else c19, fun d h1 h2 => ?_⟩
  rcases (show d = 13 ∨ d = 14 ∨ d = 15 ∨ d = 16 ∨ d = 17 ∨ d = 18 ∨ d = 19 by omega) with rfl | rfl | rfl | rfl | rfl | rfl | rfl
  · exact ⟨h13, i13⟩
  · exact ⟨h14, i14⟩
  · exact ⟨h15, i15⟩
  · exact ⟨h16, i16⟩
  · exact ⟨h17, i17⟩
  · exact ⟨h18, i18⟩
  · exact ⟨h19, i19⟩
theorem env_cast {s : State} {args : Array Value} (hts : ∀ w ∈ lw_tbl, w.before args s = true) (hgv : ∀ w ∈ flatC (Cond.and given_1 narrow_1), w.before args s = true) : ∀ c d : Nat, isSh c → isSh d → c ≠ d → if subX c d = true then va_Nw (.castable (XR c) (XR d)) s else va_Nc (XR c) (XR d) s := by
  intro c d hc hd hn
  unfold isSh at hc hd
  rcases hc with rfl | rfl | rfl | rfl | rfl | rfl | rfl <;> rcases hd with rfl | rfl | rfl | rfl | rfl | rfl | rfl
  · exact absurd rfl hn
  · exact va_Nc.of (hgv (Cond.not (Cond.castable "FootKeeper$Changing" "FootKeeper$Read")) (by decide +kernel))
  · exact va_Nw.of rfl (hts _ (List.mem_of_getElem? (i := 1681) (by rfl)))
  · exact va_Nc.of (hgv (Cond.not (Cond.castable "FootKeeper$Changing" "FootKeeper$Steady")) (by decide +kernel))
  · exact va_Nc.of (hgv (Cond.not (Cond.castable "FootKeeper$Changing" "FootKeeper$Told")) (by decide +kernel))
  · exact va_Nw.of rfl (hts _ (List.mem_of_getElem? (i := 1675) (by rfl)))
  · exact va_Nc.of (hgv (Cond.not (Cond.castable "FootKeeper$Changing" "FootKeeper$Waiting")) (by decide +kernel))
  · exact va_Nc.of (hgv (Cond.not (Cond.castable "FootKeeper$Read" "FootKeeper$Changing")) (by decide +kernel))
  · exact absurd rfl hn
  · exact va_Nw.of rfl (hts _ (List.mem_of_getElem? (i := 1682) (by rfl)))
  · exact va_Nw.of rfl (hts _ (List.mem_of_getElem? (i := 1676) (by rfl)))
  · exact va_Nc.of (hgv (Cond.not (Cond.castable "FootKeeper$Read" "FootKeeper$Told")) (by decide +kernel))
  · exact va_Nc.of (hgv (Cond.not (Cond.castable "FootKeeper$Read" "FootKeeper$Turned")) (by decide +kernel))
  · exact va_Nc.of (hgv (Cond.not (Cond.castable "FootKeeper$Read" "FootKeeper$Waiting")) (by decide +kernel))
  · exact va_Nc.of (hgv (Cond.not (Cond.castable "FootKeeper$Shooter" "FootKeeper$Changing")) (by decide +kernel))
  · exact va_Nc.of (hgv (Cond.not (Cond.castable "FootKeeper$Shooter" "FootKeeper$Read")) (by decide +kernel))
  · exact absurd rfl hn
  · exact va_Nc.of (hgv (Cond.not (Cond.castable "FootKeeper$Shooter" "FootKeeper$Steady")) (by decide +kernel))
  · exact va_Nc.of (hgv (Cond.not (Cond.castable "FootKeeper$Shooter" "FootKeeper$Told")) (by decide +kernel))
  · exact va_Nc.of (hgv (Cond.not (Cond.castable "FootKeeper$Shooter" "FootKeeper$Turned")) (by decide +kernel))
  · exact va_Nc.of (hgv (Cond.not (Cond.castable "FootKeeper$Shooter" "FootKeeper$Waiting")) (by decide +kernel))
  · exact va_Nc.of (hgv (Cond.not (Cond.castable "FootKeeper$Steady" "FootKeeper$Changing")) (by decide +kernel))
  · exact va_Nc.of (hgv (Cond.not (Cond.castable "FootKeeper$Steady" "FootKeeper$Read")) (by decide +kernel))
  · exact va_Nw.of rfl (hts _ (List.mem_of_getElem? (i := 1679) (by rfl)))
  · exact absurd rfl hn
  · exact va_Nc.of (hgv (Cond.not (Cond.castable "FootKeeper$Steady" "FootKeeper$Told")) (by decide +kernel))
  · exact va_Nc.of (hgv (Cond.not (Cond.castable "FootKeeper$Steady" "FootKeeper$Turned")) (by decide +kernel))
  · exact va_Nc.of (hgv (Cond.not (Cond.castable "FootKeeper$Steady" "FootKeeper$Waiting")) (by decide +kernel))
  · exact va_Nc.of (hgv (Cond.not (Cond.castable "FootKeeper$Told" "FootKeeper$Changing")) (by decide +kernel))
  · exact va_Nc.of (hgv (Cond.not (Cond.castable "FootKeeper$Told" "FootKeeper$Read")) (by decide +kernel))
  · exact va_Nw.of rfl (hts _ (List.mem_of_getElem? (i := 1683) (by rfl)))
  · exact va_Nc.of (hgv (Cond.not (Cond.castable "FootKeeper$Told" "FootKeeper$Steady")) (by decide +kernel))
  · exact absurd rfl hn
  · exact va_Nc.of (hgv (Cond.not (Cond.castable "FootKeeper$Told" "FootKeeper$Turned")) (by decide +kernel))
  · exact va_Nw.of rfl (hts _ (List.mem_of_getElem? (i := 1677) (by rfl)))
  · exact va_Nc.of (hgv (Cond.not (Cond.castable "FootKeeper$Turned" "FootKeeper$Changing")) (by decide +kernel))
  · exact va_Nc.of (hgv (Cond.not (Cond.castable "FootKeeper$Turned" "FootKeeper$Read")) (by decide +kernel))
  · exact va_Nw.of rfl (hts _ (List.mem_of_getElem? (i := 1678) (by rfl)))
  · exact va_Nc.of (hgv (Cond.not (Cond.castable "FootKeeper$Turned" "FootKeeper$Steady")) (by decide +kernel))
  · exact va_Nc.of (hgv (Cond.not (Cond.castable "FootKeeper$Turned" "FootKeeper$Told")) (by decide +kernel))
  · exact absurd rfl hn
  · exact va_Nc.of (hgv (Cond.not (Cond.castable "FootKeeper$Turned" "FootKeeper$Waiting")) (by decide +kernel))
  · exact va_Nc.of (hgv (Cond.not (Cond.castable "FootKeeper$Waiting" "FootKeeper$Changing")) (by decide +kernel))
  · exact va_Nc.of (hgv (Cond.not (Cond.castable "FootKeeper$Waiting" "FootKeeper$Read")) (by decide +kernel))
  · exact va_Nw.of rfl (hts _ (List.mem_of_getElem? (i := 1680) (by rfl)))
  · exact va_Nc.of (hgv (Cond.not (Cond.castable "FootKeeper$Waiting" "FootKeeper$Steady")) (by decide +kernel))
  · exact va_Nc.of (hgv (Cond.not (Cond.castable "FootKeeper$Waiting" "FootKeeper$Told")) (by decide +kernel))
  · exact va_Nc.of (hgv (Cond.not (Cond.castable "FootKeeper$Waiting" "FootKeeper$Turned")) (by decide +kernel))
  · exact absurd rfl hn
