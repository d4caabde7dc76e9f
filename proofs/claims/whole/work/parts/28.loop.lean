set_option maxHeartbeats 40000000
set_option maxRecDepth 100000
theorem i32_ofN {k : Nat} (h : k < 2147483648) : (Int32.ofNat k).toInt = k := Int32.toInt_ofNat_of_lt (by omega)
theorem vin {j N : Nat} (h : j < N) (hN : N ≤ 3072) : vp_in (Int32.ofNat j) N := by
  intro q
  rcases q with q | q
  · rw [Int32.lt_iff_toInt_lt, i32_ofN (by omega)] at q
    have : (0 : Int32).toInt = 0 := rfl
    omega
  · rw [i32n (by omega)] at q
    omega
theorem i32_s6 {N : Nat} (hN : N ≤ 3072) : (Int32.ofNat N - 6).toInt = (N : Int) - 6 := by
  rw [Int32.toInt_sub, i32_ofN (by omega)]
  have : (6 : Int32).toInt = 6 := rfl
  rw [this]
  exact Int.bmod_eq_of_le (by omega) (by omega)
def St0 (Rel : XS → XD → XD → Prop) : Prop := ∀ (Zc : XS) (Xc Xm : XD) (a1 : Int32) (a2 : Int32), Rel Zc Xc Xm → ∃ (r : Int32) (Zc1 : XS) (Xc1 : XD) (Xm1 : XD), gShoot Zc a1 a2 Xc = some (r, Zc1, Xc1) ∧ fX12_shooter a1 a2 Xm = some (r, Xm1) ∧ Rel Zc1 Xc1 Xm1
def St1 (Rel : XS → XD → XD → Prop) : Prop := ∀ (Zc : XS) (Xc Xm : XD) (a1 : Int32) (a2 : Int32), Rel Zc Xc Xm → ∃ (r : Int32) (Xc1 : XD) (Xm1 : XD), fX11_of Zc a1 a2 Xc = some (r, Xc1) ∧ fX12_of a1 a2 Xm = some (r, Xm1) ∧ Rel Zc Xc1 Xm1
def St2 (Rel : XS → XD → XD → Prop) : Prop := ∀ (Zc : XS) (Xc Xm : XD) (a1 : Int32) (a2 : Int32), Rel Zc Xc Xm → ∃ (r : Int32) (Xc1 : XD) (Xm1 : XD), fX11_last Zc a1 a2 Xc = some (r, Xc1) ∧ fX12_last a1 a2 Xm = some (r, Xm1) ∧ Rel Zc Xc1 Xm1
def St3 (Rel : XS → XD → XD → Prop) : Prop := ∀ (Zc : XS) (Xc Xm : XD) (a1 : Int32) (a2 : Int32) (a3 : Int32), Rel Zc Xc Xm → ∃ (r : Int32) (Xc1 : XD) (Xm1 : XD), fX11_row Zc a1 a2 a3 Xc = some (r, Xc1) ∧ fX12_row a1 a2 a3 Xm = some (r, Xm1) ∧ Rel Zc Xc1 Xm1
def St4 (Rel : XS → XD → XD → Prop) : Prop := ∀ (Zc : XS) (Xc Xm : XD) (a1 : Int32), Rel Zc Xc Xm → ∃ (r : Int32) (Xc1 : XD) (Xm1 : XD), fX11_feed Zc a1 Xc = some (r, Xc1) ∧ fX12_feed a1 Xm = some (r, Xm1) ∧ Rel Zc Xc1 Xm1
def St5 (Rel : XS → XD → XD → Prop) : Prop := ∀ (Zc : XS) (Xc Xm : XD), Rel Zc Xc Xm → ∃ (r : Int32) (Xc1 : XD) (Xm1 : XD), fX11_ground Zc  Xc = some (r, Xc1) ∧ fX12_ground  Xm = some (r, Xm1) ∧ Rel Zc Xc1 Xm1
def St6 (Rel : XS → XD → XD → Prop) : Prop := ∀ (Zc : XS) (Xc Xm : XD) (a1 : Int32), Rel Zc Xc Xm → ∃ (r : Int32), fX11_told Zc a1 Xc = some r ∧ fX12_told a1 Xm = some r ∧ Rel Zc Xc Xm
def St7 (Rel : XS → XD → XD → Prop) : Prop := ∀ (Zc : XS) (Xc Xm : XD) (a1 : Int32) (a2 : Int32) (a3 : Int32), Rel Zc Xc Xm → ∃ (r : Int32) (Xc1 : XD) (Xm1 : XD), fX11_chance Zc a1 a2 a3 Xc = some (r, Xc1) ∧ fX12_chance a1 a2 a3 Xm = some (r, Xm1) ∧ Rel Zc Xc1 Xm1
def St8 (Rel : XS → XD → XD → Prop) : Prop := ∀ (Zc : XS) (Xc Xm : XD) (a1 : Int32) (a2 : Int32), Rel Zc Xc Xm → ∃ (r : Int32) (Xc1 : XD) (Xm1 : XD), fX11_shoot Zc a1 a2 Xc = some (r, Xc1) ∧ fX12_shoot a1 a2 Xm = some (r, Xm1) ∧ Rel Zc Xc1 Xm1
def St9 (Rel : XS → XD → XD → Prop) : Prop := ∀ (Zc : XS) (Xc Xm : XD), Rel Zc Xc Xm → ∃ (r : Int32) (Xc1 : XD) (Xm1 : XD), fX11_anew Zc  Xc = some (r, Xc1) ∧ fX12_anew  Xm = some (r, Xm1) ∧ Rel Zc Xc1 Xm1
def St10 (Rel : XS → XD → XD → Prop) : Prop := ∀ (Zc : XS) (Xc Xm : XD) (a1 : Int32) (a2 : Int32), Rel Zc Xc Xm → ∃ (r : Int32) (Xc1 : XD) (Xm1 : XD), fX11_best Zc a1 a2 Xc = some (r, Xc1) ∧ fX12_best a1 a2 Xm = some (r, Xm1) ∧ Rel Zc Xc1 Xm1
def St11 (Rel : XS → XD → XD → Prop) : Prop := ∀ (Zc : XS) (Xc Xm : XD) (a1 : Int32) (a2 : Int32), Rel Zc Xc Xm → ∃ (r : Int32) (Xc1 : XD) (Xm1 : XD), fX11_mix Zc a1 a2 Xc = some (r, Xc1) ∧ fX12_mix a1 a2 Xm = some (r, Xm1) ∧ Rel Zc Xc1 Xm1
def St12 (Rel : XS → XD → XD → Prop) : Prop := ∀ (Zc : XS) (Xc Xm : XD) (a1 : Int32), Rel Zc Xc Xm → ∃ (r : Int32) (Xc1 : XD) (Xm1 : XD), fX11_line Zc a1 Xc = some (r, Xc1) ∧ fX12_line a1 Xm = some (r, Xm1) ∧ Rel Zc Xc1 Xm1
def St13 (Rel : XS → XD → XD → Prop) : Prop := ∀ (Zc : XS) (Xc Xm : XD) (a1 : Int32) (a2 : Int32), Rel Zc Xc Xm → ∃ (r : Int64) (Xc1 : XD) (Xm1 : XD), fX11_likely Zc a1 a2 Xc = some (r, Xc1) ∧ fX12_likely a1 a2 Xm = some (r, Xm1) ∧ Rel Zc Xc1 Xm1
def St14 (Rel : XS → XD → XD → Prop) : Prop := ∀ (Zc : XS) (Xc Xm : XD) (a1 : Int32), Rel Zc Xc Xm → ∃ (r : Int32) (Xc1 : XD) (Xm1 : XD), fX11_order Zc a1 Xc = some (r, Xc1) ∧ fX12_order a1 Xm = some (r, Xm1) ∧ Rel Zc Xc1 Xm1
def St15 (Rel : XS → XD → XD → Prop) : Prop := ∀ (Zc : XS) (Xc Xm : XD) (a1 : Int32) (a2 : Int32) (a3 : Int32), Rel Zc Xc Xm → ∃ (r : Int64) (Xc1 : XD) (Xm1 : XD), fX11_win Zc a1 a2 a3 Xc = some (r, Xc1) ∧ fX12_win a1 a2 a3 Xm = some (r, Xm1) ∧ Rel Zc Xc1 Xm1
def St16 (Rel : XS → XD → XD → Prop) : Prop := ∀ (Zc : XS) (Xc Xm : XD) (a1 : Int32), Rel Zc Xc Xm → ∃ (r : Int32) (Xc1 : XD) (Xm1 : XD), fX11_worth Zc a1 Xc = some (r, Xc1) ∧ fX12_worth a1 Xm = some (r, Xm1) ∧ Rel Zc Xc1 Xm1
def St17 (Rel : XS → XD → XD → Prop) : Prop := ∀ (Zc : XS) (Xc Xm : XD) (a1 : Int32), Rel Zc Xc Xm → ∃ (r : Int32) (Xc1 : XD) (Xm1 : XD), fX11_stop Zc a1 Xc = some (r, Xc1) ∧ fX12_stop a1 Xm = some (r, Xm1) ∧ Rel Zc Xc1 Xm1
def St18 (Rel : XS → XD → XD → Prop) : Prop := ∀ (Zc : XS) (Xc Xm : XD) (a1 : Int32) (a2 : Int32), Rel Zc Xc Xm → ∃ (r : Int32) (Xc1 : XD) (Xm1 : XD), fX11_forget Zc a1 a2 Xc = some (r, Xc1) ∧ fX12_forget a1 a2 Xm = some (r, Xm1) ∧ Rel Zc Xc1 Xm1
def St19 (Rel : XS → XD → XD → Prop) : Prop := ∀ (Zc : XS) (Xc Xm : XD) (a1 : Int32) (a2 : Int32), Rel Zc Xc Xm → ∃ (r : Int32) (Xc1 : XD) (Xm1 : XD), fX11_caught Zc a1 a2 Xc = some (r, Xc1) ∧ fX12_caught a1 a2 Xm = some (r, Xm1) ∧ Rel Zc Xc1 Xm1
def St20 (Rel : XS → XD → XD → Prop) : Prop := ∀ (Zc : XS) (Xc Xm : XD) (a1 : Int32), Rel Zc Xc Xm → ∃ (r : Int32) (Xc1 : XD) (Xm1 : XD), fX11_see Zc a1 Xc = some (r, Xc1) ∧ fX12_see a1 Xm = some (r, Xm1) ∧ Rel Zc Xc1 Xm1
def St21 (Rel : XS → XD → XD → Prop) : Prop := ∀ (Zc : XS) (Xc Xm : XD), Rel Zc Xc Xm → ∃ (r : Int32) (Xc1 : XD) (Xm1 : XD), fX11_who Zc  Xc = some (r, Xc1) ∧ fX12_who  Xm = some (r, Xm1) ∧ Rel Zc Xc1 Xm1
def St22 (Rel : XS → XD → XD → Prop) : Prop := ∀ (Zc : XS) (Xc Xm : XD) (a1 : Int32) (a2 : Int32), Rel Zc Xc Xm → ∃ (r : Int64) (Xc1 : XD) (Xm1 : XD), fX11_odds Zc a1 a2 Xc = some (r, Xc1) ∧ fX12_odds a1 a2 Xm = some (r, Xm1) ∧ Rel Zc Xc1 Xm1
def St23 (Rel : XS → XD → XD → Prop) : Prop := ∀ (Zc : XS) (Xc Xm : XD) (a1 : Int32), Rel Zc Xc Xm → ∃ (r : Int64) (Xc1 : XD) (Xm1 : XD), fX11_mean Zc a1 Xc = some (r, Xc1) ∧ fX12_mean a1 Xm = some (r, Xm1) ∧ Rel Zc Xc1 Xm1
def St24 (Rel : XS → XD → XD → Prop) : Prop := ∀ (Zc : XS) (Xc Xm : XD) (a1 : Int32) (a2 : Int32), Rel Zc Xc Xm → ∃ (r : Int32) (Xc1 : XD) (Xm1 : XD), fX11_book Zc a1 a2 Xc = some (r, Xc1) ∧ fX12_book a1 a2 Xm = some (r, Xm1) ∧ Rel Zc Xc1 Xm1
def St25 (Rel : XS → XD → XD → Prop) : Prop := ∀ (Zc : XS) (Xc Xm : XD), Rel Zc Xc Xm → ∃ (r : Int32) (Xc1 : XD) (Xm1 : XD), fX11_looked Zc  Xc = some (r, Xc1) ∧ fX12_looked  Xm = some (r, Xm1) ∧ Rel Zc Xc1 Xm1
def St26 (Rel : XS → XD → XD → Prop) : Prop := ∀ (Zc : XS) (Xc Xm : XD) (a1 : Int32) (a2 : Int32), Rel Zc Xc Xm → ∃ (r : Int32), fX11_judge Zc a1 a2 Xc = some r ∧ fX12_judge a1 a2 Xm = some r ∧ Rel Zc Xc Xm
def St27 (Rel : XS → XD → XD → Prop) : Prop := ∀ (Zc : XS) (Xc Xm : XD), Rel Zc Xc Xm → ∃ (r : Int32) (Xc1 : XD) (Xm1 : XD), fX11_image Zc  Xc = some (r, Xc1) ∧ fX12_image  Xm = some (r, Xm1) ∧ Rel Zc Xc1 Xm1
def St28 (Rel : XS → XD → XD → Prop) : Prop := ∀ (Zc : XS) (Xc Xm : XD), Rel Zc Xc Xm → ∃ (r : Int32) (Xc1 : XD) (Xm1 : XD), fX11_undo Zc  Xc = some (r, Xc1) ∧ fX12_undo  Xm = some (r, Xm1) ∧ Rel Zc Xc1 Xm1
def St29 (Rel : XS → XD → XD → Prop) : Prop := ∀ (Zc : XS) (Xc Xm : XD) (a1 : Int32) (a2 : Int32) (a3 : Int32), Rel Zc Xc Xm → ∃ (r : Int32) (Xc1 : XD) (Xm1 : XD), fX11_act Zc a1 a2 a3 Xc = some (r, Xc1) ∧ fX12_act a1 a2 a3 Xm = some (r, Xm1) ∧ Rel Zc Xc1 Xm1
def St30 (Rel : XS → XD → XD → Prop) : Prop := ∀ (Zc : XS) (Xc Xm : XD) (a1 : Int32), Rel Zc Xc Xm → ∃ (r : Int32), fX11_trace Zc a1 Xc = some r ∧ fX12_trace a1 Xm = some r ∧ Rel Zc Xc Xm
def St31 (Rel : XS → XD → XD → Prop) : Prop := ∀ (Zc : XS) (Xc Xm : XD) (a1 : Int32) (a2 : Int32), Rel Zc Xc Xm → ∃ (r : Int32), fX11_taken Zc a1 a2 Xc = some r ∧ fX12_taken a1 a2 Xm = some r ∧ Rel Zc Xc Xm
def St32 (Rel : XS → XD → XD → Prop) : Prop := ∀ (Zc : XS) (Xc Xm : XD) (a1 : Int32), Rel Zc Xc Xm → ∃ (r : Int32), fX11_count Zc a1 Xc = some r ∧ fX12_count a1 Xm = some r ∧ Rel Zc Xc Xm
def St33 (Rel : XS → XD → XD → Prop) : Prop := ∀ (Zc : XS) (Xc Xm : XD) (a1 : Int32) (a2 : Int32) (a3 : Int32), Rel Zc Xc Xm → ∃ (r : Int32) (Xc1 : XD) (Xm1 : XD), fX11_tape Zc a1 a2 a3 Xc = some (r, Xc1) ∧ fX12_tape a1 a2 a3 Xm = some (r, Xm1) ∧ Rel Zc Xc1 Xm1
def St34 (Rel : XS → XD → XD → Prop) : Prop := ∀ (Zc : XS) (Xc Xm : XD) (a1 : Int32) (a2 : Int32) (a3 : Int32) (a4 : Int32), Rel Zc Xc Xm → ∃ (r : Int32) (Xc1 : XD) (Xm1 : XD), fX11_item Zc a1 a2 (((a3).toInt64 <<< ((32 : Int32).toInt64 &&& 63)) ||| ((a4).toInt64 &&& (4294967295 : Int64))) Xc = some (r, Xc1) ∧ fX12_item a1 a2 (((a3).toInt64 <<< ((32 : Int32).toInt64 &&& 63)) ||| ((a4).toInt64 &&& (4294967295 : Int64))) Xm = some (r, Xm1) ∧ Rel Zc Xc1 Xm1
def St35 (Rel : XS → XD → XD → Prop) : Prop := ∀ (Zc : XS) (Xc Xm : XD) (a1 : Int32) (a2 : Int32), Rel Zc Xc Xm → ∃ (r : Int64), fX11_read Zc a1 a2 Xc = some r ∧ fX12_read a1 a2 Xm = some r ∧ Rel Zc Xc Xm
def St36 (Rel : XS → XD → XD → Prop) : Prop := ∀ (Zc : XS) (Xc Xm : XD) (a1 : Int32) (a2 : Int32) (a3 : Int32) (a4 : Int32) (a5 : Int32), Rel Zc Xc Xm → ∃ (r : Int32) (Xc1 : XD) (Xm1 : XD), fX11_shift Zc a1 a2 a3 a4 a5 Xc = some (r, Xc1) ∧ fX12_shift a1 a2 a3 a4 a5 Xm = some (r, Xm1) ∧ Rel Zc Xc1 Xm1
def Good (Rel : XS → XD → XD → Prop) : Prop := Rel cZE cXE mXE ∧ (∀ (Zc : XS) (Xc Xm : XD), Rel Zc Xc Xm → LayC Zc ∧ 157 ≤ sn Zc) ∧ St0 Rel ∧ St1 Rel ∧ St2 Rel ∧ St3 Rel ∧ St4 Rel ∧ St5 Rel ∧ St6 Rel ∧ St7 Rel ∧ St8 Rel ∧ St9 Rel ∧ St10 Rel ∧ St11 Rel ∧ St12 Rel ∧ St13 Rel ∧ St14 Rel ∧ St15 Rel ∧ St16 Rel ∧ St17 Rel ∧ St18 Rel ∧ St19 Rel ∧ St20 Rel ∧ St21 Rel ∧ St22 Rel ∧ St23 Rel ∧ St24 Rel ∧ St25 Rel ∧ St26 Rel ∧ St27 Rel ∧ St28 Rel ∧ St29 Rel ∧ St30 Rel ∧ St31 Rel ∧ St32 Rel ∧ St33 Rel ∧ St34 Rel ∧ St35 Rel ∧ St36 Rel
theorem ct_wC {E : XE} {Xm : XD} {Z : XS} (h : 157 ≤ sn Z) : CT (wC E Xm) Z := by
  intro i
  show adC E.2.2.1 (sn Z + i) = adC E.2.2.1 (sn Z) + i
  rw [adC_n h, adC_n (by omega)]
  omega
theorem ww_gt6 {p : Program} {l : Launch} {e : Env} {R : Room} {s : State} {m : MethodId} {args : Array Value} {below : List Frame} {meth : Method} {c : Code} {nL : Nat} {Q : State → Prop} {E : XE} {w : XW} {cells slots z : Nat} {Z : XS} {pc : Nat} {lv : List (Nat × Value)} {rest : List Value} {X : XD} {cc : ByteArray} {own : String} (h : CX p s m args meth c E cc nL own) {i N : Nat} (hN : N ≤ 3072) (hi : i ≤ 3078) {off : Int} (tgt : Nat) (hd : decode cc pc = .ok (.if_icmp .gt off, 3)) (ht : (pc : Int) + off = (tgt : Int)) (kt : WW p l e R s m args below meth c nL Q E w cells slots z Z tgt lv rest X) (kf : i + 6 ≤ N → WW p l e R s m args below meth c nL Q E w cells slots z Z (pc + 3) lv rest X) : WW p l e R s m args below meth c nL Q E w cells slots z Z pc lv (.int (Int32.ofNat N - 6) :: .int (Int32.ofNat i) :: rest) X := by
  have e1 : (Int32.ofNat N - 6 < Int32.ofNat i) ↔ N < i + 6 := by
    rw [Int32.lt_iff_toInt_lt, i32_s6 hN, i32_ofN (by omega)]
    omega
  by_cases q : Int32.ofNat N - 6 < Int32.ofNat i
  · exact ww_icmp_gt h (d := Classical.propDecidable _) (α := Unit) (f1 := some ()) (f2 := none) (r := ()) (if_pos q) tgt hd ht (fun _ => kt) (fun q => by cases q)
  · exact ww_icmp_gt h (d := Classical.propDecidable _) (α := Unit) (f1 := none) (f2 := some ()) (r := ()) (if_neg q) tgt hd ht (fun q => by cases q) (fun _ => kf (by have := mt e1.mpr q; omega))
theorem ww_lawEnd {p : Program} {l : Launch} {e : Env} {s : State} {m : MethodId} {below : List Frame} {meth : Method} {c : Code} {E : XE} {w : XW} {cells slots z : Nat} {Z : XS} {pc : Nat} {lv : List (Nat × Value)} {X : XD} {b : Nat} (hC : CX p s m #[Value.ref b] meth c E cL_law 4 "FootKeeperLaw") (hE : E.2.2.1 = s.heap.size) (hr : meth.sig.returnType = ret) (hc : cells ≤ 604503) (hs : slots ≤ 7288740) (hd : decode cL_law pc = .ok (.ireturn, 1)) : WW p l e room_1 s m #[Value.ref b] below meth c 4 (lw_Z below #[Value.ref b] s) E w cells slots z Z pc lv [.int 1] X := fun H locs ls hP hS hl =>
  va_forget (fun q hq => by have := hS.2.2 q hq; unfold A0 at this; omega) (W.widen hc hs (lw_ret hC.1 hC.2.1 hr hC.2.2.2.2.2.2.1 hd))
theorem law_loop {Rel : XS → XD → XD → Prop} (hG : Good Rel) {p : Program} {l : Launch} {e : Env} {s : State} {m : MethodId} {below : List Frame} {meth : Method} {c : Code} {E : XE} {b N : Nat} {xs : Nat → Int32} (hC : CX p s m #[Value.ref b] meth c E cL_law 4 "FootKeeperLaw") (hE : E.2.2.1 = s.heap.size) (hX : va_X b N xs s s.heap) (hbl : b < s.heap.size) (hr : meth.sig.returnType = ret) (hN : N ≤ 3072) : ∀ (n i cells slots : Nat) (Zc : XS) (Xc Xm : XD), i ≤ N → N < i + n → cells + n ≤ 604503 → slots + 2 * n ≤ 7288740 → Rel Zc Xc Xm → WW p l e room_1 s m #[Value.ref b] below meth c 4 (lw_Z below #[Value.ref b] s) E (wC E Xm) cells slots (adC E.2.2.1 (sn Zc)) Zc 18 (lwlv E b (Int32.ofNat i)) [] Xc := by
  intro n
  induction n with
  | zero =>
    intro i cells slots Zc Xc Xm h1 h2
    omega
  | succ n ih =>
    intro i cells slots Zc Xc Xm h1 h2 hc hs hR
    obtain ⟨hL, hZ⟩ := hG.2.1 _ _ _ hR
    refine ww_iload_n (pc := 18) hC dL_law_18 0 rfl ?_
    refine ww_aload_n (pc := 19) hC dL_law_19 3 rfl ?_
    refine ww_slen (pc := 20) hC hE hX hbl dL_law_20 ?_
    refine ww_bipush (pc := 21) hC (v := (6 : Int32)) dL_law_21 (by decide) ?_
    refine ww_isub (pc := 23) hC dL_law_23 ?_
    refine ww_gt6 (pc := 24) hC hN (by omega) 1328 dL_law_24 (by decide) ?_ (fun h6 => ?_)
    · refine ww_iconst (pc := 1328) hC (v := (1 : Int32)) dL_law_1328 (by decide) ?_
      exact ww_lawEnd (pc := 1329) hC hE hr (by omega) (by omega) dL_law_1329
    have tail : ∀ (cells slots : Nat) (Zc : XS) (Xc Xm : XD), cells + n ≤ 604503 → slots + 2 * n ≤ 7288740 → Rel Zc Xc Xm → WW p l e room_1 s m #[Value.ref b] below meth c 4 (lw_Z below #[Value.ref b] s) E (wC E Xm) cells slots (adC E.2.2.1 (sn Zc)) Zc 1322 (lwlv E b (Int32.ofNat i)) [] Xc := by
      intro cells slots Zc Xc Xm hc hs hR
      refine ww_iinc (pc := 1322) hC (Int32.ofNat (i + 6)) (lwlv E b (Int32.ofNat (i + 6))) dL_law_1322 0 rfl (Int32.ofNat_add i 6).symm (by decide) rfl ?_
      refine ww_goto (pc := 1325) hC 18 dL_law_1325 (by decide) ?_
      exact ih (i + 6) cells slots Zc Xc Xm (by omega) (by omega) hc hs hR
    have hv1 : vp_in (Int32.ofNat i + 1) N := by
      rw [show Int32.ofNat i + 1 = Int32.ofNat (i + 1) from (Int32.ofNat_add i 1).symm]
      exact vin (by omega) hN
    have hv2 : vp_in (Int32.ofNat i + 2) N := by
      rw [show Int32.ofNat i + 2 = Int32.ofNat (i + 2) from (Int32.ofNat_add i 2).symm]
      exact vin (by omega) hN
    have hv3 : vp_in (Int32.ofNat i + 3) N := by
      rw [show Int32.ofNat i + 3 = Int32.ofNat (i + 3) from (Int32.ofNat_add i 3).symm]
      exact vin (by omega) hN
    have hv4 : vp_in (Int32.ofNat i + 4) N := by
      rw [show Int32.ofNat i + 4 = Int32.ofNat (i + 4) from (Int32.ofNat_add i 4).symm]
      exact vin (by omega) hN
    have hv5 : vp_in (Int32.ofNat i + 5) N := by
      rw [show Int32.ofNat i + 5 = Int32.ofNat (i + 5) from (Int32.ofNat_add i 5).symm]
      exact vin (by omega) hN
    refine ww_aload_n (pc := 27) hC dL_law_27 3 rfl ?_
    refine ww_iload_n (pc := 28) hC dL_law_28 0 rfl ?_
    refine ww_sld (pc := 29) hC hE hX hbl (vin (by omega) hN) dL_law_29 ?_
    refine ww_bipush (pc := 30) hC (v := (63 : Int32)) dL_law_30 (by decide) ?_
    refine ww_iand (pc := 32) hC dL_law_32 ?_
    obtain ⟨sw, esw⟩ : ∃ q, q = xs (Int32.ofNat i).toNatClampNeg &&& 63 := ⟨_, rfl⟩
    rw [← esw]
    clear esw
    have hf0 : cells ≤ room_1.cells ∧ slots ≤ room_1.slots := ⟨show cells ≤ 604503 by omega, show slots ≤ 7288740 by omega⟩
    rcases Classical.em (sw = (0 : Int32)) with q0 | q0
    · refine ww_tableIn (pc := 33) hC 196 dL_law_33 (0 : Int32) q0 (by decide) (by decide) rfl (by decide) ?_
      obtain ⟨r, Zc1, Xc1, Xm1, g1, g2, g3⟩ := hG.2.2.1 Zc Xc Xm (xs (Int32.ofNat i + 1).toNatClampNeg) (xs (Int32.ofNat i + 2).toNatClampNeg) hR
      exact law_0 hC hE hX hbl hv1 hv2 (show cells + 1 ≤ 604503 ∧ slots + 2 ≤ 7288740 by omega) hL (ct_wC hZ) g1 g2 (tail _ _ _ _ _ (by omega) (by omega) g3)
    rcases Classical.em (sw = (1 : Int32)) with q1 | q1
    · refine ww_tableIn (pc := 33) hC 229 dL_law_33 (1 : Int32) q1 (by decide) (by decide) rfl (by decide) ?_
      obtain ⟨r, Xc1, Xm1, g1, g2, g3⟩ := hG.2.2.2.1 Zc Xc Xm (xs (Int32.ofNat i + 1).toNatClampNeg) (xs (Int32.ofNat i + 2).toNatClampNeg) hR
      exact law_1 hC hE hX hbl hv1 hv2 hf0 hL g1 g2 (tail _ _ _ _ _ (by omega) (by omega) g3)
    rcases Classical.em (sw = (2 : Int32)) with q2 | q2
    · refine ww_tableIn (pc := 33) hC 262 dL_law_33 (2 : Int32) q2 (by decide) (by decide) rfl (by decide) ?_
      obtain ⟨r, Xc1, Xm1, g1, g2, g3⟩ := hG.2.2.2.2.1 Zc Xc Xm (xs (Int32.ofNat i + 1).toNatClampNeg) (xs (Int32.ofNat i + 2).toNatClampNeg) hR
      exact law_2 hC hE hX hbl hv1 hv2 hf0 hL g1 g2 (tail _ _ _ _ _ (by omega) (by omega) g3)
    rcases Classical.em (sw = (3 : Int32)) with q3 | q3
    · refine ww_tableIn (pc := 33) hC 295 dL_law_33 (3 : Int32) q3 (by decide) (by decide) rfl (by decide) ?_
      obtain ⟨r, Xc1, Xm1, g1, g2, g3⟩ := hG.2.2.2.2.2.1 Zc Xc Xm (xs (Int32.ofNat i + 1).toNatClampNeg) (xs (Int32.ofNat i + 2).toNatClampNeg) (xs (Int32.ofNat i + 3).toNatClampNeg) hR
      exact law_3 hC hE hX hbl hv1 hv2 hv3 hf0 hL g1 g2 (tail _ _ _ _ _ (by omega) (by omega) g3)
    rcases Classical.em (sw = (4 : Int32)) with q4 | q4
    · refine ww_tableIn (pc := 33) hC 338 dL_law_33 (4 : Int32) q4 (by decide) (by decide) rfl (by decide) ?_
      obtain ⟨r, Xc1, Xm1, g1, g2, g3⟩ := hG.2.2.2.2.2.2.1 Zc Xc Xm (xs (Int32.ofNat i + 1).toNatClampNeg) hR
      exact law_4 hC hE hX hbl hv1 hf0 hL g1 g2 (tail _ _ _ _ _ (by omega) (by omega) g3)
    rcases Classical.em (sw = (5 : Int32)) with q5 | q5
    · refine ww_tableIn (pc := 33) hC 361 dL_law_33 (5 : Int32) q5 (by decide) (by decide) rfl (by decide) ?_
      obtain ⟨r, Xc1, Xm1, g1, g2, g3⟩ := hG.2.2.2.2.2.2.2.1 Zc Xc Xm  hR
      exact law_5 hC hE hX hbl  hf0 hL g1 g2 (tail _ _ _ _ _ (by omega) (by omega) g3)
    rcases Classical.em (sw = (6 : Int32)) with q6 | q6
    · refine ww_tableIn (pc := 33) hC 374 dL_law_33 (6 : Int32) q6 (by decide) (by decide) rfl (by decide) ?_
      obtain ⟨r, g1, g2, g3⟩ := hG.2.2.2.2.2.2.2.2.1 Zc Xc Xm (xs (Int32.ofNat i + 1).toNatClampNeg) hR
      exact law_6 hC hE hX hbl hv1 hf0 hL g1 g2 (tail _ _ _ _ _ (by omega) (by omega) g3)
    rcases Classical.em (sw = (7 : Int32)) with q7 | q7
    · refine ww_tableIn (pc := 33) hC 397 dL_law_33 (7 : Int32) q7 (by decide) (by decide) rfl (by decide) ?_
      obtain ⟨r, Xc1, Xm1, g1, g2, g3⟩ := hG.2.2.2.2.2.2.2.2.2.1 Zc Xc Xm (xs (Int32.ofNat i + 1).toNatClampNeg) (xs (Int32.ofNat i + 2).toNatClampNeg) (xs (Int32.ofNat i + 3).toNatClampNeg) hR
      exact law_7 hC hE hX hbl hv1 hv2 hv3 hf0 hL g1 g2 (tail _ _ _ _ _ (by omega) (by omega) g3)
    rcases Classical.em (sw = (8 : Int32)) with q8 | q8
    · refine ww_tableIn (pc := 33) hC 440 dL_law_33 (8 : Int32) q8 (by decide) (by decide) rfl (by decide) ?_
      obtain ⟨r, Xc1, Xm1, g1, g2, g3⟩ := hG.2.2.2.2.2.2.2.2.2.2.1 Zc Xc Xm (xs (Int32.ofNat i + 1).toNatClampNeg) (xs (Int32.ofNat i + 2).toNatClampNeg) hR
      exact law_8 hC hE hX hbl hv1 hv2 hf0 hL g1 g2 (tail _ _ _ _ _ (by omega) (by omega) g3)
    rcases Classical.em (sw = (9 : Int32)) with q9 | q9
    · refine ww_tableIn (pc := 33) hC 473 dL_law_33 (9 : Int32) q9 (by decide) (by decide) rfl (by decide) ?_
      obtain ⟨r, Xc1, Xm1, g1, g2, g3⟩ := hG.2.2.2.2.2.2.2.2.2.2.2.1 Zc Xc Xm  hR
      exact law_9 hC hE hX hbl  hf0 hL g1 g2 (tail _ _ _ _ _ (by omega) (by omega) g3)
    rcases Classical.em (sw = (10 : Int32)) with q10 | q10
    · refine ww_tableIn (pc := 33) hC 486 dL_law_33 (10 : Int32) q10 (by decide) (by decide) rfl (by decide) ?_
      obtain ⟨r, Xc1, Xm1, g1, g2, g3⟩ := hG.2.2.2.2.2.2.2.2.2.2.2.2.1 Zc Xc Xm (xs (Int32.ofNat i + 1).toNatClampNeg) (xs (Int32.ofNat i + 2).toNatClampNeg) hR
      exact law_10 hC hE hX hbl hv1 hv2 hf0 hL g1 g2 (tail _ _ _ _ _ (by omega) (by omega) g3)
    rcases Classical.em (sw = (11 : Int32)) with q11 | q11
    · refine ww_tableIn (pc := 33) hC 519 dL_law_33 (11 : Int32) q11 (by decide) (by decide) rfl (by decide) ?_
      obtain ⟨r, Xc1, Xm1, g1, g2, g3⟩ := hG.2.2.2.2.2.2.2.2.2.2.2.2.2.1 Zc Xc Xm (xs (Int32.ofNat i + 1).toNatClampNeg) (xs (Int32.ofNat i + 2).toNatClampNeg) hR
      exact law_11 hC hE hX hbl hv1 hv2 hf0 hL g1 g2 (tail _ _ _ _ _ (by omega) (by omega) g3)
    rcases Classical.em (sw = (12 : Int32)) with q12 | q12
    · refine ww_tableIn (pc := 33) hC 552 dL_law_33 (12 : Int32) q12 (by decide) (by decide) rfl (by decide) ?_
      obtain ⟨r, Xc1, Xm1, g1, g2, g3⟩ := hG.2.2.2.2.2.2.2.2.2.2.2.2.2.2.1 Zc Xc Xm (xs (Int32.ofNat i + 1).toNatClampNeg) hR
      exact law_12 hC hE hX hbl hv1 hf0 hL g1 g2 (tail _ _ _ _ _ (by omega) (by omega) g3)
    rcases Classical.em (sw = (13 : Int32)) with q13 | q13
    · refine ww_tableIn (pc := 33) hC 575 dL_law_33 (13 : Int32) q13 (by decide) (by decide) rfl (by decide) ?_
      obtain ⟨r, Xc1, Xm1, g1, g2, g3⟩ := hG.2.2.2.2.2.2.2.2.2.2.2.2.2.2.2.1 Zc Xc Xm (xs (Int32.ofNat i + 1).toNatClampNeg) (xs (Int32.ofNat i + 2).toNatClampNeg) hR
      exact law_13 hC hE hX hbl hv1 hv2 hf0 hL g1 g2 (tail _ _ _ _ _ (by omega) (by omega) g3)
    rcases Classical.em (sw = (14 : Int32)) with q14 | q14
    · refine ww_tableIn (pc := 33) hC 609 dL_law_33 (14 : Int32) q14 (by decide) (by decide) rfl (by decide) ?_
      obtain ⟨r, Xc1, Xm1, g1, g2, g3⟩ := hG.2.2.2.2.2.2.2.2.2.2.2.2.2.2.2.2.1 Zc Xc Xm (xs (Int32.ofNat i + 1).toNatClampNeg) hR
      exact law_14 hC hE hX hbl hv1 hf0 hL g1 g2 (tail _ _ _ _ _ (by omega) (by omega) g3)
    rcases Classical.em (sw = (15 : Int32)) with q15 | q15
    · refine ww_tableIn (pc := 33) hC 632 dL_law_33 (15 : Int32) q15 (by decide) (by decide) rfl (by decide) ?_
      obtain ⟨r, Xc1, Xm1, g1, g2, g3⟩ := hG.2.2.2.2.2.2.2.2.2.2.2.2.2.2.2.2.2.1 Zc Xc Xm (xs (Int32.ofNat i + 1).toNatClampNeg) (xs (Int32.ofNat i + 2).toNatClampNeg) (xs (Int32.ofNat i + 3).toNatClampNeg) hR
      exact law_15 hC hE hX hbl hv1 hv2 hv3 hf0 hL g1 g2 (tail _ _ _ _ _ (by omega) (by omega) g3)
    rcases Classical.em (sw = (16 : Int32)) with q16 | q16
    · refine ww_tableIn (pc := 33) hC 676 dL_law_33 (16 : Int32) q16 (by decide) (by decide) rfl (by decide) ?_
      obtain ⟨r, Xc1, Xm1, g1, g2, g3⟩ := hG.2.2.2.2.2.2.2.2.2.2.2.2.2.2.2.2.2.2.1 Zc Xc Xm (xs (Int32.ofNat i + 1).toNatClampNeg) hR
      exact law_16 hC hE hX hbl hv1 hf0 hL g1 g2 (tail _ _ _ _ _ (by omega) (by omega) g3)
    rcases Classical.em (sw = (17 : Int32)) with q17 | q17
    · refine ww_tableIn (pc := 33) hC 699 dL_law_33 (17 : Int32) q17 (by decide) (by decide) rfl (by decide) ?_
      obtain ⟨r, Xc1, Xm1, g1, g2, g3⟩ := hG.2.2.2.2.2.2.2.2.2.2.2.2.2.2.2.2.2.2.2.1 Zc Xc Xm (xs (Int32.ofNat i + 1).toNatClampNeg) hR
      exact law_17 hC hE hX hbl hv1 hf0 hL g1 g2 (tail _ _ _ _ _ (by omega) (by omega) g3)
    rcases Classical.em (sw = (18 : Int32)) with q18 | q18
    · refine ww_tableIn (pc := 33) hC 722 dL_law_33 (18 : Int32) q18 (by decide) (by decide) rfl (by decide) ?_
      obtain ⟨r, Xc1, Xm1, g1, g2, g3⟩ := hG.2.2.2.2.2.2.2.2.2.2.2.2.2.2.2.2.2.2.2.2.1 Zc Xc Xm (xs (Int32.ofNat i + 1).toNatClampNeg) (xs (Int32.ofNat i + 2).toNatClampNeg) hR
      exact law_18 hC hE hX hbl hv1 hv2 hf0 hL g1 g2 (tail _ _ _ _ _ (by omega) (by omega) g3)
    rcases Classical.em (sw = (19 : Int32)) with q19 | q19
    · refine ww_tableIn (pc := 33) hC 755 dL_law_33 (19 : Int32) q19 (by decide) (by decide) rfl (by decide) ?_
      obtain ⟨r, Xc1, Xm1, g1, g2, g3⟩ := hG.2.2.2.2.2.2.2.2.2.2.2.2.2.2.2.2.2.2.2.2.2.1 Zc Xc Xm (xs (Int32.ofNat i + 1).toNatClampNeg) (xs (Int32.ofNat i + 2).toNatClampNeg) hR
      exact law_19 hC hE hX hbl hv1 hv2 hf0 hL g1 g2 (tail _ _ _ _ _ (by omega) (by omega) g3)
    rcases Classical.em (sw = (20 : Int32)) with q20 | q20
    · refine ww_tableIn (pc := 33) hC 788 dL_law_33 (20 : Int32) q20 (by decide) (by decide) rfl (by decide) ?_
      obtain ⟨r, Xc1, Xm1, g1, g2, g3⟩ := hG.2.2.2.2.2.2.2.2.2.2.2.2.2.2.2.2.2.2.2.2.2.2.1 Zc Xc Xm (xs (Int32.ofNat i + 1).toNatClampNeg) hR
      exact law_20 hC hE hX hbl hv1 hf0 hL g1 g2 (tail _ _ _ _ _ (by omega) (by omega) g3)
    rcases Classical.em (sw = (21 : Int32)) with q21 | q21
    · refine ww_tableIn (pc := 33) hC 811 dL_law_33 (21 : Int32) q21 (by decide) (by decide) rfl (by decide) ?_
      obtain ⟨r, Xc1, Xm1, g1, g2, g3⟩ := hG.2.2.2.2.2.2.2.2.2.2.2.2.2.2.2.2.2.2.2.2.2.2.2.1 Zc Xc Xm  hR
      exact law_21 hC hE hX hbl  hf0 hL g1 g2 (tail _ _ _ _ _ (by omega) (by omega) g3)
    rcases Classical.em (sw = (22 : Int32)) with q22 | q22
    · refine ww_tableIn (pc := 33) hC 824 dL_law_33 (22 : Int32) q22 (by decide) (by decide) rfl (by decide) ?_
      obtain ⟨r, Xc1, Xm1, g1, g2, g3⟩ := hG.2.2.2.2.2.2.2.2.2.2.2.2.2.2.2.2.2.2.2.2.2.2.2.2.1 Zc Xc Xm (xs (Int32.ofNat i + 1).toNatClampNeg) (xs (Int32.ofNat i + 2).toNatClampNeg) hR
      exact law_22 hC hE hX hbl hv1 hv2 hf0 hL g1 g2 (tail _ _ _ _ _ (by omega) (by omega) g3)
    rcases Classical.em (sw = (23 : Int32)) with q23 | q23
    · refine ww_tableIn (pc := 33) hC 858 dL_law_33 (23 : Int32) q23 (by decide) (by decide) rfl (by decide) ?_
      obtain ⟨r, Xc1, Xm1, g1, g2, g3⟩ := hG.2.2.2.2.2.2.2.2.2.2.2.2.2.2.2.2.2.2.2.2.2.2.2.2.2.1 Zc Xc Xm (xs (Int32.ofNat i + 1).toNatClampNeg) hR
      exact law_23 hC hE hX hbl hv1 hf0 hL g1 g2 (tail _ _ _ _ _ (by omega) (by omega) g3)
    rcases Classical.em (sw = (24 : Int32)) with q24 | q24
    · refine ww_tableIn (pc := 33) hC 882 dL_law_33 (24 : Int32) q24 (by decide) (by decide) rfl (by decide) ?_
      obtain ⟨r, Xc1, Xm1, g1, g2, g3⟩ := hG.2.2.2.2.2.2.2.2.2.2.2.2.2.2.2.2.2.2.2.2.2.2.2.2.2.2.1 Zc Xc Xm (xs (Int32.ofNat i + 1).toNatClampNeg) (xs (Int32.ofNat i + 2).toNatClampNeg) hR
      exact law_24 hC hE hX hbl hv1 hv2 hf0 hL g1 g2 (tail _ _ _ _ _ (by omega) (by omega) g3)
    rcases Classical.em (sw = (25 : Int32)) with q25 | q25
    · refine ww_tableIn (pc := 33) hC 915 dL_law_33 (25 : Int32) q25 (by decide) (by decide) rfl (by decide) ?_
      obtain ⟨r, Xc1, Xm1, g1, g2, g3⟩ := hG.2.2.2.2.2.2.2.2.2.2.2.2.2.2.2.2.2.2.2.2.2.2.2.2.2.2.2.1 Zc Xc Xm  hR
      exact law_25 hC hE hX hbl  hf0 hL g1 g2 (tail _ _ _ _ _ (by omega) (by omega) g3)
    rcases Classical.em (sw = (26 : Int32)) with q26 | q26
    · refine ww_tableIn (pc := 33) hC 928 dL_law_33 (26 : Int32) q26 (by decide) (by decide) rfl (by decide) ?_
      obtain ⟨r, g1, g2, g3⟩ := hG.2.2.2.2.2.2.2.2.2.2.2.2.2.2.2.2.2.2.2.2.2.2.2.2.2.2.2.2.1 Zc Xc Xm (xs (Int32.ofNat i + 1).toNatClampNeg) (xs (Int32.ofNat i + 2).toNatClampNeg) hR
      exact law_26 hC hE hX hbl hv1 hv2 hf0 hL g1 g2 (tail _ _ _ _ _ (by omega) (by omega) g3)
    rcases Classical.em (sw = (27 : Int32)) with q27 | q27
    · refine ww_tableIn (pc := 33) hC 961 dL_law_33 (27 : Int32) q27 (by decide) (by decide) rfl (by decide) ?_
      obtain ⟨r, Xc1, Xm1, g1, g2, g3⟩ := hG.2.2.2.2.2.2.2.2.2.2.2.2.2.2.2.2.2.2.2.2.2.2.2.2.2.2.2.2.2.1 Zc Xc Xm  hR
      exact law_27 hC hE hX hbl  hf0 hL g1 g2 (tail _ _ _ _ _ (by omega) (by omega) g3)
    rcases Classical.em (sw = (28 : Int32)) with q28 | q28
    · refine ww_tableIn (pc := 33) hC 974 dL_law_33 (28 : Int32) q28 (by decide) (by decide) rfl (by decide) ?_
      obtain ⟨r, Xc1, Xm1, g1, g2, g3⟩ := hG.2.2.2.2.2.2.2.2.2.2.2.2.2.2.2.2.2.2.2.2.2.2.2.2.2.2.2.2.2.2.1 Zc Xc Xm  hR
      exact law_28 hC hE hX hbl  hf0 hL g1 g2 (tail _ _ _ _ _ (by omega) (by omega) g3)
    rcases Classical.em (sw = (29 : Int32)) with q29 | q29
    · refine ww_tableIn (pc := 33) hC 987 dL_law_33 (29 : Int32) q29 (by decide) (by decide) rfl (by decide) ?_
      obtain ⟨r, Xc1, Xm1, g1, g2, g3⟩ := hG.2.2.2.2.2.2.2.2.2.2.2.2.2.2.2.2.2.2.2.2.2.2.2.2.2.2.2.2.2.2.2.1 Zc Xc Xm (xs (Int32.ofNat i + 1).toNatClampNeg) (xs (Int32.ofNat i + 2).toNatClampNeg) (xs (Int32.ofNat i + 3).toNatClampNeg) hR
      exact law_29 hC hE hX hbl hv1 hv2 hv3 hf0 hL g1 g2 (tail _ _ _ _ _ (by omega) (by omega) g3)
    rcases Classical.em (sw = (30 : Int32)) with q30 | q30
    · refine ww_tableIn (pc := 33) hC 1030 dL_law_33 (30 : Int32) q30 (by decide) (by decide) rfl (by decide) ?_
      obtain ⟨r, g1, g2, g3⟩ := hG.2.2.2.2.2.2.2.2.2.2.2.2.2.2.2.2.2.2.2.2.2.2.2.2.2.2.2.2.2.2.2.2.1 Zc Xc Xm (xs (Int32.ofNat i + 1).toNatClampNeg) hR
      exact law_30 hC hE hX hbl hv1 hf0 hL g1 g2 (tail _ _ _ _ _ (by omega) (by omega) g3)
    rcases Classical.em (sw = (31 : Int32)) with q31 | q31
    · refine ww_tableIn (pc := 33) hC 1053 dL_law_33 (31 : Int32) q31 (by decide) (by decide) rfl (by decide) ?_
      obtain ⟨r, g1, g2, g3⟩ := hG.2.2.2.2.2.2.2.2.2.2.2.2.2.2.2.2.2.2.2.2.2.2.2.2.2.2.2.2.2.2.2.2.2.1 Zc Xc Xm (xs (Int32.ofNat i + 1).toNatClampNeg) (xs (Int32.ofNat i + 2).toNatClampNeg) hR
      exact law_31 hC hE hX hbl hv1 hv2 hf0 hL g1 g2 (tail _ _ _ _ _ (by omega) (by omega) g3)
    rcases Classical.em (sw = (32 : Int32)) with q32 | q32
    · refine ww_tableIn (pc := 33) hC 1086 dL_law_33 (32 : Int32) q32 (by decide) (by decide) rfl (by decide) ?_
      obtain ⟨r, g1, g2, g3⟩ := hG.2.2.2.2.2.2.2.2.2.2.2.2.2.2.2.2.2.2.2.2.2.2.2.2.2.2.2.2.2.2.2.2.2.2.1 Zc Xc Xm (xs (Int32.ofNat i + 1).toNatClampNeg) hR
      exact law_32 hC hE hX hbl hv1 hf0 hL g1 g2 (tail _ _ _ _ _ (by omega) (by omega) g3)
    rcases Classical.em (sw = (33 : Int32)) with q33 | q33
    · refine ww_tableIn (pc := 33) hC 1109 dL_law_33 (33 : Int32) q33 (by decide) (by decide) rfl (by decide) ?_
      obtain ⟨r, Xc1, Xm1, g1, g2, g3⟩ := hG.2.2.2.2.2.2.2.2.2.2.2.2.2.2.2.2.2.2.2.2.2.2.2.2.2.2.2.2.2.2.2.2.2.2.2.1 Zc Xc Xm (xs (Int32.ofNat i + 1).toNatClampNeg) (xs (Int32.ofNat i + 2).toNatClampNeg) (xs (Int32.ofNat i + 3).toNatClampNeg) hR
      exact law_33 hC hE hX hbl hv1 hv2 hv3 hf0 hL g1 g2 (tail _ _ _ _ _ (by omega) (by omega) g3)
    rcases Classical.em (sw = (34 : Int32)) with q34 | q34
    · refine ww_tableIn (pc := 33) hC 1152 dL_law_33 (34 : Int32) q34 (by decide) (by decide) rfl (by decide) ?_
      obtain ⟨r, Xc1, Xm1, g1, g2, g3⟩ := hG.2.2.2.2.2.2.2.2.2.2.2.2.2.2.2.2.2.2.2.2.2.2.2.2.2.2.2.2.2.2.2.2.2.2.2.2.1 Zc Xc Xm (xs (Int32.ofNat i + 1).toNatClampNeg) (xs (Int32.ofNat i + 2).toNatClampNeg) (xs (Int32.ofNat i + 3).toNatClampNeg) (xs (Int32.ofNat i + 4).toNatClampNeg) hR
      exact law_34 hC hE hX hbl hv1 hv2 hv3 hv4 hf0 hL g1 g2 (tail _ _ _ _ _ (by omega) (by omega) g3)
    rcases Classical.em (sw = (35 : Int32)) with q35 | q35
    · refine ww_tableIn (pc := 33) hC 1225 dL_law_33 (35 : Int32) q35 (by decide) (by decide) rfl (by decide) ?_
      obtain ⟨r, g1, g2, g3⟩ := hG.2.2.2.2.2.2.2.2.2.2.2.2.2.2.2.2.2.2.2.2.2.2.2.2.2.2.2.2.2.2.2.2.2.2.2.2.2.1 Zc Xc Xm (xs (Int32.ofNat i + 1).toNatClampNeg) (xs (Int32.ofNat i + 2).toNatClampNeg) hR
      exact law_35 hC hE hX hbl hv1 hv2 hf0 hL g1 g2 (tail _ _ _ _ _ (by omega) (by omega) g3)
    rcases Classical.em (sw = (36 : Int32)) with q36 | q36
    · refine ww_tableIn (pc := 33) hC 1259 dL_law_33 (36 : Int32) q36 (by decide) (by decide) rfl (by decide) ?_
      obtain ⟨r, Xc1, Xm1, g1, g2, g3⟩ := hG.2.2.2.2.2.2.2.2.2.2.2.2.2.2.2.2.2.2.2.2.2.2.2.2.2.2.2.2.2.2.2.2.2.2.2.2.2.2 Zc Xc Xm (xs (Int32.ofNat i + 1).toNatClampNeg) (xs (Int32.ofNat i + 2).toNatClampNeg) (xs (Int32.ofNat i + 3).toNatClampNeg) (xs (Int32.ofNat i + 4).toNatClampNeg) (xs (Int32.ofNat i + 5).toNatClampNeg) hR
      exact law_36 hC hE hX hbl hv1 hv2 hv3 hv4 hv5 hf0 hL g1 g2 (tail _ _ _ _ _ (by omega) (by omega) g3)
    refine ww_tableOut (pc := 33) hC 1322 dL_law_33 (sw_out (fun k h1 h2 => by
      rcases (show k = 0 ∨ k = 1 ∨ k = 2 ∨ k = 3 ∨ k = 4 ∨ k = 5 ∨ k = 6 ∨ k = 7 ∨ k = 8 ∨ k = 9 ∨ k = 10 ∨ k = 11 ∨ k = 12 ∨ k = 13 ∨ k = 14 ∨ k = 15 ∨ k = 16 ∨ k = 17 ∨ k = 18 ∨ k = 19 ∨ k = 20 ∨ k = 21 ∨ k = 22 ∨ k = 23 ∨ k = 24 ∨ k = 25 ∨ k = 26 ∨ k = 27 ∨ k = 28 ∨ k = 29 ∨ k = 30 ∨ k = 31 ∨ k = 32 ∨ k = 33 ∨ k = 34 ∨ k = 35 ∨ k = 36 by omega) with rfl | rfl | rfl | rfl | rfl | rfl | rfl | rfl | rfl | rfl | rfl | rfl | rfl | rfl | rfl | rfl | rfl | rfl | rfl | rfl | rfl | rfl | rfl | rfl | rfl | rfl | rfl | rfl | rfl | rfl | rfl | rfl | rfl | rfl | rfl | rfl | rfl <;> assumption)) (by decide) ?_
    exact tail _ _ _ _ _ (by omega) (by omega) hR
