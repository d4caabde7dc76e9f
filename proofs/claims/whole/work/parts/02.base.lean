/-! words: those of the tables that stay true in every callee -/
def xtb : List Cond := lw_tbl.filter goodWord
theorem xtb_in {w : Cond} (i : Nat) (h : lw_tbl[i]? = some w) (g : goodWord w = true) : w ∈ xtb := List.mem_filter.mpr ⟨List.mem_of_getElem? h, g⟩
theorem xtb_lw {w : Cond} (h : w ∈ xtb) : w ∈ lw_tbl := (List.mem_filter.mp h).1
theorem xtb_good {big : List Cond} (hb : ∀ w ∈ xtb, w ∈ big) : GoodIn big xtb := fun w h => ⟨hb w h, good_of_word (List.mem_filter.mp h).2⟩
/-- a method's words: its own code, and all that the tables say -/
def wsM (y : MethodName) (b : ByteArray) (ml : Nat) (ret : Option FieldType) : List Cond := Cond.code y b ml ret :: xtb
theorem wsM_good {y : MethodName} {b : ByteArray} {ml : Nat} {ret : Option FieldType} (h : Cond.code y b ml ret ∈ xtb) : GoodIn xtb (wsM y b ml ret) := by
  intro w hw
  rcases List.mem_cons.mp hw with rfl | hw
  · exact ⟨h, good_of_word (List.mem_filter.mp h).2⟩
  · exact xtb_good (fun _ h => h) w hw
/-! classes by number -/
def XR : Nat → String := fun c => match c with
  | 0 => RX0
  | 1 => RX1
  | 2 => RX2
  | 3 => RX3
  | 4 => RX4
  | 5 => RX5
  | 6 => RX6
  | 7 => RX7
  | 8 => RX8
  | 9 => RX9
  | 10 => RX10
  | 11 => RX11
  | _ => RX12
def XT : Nat → u_T := fun c => match c with
  | 0 => TX0
  | 1 => TX1
  | 2 => TX2
  | 3 => TX3
  | 4 => TX4
  | 5 => TX5
  | 6 => TX6
  | 7 => TX7
  | 8 => TX8
  | 9 => TX9
  | 10 => TX10
  | 11 => TX11
  | _ => TX12
def XN : Nat → Nat := fun c => match c with
  | 0 => 2
  | 1 => 9
  | 2 => 2
  | 3 => 3
  | 4 => 2
  | 5 => 2
  | 6 => 12
  | 7 => 2
  | 8 => 2
  | 9 => 3
  | 10 => 2
  | 11 => 17
  | _ => 67
def XY : Nat → Nat → FieldType := fun c => match c with
  | 0 => tyX0
  | 1 => tyX1
  | 2 => tyX2
  | 3 => tyX3
  | 4 => tyX4
  | 5 => tyX5
  | 6 => tyX6
  | 7 => tyX7
  | 8 => tyX8
  | 9 => tyX9
  | 10 => tyX10
  | 11 => tyX11
  | _ => tyX12
def xCl : List vw_C := [(RX0, TX0, 2), (RX1, TX1, 9), (RX2, TX2, 2), (RX3, TX3, 3), (RX4, TX4, 2), (RX5, TX5, 2), (RX6, TX6, 12), (RX7, TX7, 2), (RX8, TX8, 2), (RX9, TX9, 3), (RX10, TX10, 2), (RX11, TX11, 17), (RX12, TX12, 67)]
theorem xCl_at : ∀ c, c < 13 → xCl[c]? = some (XR c, XT c, XN c)
  | 0, _ => rfl
  | 1, _ => rfl
  | 2, _ => rfl
  | 3, _ => rfl
  | 4, _ => rfl
  | 5, _ => rfl
  | 6, _ => rfl
  | 7, _ => rfl
  | 8, _ => rfl
  | 9, _ => rfl
  | 10, _ => rfl
  | 11, _ => rfl
  | 12, _ => rfl
  | _ + 13, h => absurd h (by omega)
theorem xY_ok : ∀ c, c < 13 → ∀ k, k < XN c → parseFieldDescriptor (XT c k).2.2.1 = some (XY c k)
  | 0, _ => tyX0_ok
  | 1, _ => tyX1_ok
  | 2, _ => tyX2_ok
  | 3, _ => tyX3_ok
  | 4, _ => tyX4_ok
  | 5, _ => tyX5_ok
  | 6, _ => tyX6_ok
  | 7, _ => tyX7_ok
  | 8, _ => tyX8_ok
  | 9, _ => tyX9_ok
  | 10, _ => tyX10_ok
  | 11, _ => tyX11_ok
  | 12, _ => tyX12_ok
  | _ + 13, h => absurd h (by omega)
theorem xM_ok : ∀ c, c < 13 → ∀ a, a < XN c → ∀ b, b < XN c → a ≠ b → (XT c a).2.1 ≠ (XT c b).2.1
  | 0, _ => nmX0
  | 1, _ => nmX1
  | 2, _ => nmX2
  | 3, _ => nmX3
  | 4, _ => nmX4
  | 5, _ => nmX5
  | 6, _ => nmX6
  | 7, _ => nmX7
  | 8, _ => nmX8
  | 9, _ => nmX9
  | 10, _ => nmX10
  | 11, _ => nmX11
  | 12, _ => nmX12
  | _ + 13, h => absurd h (by omega)
theorem xL_in0 : ∀ k, k < 2 → u_lay RX0 TX0 k ∈ xtb
  | 0, _ => xtb_in 374 (by decide +kernel) rfl
  | 1, _ => xtb_in 375 (by decide +kernel) rfl
  | _ + 2, h => absurd h (by omega)
theorem xL_in1 : ∀ k, k < 9 → u_lay RX1 TX1 k ∈ xtb
  | 0, _ => xtb_in 136 (by decide +kernel) rfl
  | 1, _ => xtb_in 138 (by decide +kernel) rfl
  | 2, _ => xtb_in 140 (by decide +kernel) rfl
  | 3, _ => xtb_in 142 (by decide +kernel) rfl
  | 4, _ => xtb_in 144 (by decide +kernel) rfl
  | 5, _ => xtb_in 146 (by decide +kernel) rfl
  | 6, _ => xtb_in 148 (by decide +kernel) rfl
  | 7, _ => xtb_in 150 (by decide +kernel) rfl
  | 8, _ => xtb_in 152 (by decide +kernel) rfl
  | _ + 9, h => absurd h (by omega)
theorem xL_in2 : ∀ k, k < 2 → u_lay RX2 TX2 k ∈ xtb
  | 0, _ => xtb_in 383 (by decide +kernel) rfl
  | 1, _ => xtb_in 384 (by decide +kernel) rfl
  | _ + 2, h => absurd h (by omega)
theorem xL_in3 : ∀ k, k < 3 → u_lay RX3 TX3 k ∈ xtb
  | 0, _ => xtb_in 171 (by decide +kernel) rfl
  | 1, _ => xtb_in 173 (by decide +kernel) rfl
  | 2, _ => xtb_in 175 (by decide +kernel) rfl
  | _ + 3, h => absurd h (by omega)
theorem xL_in4 : ∀ k, k < 2 → u_lay RX4 TX4 k ∈ xtb
  | 0, _ => xtb_in 397 (by decide +kernel) rfl
  | 1, _ => xtb_in 398 (by decide +kernel) rfl
  | _ + 2, h => absurd h (by omega)
theorem xL_in5 : ∀ k, k < 2 → u_lay RX5 TX5 k ∈ xtb
  | 0, _ => xtb_in 356 (by decide +kernel) rfl
  | 1, _ => xtb_in 357 (by decide +kernel) rfl
  | _ + 2, h => absurd h (by omega)
theorem xL_in6 : ∀ k, k < 12 → u_lay RX6 TX6 k ∈ xtb
  | 0, _ => xtb_in 211 (by decide +kernel) rfl
  | 1, _ => xtb_in 213 (by decide +kernel) rfl
  | 2, _ => xtb_in 215 (by decide +kernel) rfl
  | 3, _ => xtb_in 217 (by decide +kernel) rfl
  | 4, _ => xtb_in 219 (by decide +kernel) rfl
  | 5, _ => xtb_in 221 (by decide +kernel) rfl
  | 6, _ => xtb_in 223 (by decide +kernel) rfl
  | 7, _ => xtb_in 225 (by decide +kernel) rfl
  | 8, _ => xtb_in 227 (by decide +kernel) rfl
  | 9, _ => xtb_in 229 (by decide +kernel) rfl
  | 10, _ => xtb_in 231 (by decide +kernel) rfl
  | 11, _ => xtb_in 233 (by decide +kernel) rfl
  | _ + 12, h => absurd h (by omega)
theorem xL_in7 : ∀ k, k < 2 → u_lay RX7 TX7 k ∈ xtb
  | 0, _ => xtb_in 392 (by decide +kernel) rfl
  | 1, _ => xtb_in 393 (by decide +kernel) rfl
  | _ + 2, h => absurd h (by omega)
theorem xL_in8 : ∀ k, k < 2 → u_lay RX8 TX8 k ∈ xtb
  | 0, _ => xtb_in 345 (by decide +kernel) rfl
  | 1, _ => xtb_in 347 (by decide +kernel) rfl
  | _ + 2, h => absurd h (by omega)
theorem xL_in9 : ∀ k, k < 3 → u_lay RX9 TX9 k ∈ xtb
  | 0, _ => xtb_in 249 (by decide +kernel) rfl
  | 1, _ => xtb_in 251 (by decide +kernel) rfl
  | 2, _ => xtb_in 253 (by decide +kernel) rfl
  | _ + 3, h => absurd h (by omega)
theorem xL_in10 : ∀ k, k < 2 → u_lay RX10 TX10 k ∈ xtb
  | 0, _ => xtb_in 365 (by decide +kernel) rfl
  | 1, _ => xtb_in 366 (by decide +kernel) rfl
  | _ + 2, h => absurd h (by omega)
theorem xL_in11 : ∀ k, k < 17 → u_lay RX11 TX11 k ∈ xtb
  | 0, _ => xtb_in 276 (by decide +kernel) rfl
  | 1, _ => xtb_in 278 (by decide +kernel) rfl
  | 2, _ => xtb_in 280 (by decide +kernel) rfl
  | 3, _ => xtb_in 282 (by decide +kernel) rfl
  | 4, _ => xtb_in 284 (by decide +kernel) rfl
  | 5, _ => xtb_in 286 (by decide +kernel) rfl
  | 6, _ => xtb_in 288 (by decide +kernel) rfl
  | 7, _ => xtb_in 290 (by decide +kernel) rfl
  | 8, _ => xtb_in 292 (by decide +kernel) rfl
  | 9, _ => xtb_in 294 (by decide +kernel) rfl
  | 10, _ => xtb_in 296 (by decide +kernel) rfl
  | 11, _ => xtb_in 298 (by decide +kernel) rfl
  | 12, _ => xtb_in 300 (by decide +kernel) rfl
  | 13, _ => xtb_in 302 (by decide +kernel) rfl
  | 14, _ => xtb_in 304 (by decide +kernel) rfl
  | 15, _ => xtb_in 306 (by decide +kernel) rfl
  | 16, _ => xtb_in 308 (by decide +kernel) rfl
  | _ + 17, h => absurd h (by omega)
theorem xL_in12 : ∀ k, k < 67 → u_lay RX12 TX12 k ∈ xtb
  | 0, _ => xtb_in 1154 (by decide +kernel) rfl
  | 1, _ => xtb_in 1156 (by decide +kernel) rfl
  | 2, _ => xtb_in 1158 (by decide +kernel) rfl
  | 3, _ => xtb_in 1160 (by decide +kernel) rfl
  | 4, _ => xtb_in 1162 (by decide +kernel) rfl
  | 5, _ => xtb_in 1164 (by decide +kernel) rfl
  | 6, _ => xtb_in 1166 (by decide +kernel) rfl
  | 7, _ => xtb_in 1168 (by decide +kernel) rfl
  | 8, _ => xtb_in 1170 (by decide +kernel) rfl
  | 9, _ => xtb_in 1172 (by decide +kernel) rfl
  | 10, _ => xtb_in 1174 (by decide +kernel) rfl
  | 11, _ => xtb_in 1176 (by decide +kernel) rfl
  | 12, _ => xtb_in 1178 (by decide +kernel) rfl
  | 13, _ => xtb_in 1180 (by decide +kernel) rfl
  | 14, _ => xtb_in 1182 (by decide +kernel) rfl
  | 15, _ => xtb_in 1184 (by decide +kernel) rfl
  | 16, _ => xtb_in 1186 (by decide +kernel) rfl
  | 17, _ => xtb_in 1188 (by decide +kernel) rfl
  | 18, _ => xtb_in 1190 (by decide +kernel) rfl
  | 19, _ => xtb_in 1192 (by decide +kernel) rfl
  | 20, _ => xtb_in 1194 (by decide +kernel) rfl
  | 21, _ => xtb_in 1196 (by decide +kernel) rfl
  | 22, _ => xtb_in 1198 (by decide +kernel) rfl
  | 23, _ => xtb_in 1200 (by decide +kernel) rfl
  | 24, _ => xtb_in 1202 (by decide +kernel) rfl
  | 25, _ => xtb_in 1204 (by decide +kernel) rfl
  | 26, _ => xtb_in 1206 (by decide +kernel) rfl
  | 27, _ => xtb_in 1208 (by decide +kernel) rfl
  | 28, _ => xtb_in 1210 (by decide +kernel) rfl
  | 29, _ => xtb_in 1212 (by decide +kernel) rfl
  | 30, _ => xtb_in 1214 (by decide +kernel) rfl
  | 31, _ => xtb_in 1216 (by decide +kernel) rfl
  | 32, _ => xtb_in 1218 (by decide +kernel) rfl
  | 33, _ => xtb_in 1220 (by decide +kernel) rfl
  | 34, _ => xtb_in 1222 (by decide +kernel) rfl
  | 35, _ => xtb_in 1224 (by decide +kernel) rfl
  | 36, _ => xtb_in 1226 (by decide +kernel) rfl
  | 37, _ => xtb_in 1228 (by decide +kernel) rfl
  | 38, _ => xtb_in 1230 (by decide +kernel) rfl
  | 39, _ => xtb_in 1232 (by decide +kernel) rfl
  | 40, _ => xtb_in 1234 (by decide +kernel) rfl
  | 41, _ => xtb_in 1236 (by decide +kernel) rfl
  | 42, _ => xtb_in 1238 (by decide +kernel) rfl
  | 43, _ => xtb_in 1240 (by decide +kernel) rfl
  | 44, _ => xtb_in 1242 (by decide +kernel) rfl
  | 45, _ => xtb_in 1244 (by decide +kernel) rfl
  | 46, _ => xtb_in 1246 (by decide +kernel) rfl
  | 47, _ => xtb_in 1248 (by decide +kernel) rfl
  | 48, _ => xtb_in 1250 (by decide +kernel) rfl
  | 49, _ => xtb_in 1252 (by decide +kernel) rfl
  | 50, _ => xtb_in 1254 (by decide +kernel) rfl
  | 51, _ => xtb_in 1256 (by decide +kernel) rfl
  | 52, _ => xtb_in 1258 (by decide +kernel) rfl
  | 53, _ => xtb_in 1260 (by decide +kernel) rfl
  | 54, _ => xtb_in 1262 (by decide +kernel) rfl
  | 55, _ => xtb_in 1264 (by decide +kernel) rfl
  | 56, _ => xtb_in 1266 (by decide +kernel) rfl
  | 57, _ => xtb_in 1268 (by decide +kernel) rfl
  | 58, _ => xtb_in 1270 (by decide +kernel) rfl
  | 59, _ => xtb_in 1272 (by decide +kernel) rfl
  | 60, _ => xtb_in 1274 (by decide +kernel) rfl
  | 61, _ => xtb_in 1276 (by decide +kernel) rfl
  | 62, _ => xtb_in 1278 (by decide +kernel) rfl
  | 63, _ => xtb_in 1280 (by decide +kernel) rfl
  | 64, _ => xtb_in 1282 (by decide +kernel) rfl
  | 65, _ => xtb_in 1284 (by decide +kernel) rfl
  | 66, _ => xtb_in 1286 (by decide +kernel) rfl
  | _ + 67, h => absurd h (by omega)
theorem xL_in : ∀ c, c < 13 → ∀ w ∈ u_ws (XR c) (XT c) (XN c), w ∈ xtb := by
  intro c hc w hw
  obtain ⟨k, hk, rfl⟩ := List.mem_map.mp hw
  have hk := List.mem_range.mp hk
  revert k
  revert hc
  match c with
  | 0 => exact fun _ k _ _ hk => xL_in0 k hk
  | 1 => exact fun _ k _ _ hk => xL_in1 k hk
  | 2 => exact fun _ k _ _ hk => xL_in2 k hk
  | 3 => exact fun _ k _ _ hk => xL_in3 k hk
  | 4 => exact fun _ k _ _ hk => xL_in4 k hk
  | 5 => exact fun _ k _ _ hk => xL_in5 k hk
  | 6 => exact fun _ k _ _ hk => xL_in6 k hk
  | 7 => exact fun _ k _ _ hk => xL_in7 k hk
  | 8 => exact fun _ k _ _ hk => xL_in8 k hk
  | 9 => exact fun _ k _ _ hk => xL_in9 k hk
  | 10 => exact fun _ k _ _ hk => xL_in10 k hk
  | 11 => exact fun _ k _ _ hk => xL_in11 k hk
  | 12 => exact fun _ k _ _ hk => xL_in12 k hk
  | _ + 13 => exact fun h => absurd h (by omega)
