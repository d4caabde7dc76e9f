set_option maxHeartbeats 40000000
set_option maxRecDepth 100000
/-! the class's data and the reference's go together -/
theorem good : Good Rel := ⟨rel0, fun _ _ _ ⟨_, _, _, h⟩ => ⟨h.1.1, h.1.2.1⟩, st0, st1, st2, st3, st4, st5, st6, st7, st8, st9, st10, st11, st12, st13, st14, st15, st16, st17, st18, st19, st20, st21, st22, st23, st24, st25, st26, st27, st28, st29, st30, st31, st32, st33, st34, st35, st36⟩
