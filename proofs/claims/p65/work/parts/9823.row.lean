/-! PROPERTY: the row that the text asks for, and what is true of it -/
def wZ (S V A Q E : Nat) (fx fp fm sx sy : Nat → Nat) (a b c : Nat) : Nat → Int32 :=
  let w0 := upd (upd wB 15 (I S)) 0 (I V)
  let w1 := upd (upd (upd w0 5 (I A)) 6 (I 10)) 7 (I Q)
  let w2 := upd (upd (upd (upd w1 44 (I 2)) 16 (I 1)) 45 (I 1)) 16 (I 2)
  let w3 := upd (upd w2 (50 + 0) (I 0)) 17 (I (0 + 1))
  let w4 := upd (upd w3 (50 + 1) (I 1)) 17 (I (1 + 1))
  let w5 := upd (upd w4 (50 + 2) (I 0)) 17 (I (2 + 1))
  let w6 := upd w5 10 (I E)
  let w7 := fdW w6 0 0 (I (fx 0)) (I (fp 0)) (I (fm 0))
  let w8 := fdW w7 1 1 (I (fx 1)) (I (fp 1)) (I (fm 1))
  let w9 := fdW w8 2 2 (I (fx 2)) (I (fp 2)) (I (fm 2))
  let v0 := stW w9 0 0 (I (sx 0)) (I (sy 0))
  let v1 := stW v0 1 1 (I (sx 1)) (I (sy 1))
  let v2 := stW v1 2 2 (I (sx 2)) (I (sy 2))
  let v3 := stW v2 3 0 (I (sx 3)) (I (sy 3))
  let v4 := stW v3 4 1 (I (sx 4)) (I (sy 4))
  let v5 := stW v4 5 2 (I (sx 5)) (I (sy 5))
  let v6 := upd v5 11 (I a)
  upd (upd (upd v6 12 (I b)) 13 (I 30)) 14 (I c)
theorem wZ_15 (S V A Q E : Nat) (fx fp fm sx sy : Nat → Nat) (a b c : Nat) : wZ S V A Q E fx fp fm sx sy a b c 15 = I S := by simp [wZ, upd, fdW, stW, wB]
theorem wZ_16 (S V A Q E : Nat) (fx fp fm sx sy : Nat → Nat) (a b c : Nat) : wZ S V A Q E fx fp fm sx sy a b c 16 = I 2 := by simp [wZ, upd, fdW, stW, wB]
theorem wZ_17 (S V A Q E : Nat) (fx fp fm sx sy : Nat → Nat) (a b c : Nat) : wZ S V A Q E fx fp fm sx sy a b c 17 = I 3 := by simp [wZ, upd, fdW, stW, wB]
theorem wZ_18 (S V A Q E : Nat) (fx fp fm sx sy : Nat → Nat) (a b c : Nat) : wZ S V A Q E fx fp fm sx sy a b c 18 = I 3 := by simp [wZ, upd, fdW, stW, wB]
theorem wZ_19 (S V A Q E : Nat) (fx fp fm sx sy : Nat → Nat) (a b c : Nat) : wZ S V A Q E fx fp fm sx sy a b c 19 = I 6 := by simp [wZ, upd, fdW, stW, wB]
theorem wZ_20 (S V A Q E : Nat) (fx fp fm sx sy : Nat → Nat) (a b c : Nat) : wZ S V A Q E fx fp fm sx sy a b c 20 = 0 := by simp [wZ, upd, fdW, stW, wB]
theorem wZ_23 (S V A Q E : Nat) (fx fp fm sx sy : Nat → Nat) (a b c : Nat) : wZ S V A Q E fx fp fm sx sy a b c 23 = 0 := by simp [wZ, upd, fdW, stW, wB]
theorem wZ_27 (S V A Q E : Nat) (fx fp fm sx sy : Nat → Nat) (a b c : Nat) : wZ S V A Q E fx fp fm sx sy a b c 27 = 0 := by simp [wZ, upd, fdW, stW, wB]
theorem wZ_28 (S V A Q E : Nat) (fx fp fm sx sy : Nat → Nat) (a b c : Nat) : wZ S V A Q E fx fp fm sx sy a b c 28 = 0 := by simp [wZ, upd, fdW, stW, wB]
theorem wZ_31 (S V A Q E : Nat) (fx fp fm sx sy : Nat → Nat) (a b c : Nat) : wZ S V A Q E fx fp fm sx sy a b c 31 = 0 := by simp [wZ, upd, fdW, stW, wB]
theorem wZ_32 (S V A Q E : Nat) (fx fp fm sx sy : Nat → Nat) (a b c : Nat) : wZ S V A Q E fx fp fm sx sy a b c 32 = 0 := by simp [wZ, upd, fdW, stW, wB]
theorem wZ_33 (S V A Q E : Nat) (fx fp fm sx sy : Nat → Nat) (a b c : Nat) : wZ S V A Q E fx fp fm sx sy a b c 33 = 0 := by simp [wZ, upd, fdW, stW, wB]
theorem wZ_34 (S V A Q E : Nat) (fx fp fm sx sy : Nat → Nat) (a b c : Nat) : wZ S V A Q E fx fp fm sx sy a b c 34 = 0 := by simp [wZ, upd, fdW, stW, wB]
theorem wZ_35 (S V A Q E : Nat) (fx fp fm sx sy : Nat → Nat) (a b c : Nat) : wZ S V A Q E fx fp fm sx sy a b c 35 = 0 := by simp [wZ, upd, fdW, stW, wB]
theorem wZ_36 (S V A Q E : Nat) (fx fp fm sx sy : Nat → Nat) (a b c : Nat) : wZ S V A Q E fx fp fm sx sy a b c 36 = 0 := by simp [wZ, upd, fdW, stW, wB]
theorem wZ_37 (S V A Q E : Nat) (fx fp fm sx sy : Nat → Nat) (a b c : Nat) : wZ S V A Q E fx fp fm sx sy a b c 37 = 0 := by simp [wZ, upd, fdW, stW, wB]
theorem wZ_38 (S V A Q E : Nat) (fx fp fm sx sy : Nat → Nat) (a b c : Nat) : wZ S V A Q E fx fp fm sx sy a b c 38 = 0 := by simp [wZ, upd, fdW, stW, wB]
theorem wZ_39 (S V A Q E : Nat) (fx fp fm sx sy : Nat → Nat) (a b c : Nat) : wZ S V A Q E fx fp fm sx sy a b c 39 = 0 := by simp [wZ, upd, fdW, stW, wB]
theorem wZ_40 (S V A Q E : Nat) (fx fp fm sx sy : Nat → Nat) (a b c : Nat) : wZ S V A Q E fx fp fm sx sy a b c 40 = 0 := by simp [wZ, upd, fdW, stW, wB]
theorem wZ_41 (S V A Q E : Nat) (fx fp fm sx sy : Nat → Nat) (a b c : Nat) : wZ S V A Q E fx fp fm sx sy a b c 41 = 0 := by simp [wZ, upd, fdW, stW, wB]
theorem wZ_42 (S V A Q E : Nat) (fx fp fm sx sy : Nat → Nat) (a b c : Nat) : wZ S V A Q E fx fp fm sx sy a b c 42 = 0 := by simp [wZ, upd, fdW, stW, wB]
theorem wZ_43 (S V A Q E : Nat) (fx fp fm sx sy : Nat → Nat) (a b c : Nat) : wZ S V A Q E fx fp fm sx sy a b c 43 = 0 := by simp [wZ, upd, fdW, stW, wB]
theorem wZ_44 (S V A Q E : Nat) (fx fp fm sx sy : Nat → Nat) (a b c : Nat) : wZ S V A Q E fx fp fm sx sy a b c 44 = I 2 := by simp [wZ, upd, fdW, stW, wB]
theorem wZ_45 (S V A Q E : Nat) (fx fp fm sx sy : Nat → Nat) (a b c : Nat) : wZ S V A Q E fx fp fm sx sy a b c 45 = I 1 := by simp [wZ, upd, fdW, stW, wB]
theorem wZ_50 (S V A Q E : Nat) (fx fp fm sx sy : Nat → Nat) (a b c : Nat) : wZ S V A Q E fx fp fm sx sy a b c 50 = I 0 := by simp [wZ, upd, fdW, stW, wB]
theorem wZ_51 (S V A Q E : Nat) (fx fp fm sx sy : Nat → Nat) (a b c : Nat) : wZ S V A Q E fx fp fm sx sy a b c 51 = I 1 := by simp [wZ, upd, fdW, stW, wB]
theorem wZ_52 (S V A Q E : Nat) (fx fp fm sx sy : Nat → Nat) (a b c : Nat) : wZ S V A Q E fx fp fm sx sy a b c 52 = I 0 := by simp [wZ, upd, fdW, stW, wB]
theorem wZ_58 (S V A Q E : Nat) (fx fp fm sx sy : Nat → Nat) (a b c : Nat) : wZ S V A Q E fx fp fm sx sy a b c 58 = -1 := by simp [wZ, upd, fdW, stW, wB]
theorem wZ_59 (S V A Q E : Nat) (fx fp fm sx sy : Nat → Nat) (a b c : Nat) : wZ S V A Q E fx fp fm sx sy a b c 59 = -1 := by simp [wZ, upd, fdW, stW, wB]
theorem wZ_63 (S V A Q E : Nat) (fx fp fm sx sy : Nat → Nat) (a b c : Nat) : wZ S V A Q E fx fp fm sx sy a b c 63 = 0 := by simp [wZ, upd, fdW, stW, wB]
theorem wZ_66 (S V A Q E : Nat) (fx fp fm sx sy : Nat → Nat) (a b c : Nat) : wZ S V A Q E fx fp fm sx sy a b c 66 = -1 := by simp [wZ, upd, fdW, stW, wB]
theorem wZ_67 (S V A Q E : Nat) (fx fp fm sx sy : Nat → Nat) (a b c : Nat) : wZ S V A Q E fx fp fm sx sy a b c 67 = -1 := by simp [wZ, upd, fdW, stW, wB]
theorem wZ_71 (S V A Q E : Nat) (fx fp fm sx sy : Nat → Nat) (a b c : Nat) : wZ S V A Q E fx fp fm sx sy a b c 71 = 0 := by simp [wZ, upd, fdW, stW, wB]
theorem wZ_74 (S V A Q E : Nat) (fx fp fm sx sy : Nat → Nat) (a b c : Nat) : wZ S V A Q E fx fp fm sx sy a b c 74 = -1 := by simp [wZ, upd, fdW, stW, wB]
theorem wZ_75 (S V A Q E : Nat) (fx fp fm sx sy : Nat → Nat) (a b c : Nat) : wZ S V A Q E fx fp fm sx sy a b c 75 = -1 := by simp [wZ, upd, fdW, stW, wB]
theorem wZ_79 (S V A Q E : Nat) (fx fp fm sx sy : Nat → Nat) (a b c : Nat) : wZ S V A Q E fx fp fm sx sy a b c 79 = 0 := by simp [wZ, upd, fdW, stW, wB]
theorem wZ_82 (S V A Q E : Nat) (fx fp fm sx sy : Nat → Nat) (a b c : Nat) : wZ S V A Q E fx fp fm sx sy a b c 82 = -1 := by simp [wZ, upd, fdW, stW, wB]
theorem wZ_83 (S V A Q E : Nat) (fx fp fm sx sy : Nat → Nat) (a b c : Nat) : wZ S V A Q E fx fp fm sx sy a b c 83 = -1 := by simp [wZ, upd, fdW, stW, wB]
theorem wZ_87 (S V A Q E : Nat) (fx fp fm sx sy : Nat → Nat) (a b c : Nat) : wZ S V A Q E fx fp fm sx sy a b c 87 = 0 := by simp [wZ, upd, fdW, stW, wB]
theorem wZ_90 (S V A Q E : Nat) (fx fp fm sx sy : Nat → Nat) (a b c : Nat) : wZ S V A Q E fx fp fm sx sy a b c 90 = 0 + I (fp 0) := by simp [wZ, upd, fdW, stW, wB]
theorem wZ_91 (S V A Q E : Nat) (fx fp fm sx sy : Nat → Nat) (a b c : Nat) : wZ S V A Q E fx fp fm sx sy a b c 91 = 0 := by simp [wZ, upd, fdW, stW, wB]
theorem wZ_92 (S V A Q E : Nat) (fx fp fm sx sy : Nat → Nat) (a b c : Nat) : wZ S V A Q E fx fp fm sx sy a b c 92 = 0 := by simp [wZ, upd, fdW, stW, wB]
theorem wZ_93 (S V A Q E : Nat) (fx fp fm sx sy : Nat → Nat) (a b c : Nat) : wZ S V A Q E fx fp fm sx sy a b c 93 = 0 := by simp [wZ, upd, fdW, stW, wB]
theorem wZ_94 (S V A Q E : Nat) (fx fp fm sx sy : Nat → Nat) (a b c : Nat) : wZ S V A Q E fx fp fm sx sy a b c 94 = 0 := by simp [wZ, upd, fdW, stW, wB]
theorem wZ_95 (S V A Q E : Nat) (fx fp fm sx sy : Nat → Nat) (a b c : Nat) : wZ S V A Q E fx fp fm sx sy a b c 95 = 0 + I (fp 1) := by simp [wZ, upd, fdW, stW, wB]
theorem wZ_96 (S V A Q E : Nat) (fx fp fm sx sy : Nat → Nat) (a b c : Nat) : wZ S V A Q E fx fp fm sx sy a b c 96 = 0 := by simp [wZ, upd, fdW, stW, wB]
theorem wZ_97 (S V A Q E : Nat) (fx fp fm sx sy : Nat → Nat) (a b c : Nat) : wZ S V A Q E fx fp fm sx sy a b c 97 = 0 := by simp [wZ, upd, fdW, stW, wB]
theorem wZ_98 (S V A Q E : Nat) (fx fp fm sx sy : Nat → Nat) (a b c : Nat) : wZ S V A Q E fx fp fm sx sy a b c 98 = 0 := by simp [wZ, upd, fdW, stW, wB]
theorem wZ_99 (S V A Q E : Nat) (fx fp fm sx sy : Nat → Nat) (a b c : Nat) : wZ S V A Q E fx fp fm sx sy a b c 99 = 0 := by simp [wZ, upd, fdW, stW, wB]
theorem wZ_100 (S V A Q E : Nat) (fx fp fm sx sy : Nat → Nat) (a b c : Nat) : wZ S V A Q E fx fp fm sx sy a b c 100 = 0 + I (fp 2) := by simp [wZ, upd, fdW, stW, wB]
theorem wZ_101 (S V A Q E : Nat) (fx fp fm sx sy : Nat → Nat) (a b c : Nat) : wZ S V A Q E fx fp fm sx sy a b c 101 = 0 := by simp [wZ, upd, fdW, stW, wB]
theorem wZ_102 (S V A Q E : Nat) (fx fp fm sx sy : Nat → Nat) (a b c : Nat) : wZ S V A Q E fx fp fm sx sy a b c 102 = 0 := by simp [wZ, upd, fdW, stW, wB]
theorem wZ_103 (S V A Q E : Nat) (fx fp fm sx sy : Nat → Nat) (a b c : Nat) : wZ S V A Q E fx fp fm sx sy a b c 103 = 0 := by simp [wZ, upd, fdW, stW, wB]
theorem wZ_104 (S V A Q E : Nat) (fx fp fm sx sy : Nat → Nat) (a b c : Nat) : wZ S V A Q E fx fp fm sx sy a b c 104 = 0 := by simp [wZ, upd, fdW, stW, wB]
theorem wZ_130 (S V A Q E : Nat) (fx fp fm sx sy : Nat → Nat) (a b c : Nat) : wZ S V A Q E fx fp fm sx sy a b c 130 = I 0 := by simp [wZ, upd, fdW, stW, wB]
theorem wZ_132 (S V A Q E : Nat) (fx fp fm sx sy : Nat → Nat) (a b c : Nat) : wZ S V A Q E fx fp fm sx sy a b c 132 = I (fp 0) := by simp [wZ, upd, fdW, stW, wB]
theorem wZ_134 (S V A Q E : Nat) (fx fp fm sx sy : Nat → Nat) (a b c : Nat) : wZ S V A Q E fx fp fm sx sy a b c 134 = 0 := by simp [wZ, upd, fdW, stW, wB]
theorem wZ_138 (S V A Q E : Nat) (fx fp fm sx sy : Nat → Nat) (a b c : Nat) : wZ S V A Q E fx fp fm sx sy a b c 138 = 0 := by simp [wZ, upd, fdW, stW, wB]
theorem wZ_139 (S V A Q E : Nat) (fx fp fm sx sy : Nat → Nat) (a b c : Nat) : wZ S V A Q E fx fp fm sx sy a b c 139 = 0 := by simp [wZ, upd, fdW, stW, wB]
theorem wZ_140 (S V A Q E : Nat) (fx fp fm sx sy : Nat → Nat) (a b c : Nat) : wZ S V A Q E fx fp fm sx sy a b c 140 = 0 := by simp [wZ, upd, fdW, stW, wB]
theorem wZ_141 (S V A Q E : Nat) (fx fp fm sx sy : Nat → Nat) (a b c : Nat) : wZ S V A Q E fx fp fm sx sy a b c 141 = I 1 := by simp [wZ, upd, fdW, stW, wB]
theorem wZ_143 (S V A Q E : Nat) (fx fp fm sx sy : Nat → Nat) (a b c : Nat) : wZ S V A Q E fx fp fm sx sy a b c 143 = I (fp 1) := by simp [wZ, upd, fdW, stW, wB]
theorem wZ_145 (S V A Q E : Nat) (fx fp fm sx sy : Nat → Nat) (a b c : Nat) : wZ S V A Q E fx fp fm sx sy a b c 145 = 0 := by simp [wZ, upd, fdW, stW, wB]
theorem wZ_149 (S V A Q E : Nat) (fx fp fm sx sy : Nat → Nat) (a b c : Nat) : wZ S V A Q E fx fp fm sx sy a b c 149 = 0 := by simp [wZ, upd, fdW, stW, wB]
theorem wZ_150 (S V A Q E : Nat) (fx fp fm sx sy : Nat → Nat) (a b c : Nat) : wZ S V A Q E fx fp fm sx sy a b c 150 = 0 := by simp [wZ, upd, fdW, stW, wB]
theorem wZ_151 (S V A Q E : Nat) (fx fp fm sx sy : Nat → Nat) (a b c : Nat) : wZ S V A Q E fx fp fm sx sy a b c 151 = 0 := by simp [wZ, upd, fdW, stW, wB]
theorem wZ_152 (S V A Q E : Nat) (fx fp fm sx sy : Nat → Nat) (a b c : Nat) : wZ S V A Q E fx fp fm sx sy a b c 152 = I 2 := by simp [wZ, upd, fdW, stW, wB]
theorem wZ_154 (S V A Q E : Nat) (fx fp fm sx sy : Nat → Nat) (a b c : Nat) : wZ S V A Q E fx fp fm sx sy a b c 154 = I (fp 2) := by simp [wZ, upd, fdW, stW, wB]
theorem wZ_156 (S V A Q E : Nat) (fx fp fm sx sy : Nat → Nat) (a b c : Nat) : wZ S V A Q E fx fp fm sx sy a b c 156 = 0 := by simp [wZ, upd, fdW, stW, wB]
theorem wZ_160 (S V A Q E : Nat) (fx fp fm sx sy : Nat → Nat) (a b c : Nat) : wZ S V A Q E fx fp fm sx sy a b c 160 = 0 := by simp [wZ, upd, fdW, stW, wB]
theorem wZ_161 (S V A Q E : Nat) (fx fp fm sx sy : Nat → Nat) (a b c : Nat) : wZ S V A Q E fx fp fm sx sy a b c 161 = 0 := by simp [wZ, upd, fdW, stW, wB]
theorem wZ_162 (S V A Q E : Nat) (fx fp fm sx sy : Nat → Nat) (a b c : Nat) : wZ S V A Q E fx fp fm sx sy a b c 162 = 0 := by simp [wZ, upd, fdW, stW, wB]
theorem wZ_243 (S V A Q E : Nat) (fx fp fm sx sy : Nat → Nat) (a b c : Nat) : wZ S V A Q E fx fp fm sx sy a b c 243 = 0 := by simp [wZ, upd, fdW, stW, wB]
theorem wZ_249 (S V A Q E : Nat) (fx fp fm sx sy : Nat → Nat) (a b c : Nat) : wZ S V A Q E fx fp fm sx sy a b c 249 = 0 := by simp [wZ, upd, fdW, stW, wB]
theorem wZ_255 (S V A Q E : Nat) (fx fp fm sx sy : Nat → Nat) (a b c : Nat) : wZ S V A Q E fx fp fm sx sy a b c 255 = 0 := by simp [wZ, upd, fdW, stW, wB]
theorem wZ_261 (S V A Q E : Nat) (fx fp fm sx sy : Nat → Nat) (a b c : Nat) : wZ S V A Q E fx fp fm sx sy a b c 261 = 0 := by simp [wZ, upd, fdW, stW, wB]
theorem wZ_267 (S V A Q E : Nat) (fx fp fm sx sy : Nat → Nat) (a b c : Nat) : wZ S V A Q E fx fp fm sx sy a b c 267 = 0 := by simp [wZ, upd, fdW, stW, wB]
theorem wZ_273 (S V A Q E : Nat) (fx fp fm sx sy : Nat → Nat) (a b c : Nat) : wZ S V A Q E fx fp fm sx sy a b c 273 = 0 := by simp [wZ, upd, fdW, stW, wB]
