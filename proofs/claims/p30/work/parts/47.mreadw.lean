/-! PURE PART 28: the reference reads a test, a part, a whole text. -/
section MB27
theorem stp_0 {op c s v ch : Nat} {W M : List Nat} : stp (0, op, W, M, c, s, v) ch = (if ch = 33 then some (0, op, 33 :: W, M, c, s, v) else if ch = 40 then some (0, op + 1, 40 :: W, M, c, s, v) else if 97 ≤ ch ∧ ch ≤ 100 then some (1, op, W, M, ch - 97, s, v) else none) := by
  show stpF 0 op W M c s v ch = _
  unfold stpF
  rw [if_pos rfl]
theorem stp_1 {op c s v ch : Nat} {W M : List Nat} : stp (1, op, W, M, c, s, v) ch = (if ch = 63 then some (4, op, W, tcode c 0 0 :: M, c, s, v) else if ch = 61 then some (2, op, W, M, c, 1, v) else if ch = 60 then some (2, op, W, M, c, 2, v) else if ch = 62 then some (2, op, W, M, c, 3, v) else none) := by
  show stpF 1 op W M c s v ch = _
  unfold stpF
  rw [if_neg (by decide), if_pos rfl]
theorem stp_2 {op c s v ch : Nat} {W M : List Nat} : stp (2, op, W, M, c, s, v) ch = (if 97 ≤ ch ∧ ch ≤ 100 then some (4, op, W, tcode c s (100 + (ch - 97)) :: M, c, s, v) else if 48 ≤ ch ∧ ch ≤ 57 then (if ch = 48 then some (4, op, W, tcode c s 0 :: M, c, s, 0) else some (3, op, W, M, c, s, ch - 48)) else none) := by
  show stpF 2 op W M c s v ch = _
  unfold stpF
  rw [if_neg (by decide), if_neg (by decide), if_pos rfl]
theorem stp_3d {op c s v ch : Nat} {W M : List Nat} (h : 48 ≤ ch ∧ ch ≤ 57) : stp (3, op, W, M, c, s, v) ch = some (4, op, W, tcode c s (v * 10 + (ch - 48)) :: M, c, s, v * 10 + (ch - 48)) := by
  show stpF 3 op W M c s v ch = _
  unfold stpF
  rw [if_neg (by decide), if_neg (by decide), if_neg (by decide), if_pos rfl, if_pos h]
theorem stp_4 {op c s v ch : Nat} {W M : List Nat} : stp (4, op, W, M, c, s, v) ch = jnt ch op W M c s v := by
  show stpF 4 op W M c s v ch = _
  unfold stpF
  rw [if_neg (by decide), if_neg (by decide), if_neg (by decide), if_neg (by decide)]
theorem stl_ne {m op c s v : Nat} {W M : List Nat} (h : ¬ m = 3) : stl (m, op, W, M, c, s, v) = (m, op, W, M, c, s, v) := by
  unfold stl
  exact if_neg h
end MB27
