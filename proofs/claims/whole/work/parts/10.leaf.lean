-- ===== LEAVES =====
/-- Java's >>> -/
def ju (x y : Int32) : Int32 := (x.toUInt32 >>> (y.toUInt32 &&& Int32.toUInt32 31)).toInt32
/-- is bit y of x set, as isIn has it -/
def ji (x y : Int32) : Int32 := if (x.toUInt32 >>> (y.toUInt32 &&& Int32.toUInt32 31)).toInt32 &&& nI 1 = 0 then nI 0 else nI 1
theorem c_isIn (x y : Int32) (h : vt_H) (Q : vt_Q) : Wp 11 0 [.int x, .int y] [] h Q ↔ Q (some (.int (ji x y))) h := by
  simp only [s_11_0, s_11_1, s_11_2, s_11_3, s_11_4, s_11_5, s_11_8, s_11_9, s_11_12, s_11_13]
  unfold ji
  split <;> simp [nI]
theorem c_variableOf (x : Int32) (h : vt_H) (Q : vt_Q) : Wp 29 0 [.int x] [] h Q ↔ Q (some (.int (-nI 1 - x))) h := by
  simp only [s_29_0, s_29_1, s_29_2, s_29_3]
