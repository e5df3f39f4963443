-- ===== LEAVES: the methods that call nothing and loop nowhere =====
/-- Java's boolean -/
def jb (p : Prop) [Decidable p] : Int32 := if p then nI 1 else nI 0
theorem jb_t {p : Prop} [Decidable p] (h : p) : jb p = nI 1 := if_pos h
theorem jb_f {p : Prop} [Decidable p] (h : ¬ p) : jb p = nI 0 := if_neg h
theorem nI_10 : ¬ nI 1 = 0 := by decide
theorem nI_00 : nI 0 = 0 := rfl
theorem jb_0 {p : Prop} [Decidable p] : jb p = 0 ↔ ¬ p := by
  by_cases h : p
  · rw [jb_t h]; exact ⟨fun q => absurd q nI_10, fun q => absurd h q⟩
  · rw [jb_f h]; exact ⟨fun _ => h, fun _ => rfl⟩
theorem jb_01 {p : Prop} [Decidable p] : jb p = 0 ∨ jb p = 1 := by
  by_cases h : p
  · right; rw [jb_t h]; rfl
  · left; rw [jb_f h]; rfl
theorem nI_01 : nI 0 = 0 ∨ nI 0 = 1 := Or.inl rfl
theorem nI_11 : nI 1 = 0 ∨ nI 1 = 1 := Or.inr rfl
theorem ite_jb {p : Prop} [Decidable p] {Q : vt_Q} {h : vt_H} : (if p then Q (some (.int (nI 1))) h else Q (some (.int (nI 0))) h) ↔ Q (some (.int (jb p))) h := by
  unfold jb
  split <;> exact Iff.rfl
theorem ite_jb' {p : Prop} [Decidable p] {Q : vt_Q} {h : vt_H} : (if p then Q (some (.int (nI 0))) h else Q (some (.int (nI 1))) h) ↔ Q (some (.int (jb (¬ p)))) h := by
  unfold jb
  by_cases q : p <;> simp [q]
/-- is bit y of x set, as isIn has it -/
def jbit (x y : Int32) : Prop := ¬ (x.toUInt32 >>> (y.toUInt32 &&& Int32.toUInt32 31)).toInt32 &&& nI 1 = 0
theorem c_isIn (x y : Int32) (h : vt_H) (Q : vt_Q) : Wp 11 0 [.int x, .int y] [] h Q ↔ Q (some (.int (jb (¬ (x.toUInt32 >>> (y.toUInt32 &&& Int32.toUInt32 31)).toInt32 &&& nI 1 = 0)))) h := by
  simp only [s_11_0, s_11_1, s_11_2, s_11_3, s_11_4, s_11_5, s_11_8, s_11_9, s_11_12, s_11_13, nI_01, nI_11, true_and, ite_jb']
theorem c_variableOf (x : Int32) (h : vt_H) (Q : vt_Q) : Wp 29 0 [.int x] [] h Q ↔ Q (some (.int (-nI 1 - x))) h := by
  simp only [s_29_0, s_29_1, s_29_2, s_29_3]
theorem c_isBadName (x : Int32) (h : vt_H) (Q : vt_Q) : Wp 9 0 [.int x] [] h Q ↔ Q (some (.int (jb (x < 0 ∨ nI 16 ≤ x)))) h := by
  simp only [s_9_0, s_9_1, s_9_4, s_9_5, s_9_7, s_9_10, s_9_11, s_9_14, s_9_15, nI_01, nI_11, true_and]
  by_cases h1 : x < 0 <;> by_cases h2 : nI 16 ≤ x <;> simp [h1, h2, jb, Int32.not_lt, Int32.not_le]
theorem c_isBadItem (x : Int32) (h : vt_H) (Q : vt_Q) : Wp 16 0 [.int x] [] h Q ↔ Q (some (.int (jb (x < -nI 6 ∨ nI 32 ≤ x)))) h := by
  simp only [s_16_0, s_16_1, s_16_3, s_16_6, s_16_7, s_16_9, s_16_12, s_16_13, s_16_16, s_16_17, nI_01, nI_11, true_and]
  by_cases h1 : x < -nI 6 <;> by_cases h2 : nI 32 ≤ x <;> simp [h1, h2, jb]
