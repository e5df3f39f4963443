-- ===== LEAVES: the methods that call nothing and loop nowhere =====
/-- Java's boolean -/
def jb (p : Prop) [Decidable p] : Int32 := if p then nI 1 else nI 0
theorem jb_t {p : Prop} [Decidable p] (h : p) : jb p = nI 1 := if_pos h
theorem jb_f {p : Prop} [Decidable p] (h : ¬ p) : jb p = nI 0 := if_neg h
theorem nI_10 : ¬ nI 1 = 0 := by decide
theorem nI_00 : nI 0 = 0 := rfl
theorem jb_0 {p : Prop} [Decidable p] : jb p = 0 ↔ ¬ p := by
  by_cases h : p
  · rw [jb_t h]; exact ⟨fun q => absurd q nI_10, fun q => absurd h q⟩
  · rw [jb_f h]; exact ⟨fun _ => h, fun _ => rfl⟩
theorem jb_01 {p : Prop} [Decidable p] : jb p = 0 ∨ jb p = 1 := by
  by_cases h : p
  · right; rw [jb_t h]; rfl
  · left; rw [jb_f h]; rfl
theorem nI_01 : nI 0 = 0 ∨ nI 0 = 1 := Or.inl rfl
theorem nI_11 : nI 1 = 0 ∨ nI 1 = 1 := Or.inr rfl
theorem jb_c {p q : Prop} [Decidable p] [Decidable q] (h : p ↔ q) : jb p = jb q := by
  by_cases hp : p
  · rw [jb_t hp, jb_t (h.mp hp)]
  · rw [jb_f hp, jb_f (fun hq => hp (h.mpr hq))]
theorem ite_jb {p : Prop} [Decidable p] {Q : vt_Q} {h : vt_H} : (if p then Q (some (.int (nI 1))) h else Q (some (.int (nI 0))) h) ↔ Q (some (.int (jb p))) h := by
  unfold jb
  split <;> exact Iff.rfl
theorem ite_jb' {p : Prop} [Decidable p] {Q : vt_Q} {h : vt_H} : (if p then Q (some (.int (nI 0))) h else Q (some (.int (nI 1))) h) ↔ Q (some (.int (jb (¬ p)))) h := by
  unfold jb
  by_cases q : p <;> simp [q]
theorem i32_nlt {x y : Int32} : ¬ x < y ↔ y ≤ x := Int32.not_lt
theorem i32_nle {x y : Int32} : ¬ x ≤ y ↔ y < x := Int32.not_le
/-- what isIn answers: is bit y of x set -/
def jbit (x y : Int32) : Int32 := jb (¬ (x.toUInt32 >>> (y.toUInt32 &&& Int32.toUInt32 31)).toInt32 &&& nI 1 = 0)
theorem c_isIn (x y : Int32) (h : vt_H) (Q : vt_Q) : Wp 11 0 [.int x, .int y] [] h Q ↔ Q (some (.int (jbit x y))) h := by
  simp only [s_11_0, s_11_1, s_11_2, s_11_3, s_11_4, s_11_5, s_11_8, s_11_9, s_11_12, s_11_13, nI_01, nI_11, true_and, ite_jb', jbit]
theorem c_variableOf (x : Int32) (h : vt_H) (Q : vt_Q) : Wp 29 0 [.int x] [] h Q ↔ Q (some (.int (-nI 1 - x))) h := by
  simp only [s_29_0, s_29_1, s_29_2, s_29_3]
theorem c_isBadName (x : Int32) (h : vt_H) (Q : vt_Q) : Wp 9 0 [.int x] [] h Q ↔ Q (some (.int (jb (x < 0 ∨ nI 16 ≤ x)))) h := by
  simp only [s_9_0, s_9_1, s_9_4, s_9_5, s_9_7, s_9_10, s_9_11, s_9_14, s_9_15, nI_01, nI_11, true_and, ← i32_nle]
  by_cases h1 : x < 0 <;> by_cases h2 : nI 16 ≤ x <;> simp [h1, h2, jb]
theorem c_isBadItem (x : Int32) (h : vt_H) (Q : vt_Q) : Wp 16 0 [.int x] [] h Q ↔ Q (some (.int (jb (x < -nI 6 ∨ nI 32 ≤ x)))) h := by
  simp only [s_16_0, s_16_1, s_16_3, s_16_6, s_16_7, s_16_9, s_16_12, s_16_13, s_16_16, s_16_17, nI_01, nI_11, true_and, ← i32_nle]
  by_cases h1 : -nI 6 ≤ x <;> by_cases h2 : nI 32 ≤ x <;> simp [h1, h2, jb]
theorem c_isBadFact (n a b : Int32) (h : vt_H) (Q : vt_Q) : Wp 8 0 [.int n, .int a, .int b] [] h Q ↔ Q (some (.int (jb ((n < 0 ∨ nI 16 ≤ n) ∨ (a < 0 ∨ nI 32 ≤ a) ∨ (b < 0 ∨ nI 32 ≤ b))))) h := by
  simp only [s_8_0, s_8_1, s_8_4, s_8_7, s_8_8, s_8_11, s_8_12, s_8_14, s_8_17, s_8_18, s_8_21, s_8_22, s_8_24, s_8_27, s_8_28, s_8_31, s_8_32, c_isBadName, Option.toList_some, List.append_nil, List.cons_append, List.nil_append, jb_0, nI_01, nI_11, true_and, ← i32_nle]
  by_cases h0 : n < 0 <;> by_cases h1 : nI 16 ≤ n <;> by_cases h2 : a < 0 <;> by_cases h3 : nI 32 ≤ a <;> by_cases h4 : b < 0 <;> by_cases h5 : nI 32 ≤ b <;> simp [h0, h1, h2, h3, h4, h5, jb]
/-- the reference's tests -/
theorem c_isName (x : Int32) (h : vt_H) (Q : vt_Q) : Wp 84 0 [.int x] [] h Q ↔ Q (some (.int (jb (¬ (x < 0 ∨ nI 16 ≤ x))))) h := by
  simp only [s_84_0, s_84_1, s_84_4, s_84_5, s_84_7, s_84_10, s_84_11, s_84_14, s_84_15, nI_01, nI_11, true_and, ← i32_nle]
  by_cases h1 : x < 0 <;> by_cases h2 : nI 16 ≤ x <;> simp [h1, h2, jb]
theorem c_isNumber (x : Int32) (h : vt_H) (Q : vt_Q) : Wp 85 0 [.int x] [] h Q ↔ Q (some (.int (jb (¬ (x < 0 ∨ nI 32 ≤ x))))) h := by
  simp only [s_85_0, s_85_1, s_85_4, s_85_5, s_85_7, s_85_10, s_85_11, s_85_14, s_85_15, nI_01, nI_11, true_and, ← i32_nle]
  by_cases h1 : x < 0 <;> by_cases h2 : nI 32 ≤ x <;> simp [h1, h2, jb]
theorem c_isItem (x : Int32) (h : vt_H) (Q : vt_Q) : Wp 89 0 [.int x] [] h Q ↔ Q (some (.int (jb (¬ (x < -nI 6 ∨ nI 32 ≤ x))))) h := by
  simp only [s_89_0, s_89_1, s_89_3, s_89_6, s_89_7, s_89_9, s_89_12, s_89_13, s_89_16, s_89_17, nI_01, nI_11, true_and, ← i32_nle]
  by_cases h1 : -nI 6 ≤ x <;> by_cases h2 : nI 32 ≤ x <;> simp [h1, h2, jb]
theorem c_isFact (n a b : Int32) (h : vt_H) (Q : vt_Q) : Wp 83 0 [.int n, .int a, .int b] [] h Q ↔ Q (some (.int (jb (¬ ((n < 0 ∨ nI 16 ≤ n) ∨ (a < 0 ∨ nI 32 ≤ a) ∨ (b < 0 ∨ nI 32 ≤ b)))))) h := by
  simp only [s_83_0, s_83_1, s_83_4, s_83_7, s_83_8, s_83_11, s_83_14, s_83_15, s_83_18, s_83_21, s_83_22, s_83_25, s_83_26, c_isName, c_isNumber, Option.toList_some, List.append_nil, List.cons_append, List.nil_append, jb_0, nI_01, nI_11, true_and]
  by_cases h0 : n < 0 <;> by_cases h1 : nI 16 ≤ n <;> by_cases h2 : a < 0 <;> by_cases h3 : nI 32 ≤ a <;> by_cases h4 : b < 0 <;> by_cases h5 : nI 32 ≤ b <;> simp [h0, h1, h2, h3, h4, h5, jb]
theorem c_code (n a b : Int32) (h : vt_H) (Q : vt_Q) : Wp 86 0 [.int n, .int a, .int b] [] h Q ↔ Q (some (.int (nI 1024 * n + nI 32 * a + b))) h := by
  simp only [s_86_0, s_86_3, s_86_4, s_86_5, s_86_7, s_86_8, s_86_9, s_86_10, s_86_11, s_86_12]
theorem jbit_bt (x : Int32) {k : Nat} (hk : k < 32) : jbit x (nI k) = jb (bt x k = true) := by
  unfold jbit
  refine jb_c ?_
  rw [bt_ju x hk]
  cases bt x k <;> simp
