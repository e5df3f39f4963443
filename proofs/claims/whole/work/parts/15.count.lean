-- ===== Integer.bitCount, leastOf =====
/-- Java's >>> -/
def ju (x y : Int32) : Int32 := (x.toUInt32 >>> (y.toUInt32 &&& Int32.toUInt32 31)).toInt32
/-- the five steps of bitCount -/
def jc1 (x : Int32) : Int32 := x - (ju x (nI 1) &&& nI 1431655765)
def jc2 (x : Int32) : Int32 := (x &&& nI 858993459) + (ju x (nI 2) &&& nI 858993459)
def jc3 (x : Int32) : Int32 := (x + ju x (nI 4)) &&& nI 252645135
def jc4 (x : Int32) : Int32 := x + ju x (nI 8)
def jc5 (x : Int32) : Int32 := x + ju x (nI 16)
def jbc (x : Int32) : Int32 := jc5 (jc4 (jc3 (jc2 (jc1 x)))) &&& nI 63
theorem c_bitCount (x : Int32) (h : vt_H) (Q : vt_Q) : Wp 59 0 [.int x] [] h Q ↔ Q (some (.int (jbc x))) h := by
  simp only [s_59_0, s_59_1, s_59_2, s_59_3, s_59_4, s_59_7, s_59_8, s_59_9, s_59_10, s_59_11, s_59_14, s_59_15, s_59_16, s_59_17, s_59_18, s_59_21, s_59_22, s_59_23, s_59_24, s_59_25, s_59_26, s_59_27, s_59_28, s_59_29, s_59_32, s_59_33, s_59_34, s_59_35, s_59_36, s_59_38, s_59_39, s_59_40, s_59_41, s_59_42, s_59_43, s_59_45, s_59_46, s_59_47, s_59_48, s_59_49, s_59_51, s_59_52]
  exact Iff.rfl
/-- the least number of a set -/
def jleast (x : Int32) : Int32 := jbc ((x &&& -x) - nI 1)
theorem c_leastOf (x : Int32) (h : vt_H) (Q : vt_Q) : Wp 62 0 [.int x] [] h Q ↔ Q (some (.int (jleast x))) h := by
  simp only [s_62_0, s_62_1, s_62_2, s_62_3, s_62_4, s_62_5, s_62_6, s_62_9, c_bitCount, Option.toList_some, List.append_nil, List.cons_append, List.nil_append]
  exact Iff.rfl
theorem bc_pow : ∀ k, k < 32 → jbc (j1 (nI k) - nI 1) = nI k := by decide +kernel
theorem bc_small : ∀ k, k < 64 → jbc (nI k) = nI (((List.range 6).filter (fun i => k.testBit i)).length) := by decide +kernel
theorem bt_neg (x : Int32) {i : Nat} (hi : i < 32) : bt (-x) i = (bt x i ^^ decide (∃ j, j < i ∧ bt x j = true)) := by
  unfold bt
  rw [Int32.toBitVec_neg, BitVec.getLsbD_neg]
  simp [hi]
theorem jleast_eq {x : Int32} {k : Nat} (hk : k < 32) (h1 : bt x k = true) (h0 : ∀ j, j < k → bt x j = false) : jleast x = nI k := by
  have e : x &&& -x = j1 (nI k) := by
    apply b_ext
    intro i hi
    rw [b_and, bt_neg x hi, bt_j1 hk hi]
    rcases Nat.lt_trichotomy i k with q | q | q
    · rw [h0 i q, decide_eq_false (show ¬ i = k by omega)]; rfl
    · subst q
      have : ¬ ∃ j, j < i ∧ bt x j = true := by
        rintro ⟨j, q1, q2⟩
        rw [h0 j q1] at q2
        cases q2
      rw [h1, decide_eq_false this, decide_eq_true rfl]; rfl
    · have : ∃ j, j < i ∧ bt x j = true := ⟨k, q, h1⟩
      rw [decide_eq_true this, decide_eq_false (show ¬ i = k by omega)]
      cases bt x i <;> rfl
  unfold jleast
  rw [e]
  exact bc_pow k hk
theorem bt_ex {x : Int32} (h : ¬ x = 0) : ∃ k, k < 32 ∧ bt x k = true ∧ ∀ j, j < k → bt x j = false := by
  have : ∃ k, k < 32 ∧ bt x k = true := by
    refine Classical.byContradiction fun q => h (bt_zero.mpr fun i hi => ?_)
    cases hb : bt x i with
    | false => rfl
    | true => exact absurd ⟨i, hi, hb⟩ q
  obtain ⟨k, ⟨h1, h2⟩, h3⟩ := pk_least (fun k => k < 32 ∧ bt x k = true) this
  refine ⟨k, h1, h2, fun j hj => ?_⟩
  cases hb : bt x j with
  | false => rfl
  | true => exact absurd ⟨by omega, hb⟩ (h3 j hj)
