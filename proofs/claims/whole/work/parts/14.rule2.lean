-- ===== RULES of the class: isSafe =====
/-- the variables of the plain parts, of the others: of the first k parts -/
def jgiven (f : Nat → Nat → Int32) (d x y : Nat) : Nat → Int32
  | 0 => nI 0
  | k + 1 => if f d k = nI 3 then jgiven f d x y k ||| jvar (f x k) (f y k) else jgiven f d x y k
def jasked (f : Nat → Nat → Int32) (d x y : Nat) (a0 : Int32) : Nat → Int32
  | 0 => a0
  | k + 1 => if f d k = nI 3 then jasked f d x y a0 k else jasked f d x y a0 k ||| jvar (f x k) (f y k)
/-- the head's item that is asked for beside the first -/
def jsecond (f : Nat → Nat → Int32) (r : Nat) : Int32 := if f r 3 = -nI 1 then f r 2 else f r 4
def jsafe (f : Nat → Nat → Int32) (r d x y k : Nat) : Prop := jasked f d x y (jvar (f r 1) (jsecond f r)) k &&& (jgiven f d x y k ^^^ -nI 1) = 0
theorem l_isSafe {r d n x y k : Nat} {h : vt_H} {Q : vt_Q} {a0 : Int32} (hR : RL h r d n x y) (hs : vh_I h r 5 = nI k) (hk : k ≤ 5) (hQ : Wp 26 79 [.ref r, .int (jgiven (vh_I h) d x y k), .int (jasked (vh_I h) d x y a0 k), .int (nI k)] [] h Q) : ∀ (j i : Nat), i + j = k → Wp 26 16 [.ref r, .int (jgiven (vh_I h) d x y i), .int (jasked (vh_I h) d x y a0 i), .int (nI i)] [] h Q := by
  obtain ⟨h1, h2, h3, h4, h5, ⟨h6, h7⟩, ⟨h8, h9⟩, ⟨h10, h11⟩, ⟨h12, h13⟩⟩ := hR
  intro j
  induction j with
  | zero =>
    intro i hi
    have : i = k := by omega
    subst this
    simp only [s_26_16, s_26_17, s_26_18, s_26_21, h1, hs, true_and, if_pos (nI_le (Nat.le_refl i) (show i < 2 ^ 31 by omega))]
    exact hQ
  | succ j ih =>
    intro i hi
    have hlt : i < k := by omega
    have hi5 : i < 5 := by omega
    simp only [s_26_16, s_26_17, s_26_18, s_26_21, h1, hs, true_and, if_neg (nI_ge hlt (show k < 2 ^ 31 by omega))]
    simp only [s_26_24, s_26_25, s_26_28, s_26_29, s_26_30, s_26_31, h1, h2, h6, h7, va_rf_s, cl (show i < 2 ^ 31 by omega), ib hi5 (show 5 ≤ 2 ^ 31 by omega), not_false_eq_true, and_self, true_and]
    have g := ih (i + 1) (by omega)
    by_cases hp : vh_I h d i = nI 3
    · rw [if_neg (by simp [hp])]
      simp only [s_26_34, s_26_35, s_26_36, s_26_39, s_26_40, s_26_41, s_26_42, s_26_45, s_26_46, s_26_47, s_26_50, s_26_51, s_26_52, h1, h4, h5, h10, h11, h12, h13, va_rf_s, cl (show i < 2 ^ 31 by omega), ib hi5 (show 5 ≤ 2 ^ 31 by omega), not_false_eq_true, and_self, true_and, c_variables, Option.toList_some, List.append_nil, List.cons_append, List.nil_append]
      simp only [s_26_73, s_26_76, nI_add]
      simp only [jgiven, jasked, if_pos hp] at g
      exact g
    · rw [if_pos hp]
      simp only [s_26_55, s_26_56, s_26_57, s_26_60, s_26_61, s_26_62, s_26_63, s_26_66, s_26_67, s_26_68, s_26_71, s_26_72, h1, h4, h5, h10, h11, h12, h13, va_rf_s, cl (show i < 2 ^ 31 by omega), ib hi5 (show 5 ≤ 2 ^ 31 by omega), not_false_eq_true, and_self, true_and, c_variables, Option.toList_some, List.append_nil, List.cons_append, List.nil_append]
      simp only [s_26_73, s_26_76, nI_add]
      simp only [jgiven, jasked, if_neg hp] at g
      exact g
theorem c_isSafe {r d n x y k : Nat} {h : vt_H} (Q : vt_Q) (hR : RL h r d n x y) (hs : vh_I h r 5 = nI k) (hk : k ≤ 5) : Wp 26 0 [.ref r, vt_un, vt_un, vt_un] [] h Q ↔ Q (some (.int (jb (jasked (vh_I h) d x y (jvar (vh_I h r 1) (jsecond (vh_I h) r)) k &&& (jgiven (vh_I h) d x y k ^^^ -nI 1) = 0)))) h := by
  refine Wp_eq' (fun Q hQ => ?_) Q
  have l := l_isSafe (Q := Q) (a0 := jvar (vh_I h r 1) (jsecond (vh_I h) r)) hR hs hk ?_ k 0 (by omega)
  · simp only [s_26_0, s_26_1, s_26_2, s_26_3, s_26_6, s_26_7, s_26_10, s_26_13, s_26_14, s_26_15, hR.1, true_and, c_secondItem _ hR, c_variables, Option.toList_some, List.append_nil, List.cons_append, List.nil_append]
    exact l
  · simp only [s_26_79, s_26_80, s_26_81, s_26_82, s_26_83, s_26_84, s_26_87, s_26_88, s_26_91, s_26_92, nI_01, nI_11, true_and]
    by_cases q : jasked (vh_I h) d x y (jvar (vh_I h r 1) (jsecond (vh_I h) r)) k &&& (jgiven (vh_I h) d x y k ^^^ -nI 1) = 0
    · rw [if_neg (by simp [q])]
      rw [jb_t q] at hQ
      exact hQ
    · rw [if_pos q]
      rw [jb_f q] at hQ
      exact hQ
