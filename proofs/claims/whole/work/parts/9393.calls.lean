-- ===== the law, call by call =====
theorem MDL_uniq {ρs : Nat → Nat → Nat} {c ci ci' t t' : Nat} {lv lv' : Nat → Nat} {S H H' : Nat → Nat → Nat → Bool} {rd rd' : Nat → Nat → Nat → Nat} (hn : ∀ i, i < c → ρs i 0 < 16) (a : MDL ρs c S ci lv H t rd) (b : MDL ρs c S ci' lv' H' t' rd') : ci = ci' ∧ (∀ n, n < 16 → lv n = lv' n) ∧ H = H' ∧ t = t' ∧ rd = rd' := by
  obtain ⟨q1, q2⟩ := SX_uniq a.1 b.1
  obtain ⟨q3, q4, q5⟩ := FIN_uniq hn a.1 b.1 a.2 b.2
  exact ⟨q1, q2, q3, q4, q5⟩
theorem FIN_S {ρs : Nat → Nat → Nat} {c ci t : Nat} {lv : Nat → Nat} {S H : Nat → Nat → Nat → Bool} {rd : Nat → Nat → Nat → Nat} (h : FIN ρs c ci lv S H t rd) {n a b : Nat} (hs : S n a b = true) : H n a b = true ∧ rd n a b = 0 := by
  have key : ∀ j, (itr ρs c lv S j).2.1 n a b = true ∧ (itr ρs c lv S j).2.2 n a b = 0 := by
    intro j
    induction j with
    | zero => exact ⟨hs, rfl⟩
    | succ j ih =>
      show (nxt ρs c lv (itr ρs c lv S j)).2.1 n a b = true ∧ (nxt ρs c lv (itr ρs c lv S j)).2.2 n a b = 0
      by_cases q : 16 ≤ (itr ρs c lv S j).1.1
      · rw [nxt_16 q]; exact ih
      · by_cases hy : anyN (bNEW ρs c lv (itr ρs c lv S j).2.1 (itr ρs c lv S j).1.1)
        · rw [nxt_y (by omega) hy]
          refine ⟨?_, ?_⟩
          · show ((itr ρs c lv S j).2.1 n a b || bNEW ρs c lv (itr ρs c lv S j).2.1 (itr ρs c lv S j).1.1 n a b) = true
            rw [ih.1]; rfl
          · show (if bNEW ρs c lv (itr ρs c lv S j).2.1 (itr ρs c lv S j).1.1 n a b = true then (itr ρs c lv S j).1.2.1 else (itr ρs c lv S j).2.2 n a b) = 0
            rw [if_neg (fun z => by obtain ⟨_, _, _, _, _, _, w6⟩ := bNEW_t.mp z; exact w6 ih.1)]
            exact ih.2
        · rw [nxt_n (by omega) hy]; exact ih
  rcases h with ⟨_, j, _, h2, _, h4⟩ | ⟨_, h2, _, h4⟩
  · rw [h2, h4]; exact key j
  · rw [h2, h4]; exact ⟨hs, rfl⟩
def INV (h : vt_H) (U : Nat) (ρs : Nat → Nat → Nat) (c : Nat) (S : Nat → Nat → Nat → Bool) (xs : Nat → Int32) (L : Nat) : Prop := CC h U ρs c S ∧ MM h ρs c S ∧ vh_X h = xs ∧ vh_L h = L
theorem MM_16 {h : vt_H} {ρs : Nat → Nat → Nat} {c : Nat} {S : Nat → Nat → Nat → Bool} (hM : MM h ρs c S) : ∀ i, i < c → ρs i 0 < 16 := fun i hi => (hM.2.1.2.2 i hi).1.1.1
theorem law_fact {i L U c : Nat} {xs : Nat → Int32} {h : vt_H} {Q : vt_Q} {ρs : Nat → Nat → Nat} {S : Nat → Nat → Nat → Bool} (hI : INV h U ρs c S xs L) (hi : i + 6 ≤ L) (hL : L ≤ 3072) (go : ∀ h' ρs' c' S', INV h' U ρs' c' S' xs L → Wp 0 659 [vt_sc, .ref 0, .ref 129, .int (nI i)] [] h' Q) : Wp 0 108 [vt_sc, .ref 0, .ref 129, .int (nI i)] [] h Q := by
  have hI' := hI
  obtain ⟨hC, hM, hX, hLn⟩ := hI
  have k0 := (CC_EN hC).1.1
  have hc := (CC_EN hC).2.2.1
  have c16 := (CC_EN hC).2.2.2
  have k9 := hM.1.1
  have hok := MM_16 hM
  have ref : ∀ (v : Int32) (h1 : vt_H), vh_X h1 = xs → vh_L h1 = L → vh_K h1 129 = 106 → Wp 82 0 [.ref 129, .int (xs (i + 1)), .int (xs (i + 2)), .int (xs (i + 3))] [] h1 (fun v' h' => Wp 0 146 [vt_sc, .ref 0, .ref 129, .int (nI i)] (v'.toList ++ [.int v]) h' Q) → Wp 0 127 [vt_sc, .ref 0, .ref 129, .int (nI i)] [.int v] h1 Q := by
    intro v h1 e1 e2 e3 z
    simp only [s_0_127, s_0_128, s_0_129, s_0_130, s_0_131, s_0_132, s_0_133, s_0_134, s_0_135, s_0_136, s_0_137, s_0_138, s_0_139, s_0_140, s_0_141, s_0_142, s_0_143, nI_add, e1, e2, e3, cl (show i + 1 < 2 ^ 31 by omega), ib (show i + 1 < L by omega) (show L ≤ 2 ^ 31 by omega), cl (show i + 2 < 2 ^ 31 by omega), ib (show i + 2 < L by omega) (show L ≤ 2 ^ 31 by omega), cl (show i + 3 < 2 ^ 31 by omega), ib (show i + 3 < L by omega) (show L ≤ 2 ^ 31 by omega), not_false_eq_true, true_and]
    exact z
  have fin : ∀ (v : Int32) h' ρs' c' S', INV h' U ρs' c' S' xs L → Wp 0 146 [vt_sc, .ref 0, .ref 129, .int (nI i)] [.int v, .int v] h' Q := by
    intro v h' ρs' c' S' z
    simp only [s_0_146, if_true]
    exact go h' ρs' c' S' z
  simp only [s_0_108, s_0_109, s_0_110, s_0_111, s_0_112, s_0_113, s_0_114, s_0_115, s_0_116, s_0_117, s_0_118, s_0_119, s_0_120, s_0_121, s_0_122, s_0_123, s_0_124, nI_add, k0, hX, hLn, cl (show i + 1 < 2 ^ 31 by omega), ib (show i + 1 < L by omega) (show L ≤ 2 ^ 31 by omega), cl (show i + 2 < 2 ^ 31 by omega), ib (show i + 2 < L by omega) (show L ≤ 2 ^ 31 by omega), cl (show i + 3 < 2 ^ 31 by omega), ib (show i + 3 < L by omega) (show L ≤ 2 ^ 31 by omega), not_false_eq_true, true_and]
  by_cases hb : jbad (xs (i + 1)) (xs (i + 2)) (xs (i + 3))
  · rw [c_fact_bad _ hb]
    simp only [Option.toList_some, Option.toList_none, List.append_nil, List.cons_append, List.nil_append]
    refine ref _ _ hX hLn k9 ?_
    rw [m_fact_bad _ hb]
    simp only [Option.toList_some, Option.toList_none, List.append_nil, List.cons_append, List.nil_append]
    exact fin _ _ _ _ _ hI'
  · obtain ⟨n, a, b, ⟨hn, ha, hb'⟩, e1, e2, e3⟩ := jgood hb
    rw [e1, e2, e3] at ref ⊢
    refine k_fact hn ha hb' hC (fun w => ?_) (fun w h1 C1 F1 => ?_)
    · simp only [Option.toList_some, Option.toList_none, List.append_nil, List.cons_append, List.nil_append]
      refine ref _ _ hX hLn k9 ?_
      refine r_fact hn ha hb' hM (fun _ => ?_) (fun w' => absurd w w')
      simp only [Option.toList_some, Option.toList_none, List.append_nil, List.cons_append, List.nil_append]
      exact fin _ _ _ _ _ hI'
    · simp only [Option.toList_some, Option.toList_none, List.append_nil, List.cons_append, List.nil_append]
      refine ref _ h1 (F1.2.1.trans hX) (F1.2.2.trans hLn) (MM_FX hM F1).1.1 ?_
      refine r_fact hn ha hb' (MM_FX hM F1) (fun w' => absurd w' w) (fun _ f' fo m2 => ?_)
      simp only [Option.toList_some, Option.toList_none, List.append_nil, List.cons_append, List.nil_append]
      exact fin _ _ _ _ _ ⟨CC_out C1 fo, m2, F1.2.1.trans hX, F1.2.2.trans hLn⟩
theorem law_remove {i L U c : Nat} {xs : Nat → Int32} {h : vt_H} {Q : vt_Q} {ρs : Nat → Nat → Nat} {S : Nat → Nat → Nat → Bool} (hI : INV h U ρs c S xs L) (hi : i + 6 ≤ L) (hL : L ≤ 3072) (go : ∀ h' ρs' c' S', INV h' U ρs' c' S' xs L → Wp 0 659 [vt_sc, .ref 0, .ref 129, .int (nI i)] [] h' Q) : Wp 0 151 [vt_sc, .ref 0, .ref 129, .int (nI i)] [] h Q := by
  have hI' := hI
  obtain ⟨hC, hM, hX, hLn⟩ := hI
  have k0 := (CC_EN hC).1.1
  have hc := (CC_EN hC).2.2.1
  have c16 := (CC_EN hC).2.2.2
  have k9 := hM.1.1
  have hok := MM_16 hM
  have ref : ∀ (v : Int32) (h1 : vt_H), vh_X h1 = xs → vh_L h1 = L → vh_K h1 129 = 106 → Wp 87 0 [.ref 129, .int (xs (i + 1)), .int (xs (i + 2)), .int (xs (i + 3))] [] h1 (fun v' h' => Wp 0 189 [vt_sc, .ref 0, .ref 129, .int (nI i)] (v'.toList ++ [.int v]) h' Q) → Wp 0 170 [vt_sc, .ref 0, .ref 129, .int (nI i)] [.int v] h1 Q := by
    intro v h1 e1 e2 e3 z
    simp only [s_0_170, s_0_171, s_0_172, s_0_173, s_0_174, s_0_175, s_0_176, s_0_177, s_0_178, s_0_179, s_0_180, s_0_181, s_0_182, s_0_183, s_0_184, s_0_185, s_0_186, nI_add, e1, e2, e3, cl (show i + 1 < 2 ^ 31 by omega), ib (show i + 1 < L by omega) (show L ≤ 2 ^ 31 by omega), cl (show i + 2 < 2 ^ 31 by omega), ib (show i + 2 < L by omega) (show L ≤ 2 ^ 31 by omega), cl (show i + 3 < 2 ^ 31 by omega), ib (show i + 3 < L by omega) (show L ≤ 2 ^ 31 by omega), not_false_eq_true, true_and]
    exact z
  have fin : ∀ (v : Int32) h' ρs' c' S', INV h' U ρs' c' S' xs L → Wp 0 189 [vt_sc, .ref 0, .ref 129, .int (nI i)] [.int v, .int v] h' Q := by
    intro v h' ρs' c' S' z
    simp only [s_0_189, if_true]
    exact go h' ρs' c' S' z
  simp only [s_0_151, s_0_152, s_0_153, s_0_154, s_0_155, s_0_156, s_0_157, s_0_158, s_0_159, s_0_160, s_0_161, s_0_162, s_0_163, s_0_164, s_0_165, s_0_166, s_0_167, nI_add, k0, hX, hLn, cl (show i + 1 < 2 ^ 31 by omega), ib (show i + 1 < L by omega) (show L ≤ 2 ^ 31 by omega), cl (show i + 2 < 2 ^ 31 by omega), ib (show i + 2 < L by omega) (show L ≤ 2 ^ 31 by omega), cl (show i + 3 < 2 ^ 31 by omega), ib (show i + 3 < L by omega) (show L ≤ 2 ^ 31 by omega), not_false_eq_true, true_and]
  by_cases hb : jbad (xs (i + 1)) (xs (i + 2)) (xs (i + 3))
  · rw [c_remove_bad _ hb]
    simp only [Option.toList_some, Option.toList_none, List.append_nil, List.cons_append, List.nil_append]
    refine ref _ _ hX hLn k9 ?_
    rw [m_remove_bad _ hb]
    simp only [Option.toList_some, Option.toList_none, List.append_nil, List.cons_append, List.nil_append]
    exact fin _ _ _ _ _ hI'
  · obtain ⟨n, a, b, ⟨hn, ha, hb'⟩, e1, e2, e3⟩ := jgood hb
    rw [e1, e2, e3] at ref ⊢
    refine k_remove hn ha hb' hC (fun w => ?_) (fun w h1 C1 F1 => ?_)
    · simp only [Option.toList_some, Option.toList_none, List.append_nil, List.cons_append, List.nil_append]
      refine ref _ _ hX hLn k9 ?_
      refine r_remove hn ha hb' hM (fun _ => ?_) (fun w' => absurd w' w)
      simp only [Option.toList_some, Option.toList_none, List.append_nil, List.cons_append, List.nil_append]
      exact fin _ _ _ _ _ hI'
    · simp only [Option.toList_some, Option.toList_none, List.append_nil, List.cons_append, List.nil_append]
      refine ref _ h1 (F1.2.1.trans hX) (F1.2.2.trans hLn) (MM_FX hM F1).1.1 ?_
      refine r_remove hn ha hb' (MM_FX hM F1) (fun w' => absurd w w') (fun _ f' fo m2 => ?_)
      simp only [Option.toList_some, Option.toList_none, List.append_nil, List.cons_append, List.nil_append]
      exact fin _ _ _ _ _ ⟨CC_out C1 fo, m2, F1.2.1.trans hX, F1.2.2.trans hLn⟩
theorem law_rule {i L U c : Nat} {xs : Nat → Int32} {h : vt_H} {Q : vt_Q} {ρs : Nat → Nat → Nat} {S : Nat → Nat → Nat → Bool} (hI : INV h U ρs c S xs L) (hi : i + 6 ≤ L) (hL : L ≤ 3072) (go : ∀ h' ρs' c' S', INV h' U ρs' c' S' xs L → Wp 0 659 [vt_sc, .ref 0, .ref 129, .int (nI i)] [] h' Q) : Wp 0 194 [vt_sc, .ref 0, .ref 129, .int (nI i)] [] h Q := by
  have hI' := hI
  obtain ⟨hC, hM, hX, hLn⟩ := hI
  have k0 := (CC_EN hC).1.1
  have hc := (CC_EN hC).2.2.1
  have c16 := (CC_EN hC).2.2.2
  have k9 := hM.1.1
  have hok := MM_16 hM
  have ref : ∀ (v : Int32) (h1 : vt_H), vh_X h1 = xs → vh_L h1 = L → vh_K h1 129 = 106 → Wp 88 0 [.ref 129, .int (xs (i + 1)), .int (xs (i + 2)), .int (xs (i + 3))] [] h1 (fun v' h' => Wp 0 232 [vt_sc, .ref 0, .ref 129, .int (nI i)] (v'.toList ++ [.int v]) h' Q) → Wp 0 213 [vt_sc, .ref 0, .ref 129, .int (nI i)] [.int v] h1 Q := by
    intro v h1 e1 e2 e3 z
    simp only [s_0_213, s_0_214, s_0_215, s_0_216, s_0_217, s_0_218, s_0_219, s_0_220, s_0_221, s_0_222, s_0_223, s_0_224, s_0_225, s_0_226, s_0_227, s_0_228, s_0_229, nI_add, e1, e2, e3, cl (show i + 1 < 2 ^ 31 by omega), ib (show i + 1 < L by omega) (show L ≤ 2 ^ 31 by omega), cl (show i + 2 < 2 ^ 31 by omega), ib (show i + 2 < L by omega) (show L ≤ 2 ^ 31 by omega), cl (show i + 3 < 2 ^ 31 by omega), ib (show i + 3 < L by omega) (show L ≤ 2 ^ 31 by omega), not_false_eq_true, true_and]
    exact z
  have fin : ∀ (v : Int32) h' ρs' c' S', INV h' U ρs' c' S' xs L → Wp 0 232 [vt_sc, .ref 0, .ref 129, .int (nI i)] [.int v, .int v] h' Q := by
    intro v h' ρs' c' S' z
    simp only [s_0_232, if_true]
    exact go h' ρs' c' S' z
  simp only [s_0_194, s_0_195, s_0_196, s_0_197, s_0_198, s_0_199, s_0_200, s_0_201, s_0_202, s_0_203, s_0_204, s_0_205, s_0_206, s_0_207, s_0_208, s_0_209, s_0_210, nI_add, k0, hX, hLn, cl (show i + 1 < 2 ^ 31 by omega), ib (show i + 1 < L by omega) (show L ≤ 2 ^ 31 by omega), cl (show i + 2 < 2 ^ 31 by omega), ib (show i + 2 < L by omega) (show L ≤ 2 ^ 31 by omega), cl (show i + 3 < 2 ^ 31 by omega), ib (show i + 3 < L by omega) (show L ≤ 2 ^ 31 by omega), not_false_eq_true, true_and]
  by_cases hb : jbadH (xs (i + 1)) (xs (i + 2)) (xs (i + 3))
  · rw [c_rule_bad _ hb]
    simp only [Option.toList_some, Option.toList_none, List.append_nil, List.cons_append, List.nil_append]
    refine ref _ _ hX hLn k9 ?_
    rw [m_rule_bad _ hb]
    simp only [Option.toList_some, Option.toList_none, List.append_nil, List.cons_append, List.nil_append]
    exact fin _ _ _ _ _ hI'
  · obtain ⟨n, hn, e1⟩ := jrng (x := xs (i + 1)) (N := 16) (by omega) (fun z => hb (Or.inl z))
    obtain ⟨x, hx, e2⟩ := jI_of (x := xs (i + 2)) (fun z => hb (Or.inr (Or.inl z)))
    obtain ⟨y, hy, e3⟩ := jI_of (x := xs (i + 3)) (fun z => hb (Or.inr (Or.inr z)))
    rw [e1, e2, e3] at ref ⊢
    refine k_rule hn hx hy hC (fun w => ?_) (fun w h1 C1 F1 => ?_)
    · simp only [Option.toList_some, Option.toList_none, List.append_nil, List.cons_append, List.nil_append]
      refine ref _ _ hX hLn k9 ?_
      refine r_rule hn hx hy hM (fun _ => ?_) (fun w' => absurd w' (by omega))
      simp only [Option.toList_some, Option.toList_none, List.append_nil, List.cons_append, List.nil_append]
      exact fin _ _ _ _ _ hI'
    · simp only [Option.toList_some, Option.toList_none, List.append_nil, List.cons_append, List.nil_append]
      refine ref _ h1 (F1.2.1.trans hX) (F1.2.2.trans hLn) (MM_FX hM F1).1.1 ?_
      refine r_rule hn hx hy (MM_FX hM F1) (fun w' => absurd w' (by omega)) (fun _ f' fo m2 => ?_)
      simp only [Option.toList_some, Option.toList_none, List.append_nil, List.cons_append, List.nil_append]
      exact fin _ _ _ _ _ ⟨CC_out C1 fo, m2, F1.2.1.trans hX, F1.2.2.trans hLn⟩
theorem law_filter {i L U c : Nat} {xs : Nat → Int32} {h : vt_H} {Q : vt_Q} {ρs : Nat → Nat → Nat} {S : Nat → Nat → Nat → Bool} (hI : INV h U ρs c S xs L) (hi : i + 6 ≤ L) (hL : L ≤ 3072) (go : ∀ h' ρs' c' S', INV h' U ρs' c' S' xs L → Wp 0 659 [vt_sc, .ref 0, .ref 129, .int (nI i)] [] h' Q) : Wp 0 316 [vt_sc, .ref 0, .ref 129, .int (nI i)] [] h Q := by
  have hI' := hI
  obtain ⟨hC, hM, hX, hLn⟩ := hI
  have k0 := (CC_EN hC).1.1
  have hc := (CC_EN hC).2.2.1
  have c16 := (CC_EN hC).2.2.2
  have k9 := hM.1.1
  have hok := MM_16 hM
  have ref : ∀ (v : Int32) (h1 : vt_H), vh_X h1 = xs → vh_L h1 = L → vh_K h1 129 = 106 → Wp 93 0 [.ref 129, .int (xs (i + 1)), .int (xs (i + 2)), .int (xs (i + 3)), .int (xs (i + 4))] [] h1 (fun v' h' => Wp 0 364 [vt_sc, .ref 0, .ref 129, .int (nI i)] (v'.toList ++ [.int v]) h' Q) → Wp 0 340 [vt_sc, .ref 0, .ref 129, .int (nI i)] [.int v] h1 Q := by
    intro v h1 e1 e2 e3 z
    simp only [s_0_340, s_0_341, s_0_342, s_0_343, s_0_344, s_0_345, s_0_346, s_0_347, s_0_348, s_0_349, s_0_350, s_0_351, s_0_352, s_0_353, s_0_354, s_0_355, s_0_356, s_0_357, s_0_358, s_0_359, s_0_360, s_0_361, nI_add, e1, e2, e3, cl (show i + 1 < 2 ^ 31 by omega), ib (show i + 1 < L by omega) (show L ≤ 2 ^ 31 by omega), cl (show i + 2 < 2 ^ 31 by omega), ib (show i + 2 < L by omega) (show L ≤ 2 ^ 31 by omega), cl (show i + 3 < 2 ^ 31 by omega), ib (show i + 3 < L by omega) (show L ≤ 2 ^ 31 by omega), cl (show i + 4 < 2 ^ 31 by omega), ib (show i + 4 < L by omega) (show L ≤ 2 ^ 31 by omega), not_false_eq_true, true_and]
    exact z
  have fin : ∀ (v : Int32) h' ρs' c' S', INV h' U ρs' c' S' xs L → Wp 0 364 [vt_sc, .ref 0, .ref 129, .int (nI i)] [.int v, .int v] h' Q := by
    intro v h' ρs' c' S' z
    simp only [s_0_364, if_true]
    exact go h' ρs' c' S' z
  simp only [s_0_316, s_0_317, s_0_318, s_0_319, s_0_320, s_0_321, s_0_322, s_0_323, s_0_324, s_0_325, s_0_326, s_0_327, s_0_328, s_0_329, s_0_330, s_0_331, s_0_332, s_0_333, s_0_334, s_0_335, s_0_336, s_0_337, nI_add, k0, hX, hLn, cl (show i + 1 < 2 ^ 31 by omega), ib (show i + 1 < L by omega) (show L ≤ 2 ^ 31 by omega), cl (show i + 2 < 2 ^ 31 by omega), ib (show i + 2 < L by omega) (show L ≤ 2 ^ 31 by omega), cl (show i + 3 < 2 ^ 31 by omega), ib (show i + 3 < L by omega) (show L ≤ 2 ^ 31 by omega), cl (show i + 4 < 2 ^ 31 by omega), ib (show i + 4 < L by omega) (show L ≤ 2 ^ 31 by omega), not_false_eq_true, true_and]
  by_cases hb : (xs (i + 2) < 0 ∨ nI 3 ≤ xs (i + 2)) ∨ jbadP (nI c) (xs (i + 1)) (xs (i + 3)) (xs (i + 4))
  · refine k_filter_bad hC hb ?_
    simp only [Option.toList_some, Option.toList_none, List.append_nil, List.cons_append, List.nil_append]
    refine ref _ _ hX hLn k9 ?_
    refine r_filter_bad hM hb ?_
    simp only [Option.toList_some, Option.toList_none, List.append_nil, List.cons_append, List.nil_append]
    exact fin _ _ _ _ _ hI'
  · obtain ⟨d, hd, e2⟩ := jrng (x := xs (i + 2)) (N := 3) (by omega) (fun z => hb (Or.inl z))
    obtain ⟨r, hr, e1⟩ := jrng (x := xs (i + 1)) (N := c) (by omega) (fun z => hb (Or.inr (Or.inl z)))
    obtain ⟨x, hx, e3⟩ := jI_of (x := xs (i + 3)) (fun z => hb (Or.inr (Or.inr (Or.inl z))))
    obtain ⟨y, hy, e4⟩ := jI_of (x := xs (i + 4)) (fun z => hb (Or.inr (Or.inr (Or.inr z))))
    rw [e1, e2, e3, e4] at ref ⊢
    refine k_filter hr hd hx hy hC (fun w => ?_) (fun w h1 C1 F1 => ?_)
    · simp only [Option.toList_some, Option.toList_none, List.append_nil, List.cons_append, List.nil_append]
      refine ref _ _ hX hLn k9 ?_
      refine r_filter hr hd hx hy hM (fun _ => ?_) (fun w' => absurd w' (by omega))
      simp only [Option.toList_some, Option.toList_none, List.append_nil, List.cons_append, List.nil_append]
      exact fin _ _ _ _ _ hI'
    · simp only [Option.toList_some, Option.toList_none, List.append_nil, List.cons_append, List.nil_append]
      refine ref _ h1 (F1.2.1.trans hX) (F1.2.2.trans hLn) (MM_FX hM F1).1.1 ?_
      refine r_filter hr hd hx hy (MM_FX hM F1) (fun w' => absurd w' (by omega)) (fun _ f' fo m2 => ?_)
      simp only [Option.toList_some, Option.toList_none, List.append_nil, List.cons_append, List.nil_append]
      exact fin _ _ _ _ _ ⟨CC_out C1 fo, m2, F1.2.1.trans hX, F1.2.2.trans hLn⟩
theorem law_aggregate {i L U c : Nat} {xs : Nat → Int32} {h : vt_H} {Q : vt_Q} {ρs : Nat → Nat → Nat} {S : Nat → Nat → Nat → Bool} (hI : INV h U ρs c S xs L) (hi : i + 6 ≤ L) (hL : L ≤ 3072) (go : ∀ h' ρs' c' S', INV h' U ρs' c' S' xs L → Wp 0 659 [vt_sc, .ref 0, .ref 129, .int (nI i)] [] h' Q) : Wp 0 369 [vt_sc, .ref 0, .ref 129, .int (nI i)] [] h Q := by
  have hI' := hI
  obtain ⟨hC, hM, hX, hLn⟩ := hI
  have k0 := (CC_EN hC).1.1
  have hc := (CC_EN hC).2.2.1
  have c16 := (CC_EN hC).2.2.2
  have k9 := hM.1.1
  have hok := MM_16 hM
  have ref : ∀ (v : Int32) (h1 : vt_H), vh_X h1 = xs → vh_L h1 = L → vh_K h1 129 = 106 → Wp 94 0 [.ref 129, .int (xs (i + 1)), .int (xs (i + 2)), .int (xs (i + 3))] [] h1 (fun v' h' => Wp 0 407 [vt_sc, .ref 0, .ref 129, .int (nI i)] (v'.toList ++ [.int v]) h' Q) → Wp 0 388 [vt_sc, .ref 0, .ref 129, .int (nI i)] [.int v] h1 Q := by
    intro v h1 e1 e2 e3 z
    simp only [s_0_388, s_0_389, s_0_390, s_0_391, s_0_392, s_0_393, s_0_394, s_0_395, s_0_396, s_0_397, s_0_398, s_0_399, s_0_400, s_0_401, s_0_402, s_0_403, s_0_404, nI_add, e1, e2, e3, cl (show i + 1 < 2 ^ 31 by omega), ib (show i + 1 < L by omega) (show L ≤ 2 ^ 31 by omega), cl (show i + 2 < 2 ^ 31 by omega), ib (show i + 2 < L by omega) (show L ≤ 2 ^ 31 by omega), cl (show i + 3 < 2 ^ 31 by omega), ib (show i + 3 < L by omega) (show L ≤ 2 ^ 31 by omega), not_false_eq_true, true_and]
    exact z
  have fin : ∀ (v : Int32) h' ρs' c' S', INV h' U ρs' c' S' xs L → Wp 0 407 [vt_sc, .ref 0, .ref 129, .int (nI i)] [.int v, .int v] h' Q := by
    intro v h' ρs' c' S' z
    simp only [s_0_407, if_true]
    exact go h' ρs' c' S' z
  simp only [s_0_369, s_0_370, s_0_371, s_0_372, s_0_373, s_0_374, s_0_375, s_0_376, s_0_377, s_0_378, s_0_379, s_0_380, s_0_381, s_0_382, s_0_383, s_0_384, s_0_385, nI_add, k0, hX, hLn, cl (show i + 1 < 2 ^ 31 by omega), ib (show i + 1 < L by omega) (show L ≤ 2 ^ 31 by omega), cl (show i + 2 < 2 ^ 31 by omega), ib (show i + 2 < L by omega) (show L ≤ 2 ^ 31 by omega), cl (show i + 3 < 2 ^ 31 by omega), ib (show i + 3 < L by omega) (show L ≤ 2 ^ 31 by omega), not_false_eq_true, true_and]
  by_cases hb : jbadA (nI c) (xs (i + 1)) (xs (i + 2)) (xs (i + 3))
  · rw [c_aggregate_bad _ k0 (by rw [hc]; exact hb)]
    simp only [Option.toList_some, Option.toList_none, List.append_nil, List.cons_append, List.nil_append]
    refine ref _ _ hX hLn k9 ?_
    refine r_aggregate_bad hM hb ?_
    simp only [Option.toList_some, Option.toList_none, List.append_nil, List.cons_append, List.nil_append]
    exact fin _ _ _ _ _ hI'
  · obtain ⟨k, v, hkv⟩ := kv_of hb
    obtain ⟨r, hr, e1⟩ := jrng (x := xs (i + 1)) (N := c) (by omega) (fun z => hb (Or.inl z))
    have h38 : ρs r 2 < 38 := by
      obtain ⟨la, fr, g, q, hE, -⟩ := hC
      exact (hE.2.1.2 r hr).2.2.1.2
    rw [e1] at ref ⊢
    refine k_aggregate hr hkv hC (fun h1 C1 F1 => ?_)
    simp only [Option.toList_some, Option.toList_none, List.append_nil, List.cons_append, List.nil_append]
    refine ref _ h1 (F1.2.1.trans hX) (F1.2.2.trans hLn) (MM_FX hM F1).1.1 ?_
    refine r_aggregate hr h38 hkv (MM_FX hM F1) (fun f' fo m2 => ?_)
    simp only [Option.toList_some, Option.toList_none, List.append_nil, List.cons_append, List.nil_append]
    exact fin _ _ _ _ _ ⟨CC_out C1 fo, m2, F1.2.1.trans hX, F1.2.2.trans hLn⟩
theorem law_drop {i L U c : Nat} {xs : Nat → Int32} {h : vt_H} {Q : vt_Q} {ρs : Nat → Nat → Nat} {S : Nat → Nat → Nat → Bool} (hI : INV h U ρs c S xs L) (hi : i + 6 ≤ L) (hL : L ≤ 3072) (go : ∀ h' ρs' c' S', INV h' U ρs' c' S' xs L → Wp 0 659 [vt_sc, .ref 0, .ref 129, .int (nI i)] [] h' Q) : Wp 0 412 [vt_sc, .ref 0, .ref 129, .int (nI i)] [] h Q := by
  have hI' := hI
  obtain ⟨hC, hM, hX, hLn⟩ := hI
  have k0 := (CC_EN hC).1.1
  have hc := (CC_EN hC).2.2.1
  have c16 := (CC_EN hC).2.2.2
  have k9 := hM.1.1
  have hok := MM_16 hM
  have ref : ∀ (v : Int32) (h1 : vt_H), vh_X h1 = xs → vh_L h1 = L → vh_K h1 129 = 106 → Wp 95 0 [.ref 129, .int (xs (i + 1)), vt_un, vt_un] [] h1 (fun v' h' => Wp 0 430 [vt_sc, .ref 0, .ref 129, .int (nI i)] (v'.toList ++ [.int v]) h' Q) → Wp 0 421 [vt_sc, .ref 0, .ref 129, .int (nI i)] [.int v] h1 Q := by
    intro v h1 e1 e2 e3 z
    simp only [s_0_421, s_0_422, s_0_423, s_0_424, s_0_425, s_0_426, s_0_427, nI_add, e1, e2, e3, cl (show i + 1 < 2 ^ 31 by omega), ib (show i + 1 < L by omega) (show L ≤ 2 ^ 31 by omega), not_false_eq_true, true_and]
    exact z
  have fin : ∀ (v : Int32) h' ρs' c' S', INV h' U ρs' c' S' xs L → Wp 0 430 [vt_sc, .ref 0, .ref 129, .int (nI i)] [.int v, .int v] h' Q := by
    intro v h' ρs' c' S' z
    simp only [s_0_430, if_true]
    exact go h' ρs' c' S' z
  simp only [s_0_412, s_0_413, s_0_414, s_0_415, s_0_416, s_0_417, s_0_418, nI_add, k0, hX, hLn, cl (show i + 1 < 2 ^ 31 by omega), ib (show i + 1 < L by omega) (show L ≤ 2 ^ 31 by omega), not_false_eq_true, true_and]
  by_cases hb : xs (i + 1) < 0 ∨ nI c ≤ xs (i + 1)
  · refine k_drop_bad hC hb ?_
    simp only [Option.toList_some, Option.toList_none, List.append_nil, List.cons_append, List.nil_append]
    refine ref _ _ hX hLn k9 ?_
    refine r_drop_bad hM hb ?_
    simp only [Option.toList_some, Option.toList_none, List.append_nil, List.cons_append, List.nil_append]
    exact fin _ _ _ _ _ hI'
  · obtain ⟨r, hr, e1⟩ := jrng (x := xs (i + 1)) (N := c) (by omega) hb
    rw [e1] at ref ⊢
    refine k_drop hr hC (fun h1 C1 F1 => ?_)
    simp only [Option.toList_some, Option.toList_none, List.append_nil, List.cons_append, List.nil_append]
    refine ref _ h1 (F1.2.1.trans hX) (F1.2.2.trans hLn) (MM_FX hM F1).1.1 ?_
    refine r_drop hr (MM_FX hM F1) (fun f' fo m2 => ?_)
    simp only [Option.toList_some, Option.toList_none, List.append_nil, List.cons_append, List.nil_append]
    exact fin _ _ _ _ _ ⟨CC_out C1 fo, m2, F1.2.1.trans hX, F1.2.2.trans hLn⟩
theorem law_safe {i L U c : Nat} {xs : Nat → Int32} {h : vt_H} {Q : vt_Q} {ρs : Nat → Nat → Nat} {S : Nat → Nat → Nat → Bool} (hI : INV h U ρs c S xs L) (hi : i + 6 ≤ L) (hL : L ≤ 3072) (go : ∀ h' ρs' c' S', INV h' U ρs' c' S' xs L → Wp 0 659 [vt_sc, .ref 0, .ref 129, .int (nI i)] [] h' Q) : Wp 0 435 [vt_sc, .ref 0, .ref 129, .int (nI i)] [] h Q := by
  have hI' := hI
  obtain ⟨hC, hM, hX, hLn⟩ := hI
  have k0 := (CC_EN hC).1.1
  have hc := (CC_EN hC).2.2.1
  have c16 := (CC_EN hC).2.2.2
  have k9 := hM.1.1
  have hok := MM_16 hM
  have ref : ∀ (v : Int32) (h1 : vt_H), vh_X h1 = xs → vh_L h1 = L → vh_K h1 129 = 106 → Wp 96 0 [.ref 129, .int (xs (i + 1))] [] h1 (fun v' h' => Wp 0 453 [vt_sc, .ref 0, .ref 129, .int (nI i)] (v'.toList ++ [.int v]) h' Q) → Wp 0 444 [vt_sc, .ref 0, .ref 129, .int (nI i)] [.int v] h1 Q := by
    intro v h1 e1 e2 e3 z
    simp only [s_0_444, s_0_445, s_0_446, s_0_447, s_0_448, s_0_449, s_0_450, nI_add, e1, e2, e3, cl (show i + 1 < 2 ^ 31 by omega), ib (show i + 1 < L by omega) (show L ≤ 2 ^ 31 by omega), not_false_eq_true, true_and]
    exact z
  have fin : ∀ (v : Int32) h' ρs' c' S', INV h' U ρs' c' S' xs L → Wp 0 453 [vt_sc, .ref 0, .ref 129, .int (nI i)] [.int v, .int v] h' Q := by
    intro v h' ρs' c' S' z
    simp only [s_0_453, if_true]
    exact go h' ρs' c' S' z
  simp only [s_0_435, s_0_436, s_0_437, s_0_438, s_0_439, s_0_440, s_0_441, nI_add, k0, hX, hLn, cl (show i + 1 < 2 ^ 31 by omega), ib (show i + 1 < L by omega) (show L ≤ 2 ^ 31 by omega), not_false_eq_true, true_and]
  by_cases hb : xs (i + 1) < 0 ∨ nI c ≤ xs (i + 1)
  · refine k_safe_bad hC hb ?_
    simp only [Option.toList_some, Option.toList_none, List.append_nil, List.cons_append, List.nil_append]
    refine ref _ _ hX hLn k9 ?_
    refine r_safe_bad hM hb ?_
    simp only [Option.toList_some, Option.toList_none, List.append_nil, List.cons_append, List.nil_append]
    exact fin _ _ _ _ _ hI'
  · obtain ⟨r, hr, e1⟩ := jrng (x := xs (i + 1)) (N := c) (by omega) hb
    rw [e1] at ref ⊢
    refine k_safe hr hC ?_
    simp only [Option.toList_some, Option.toList_none, List.append_nil, List.cons_append, List.nil_append]
    refine ref _ _ hX hLn k9 ?_
    refine r_safe hr hM ?_
    simp only [Option.toList_some, Option.toList_none, List.append_nil, List.cons_append, List.nil_append]
    exact fin _ _ _ _ _ hI'
theorem law_run {i L U c : Nat} {xs : Nat → Int32} {h : vt_H} {Q : vt_Q} {ρs : Nat → Nat → Nat} {S : Nat → Nat → Nat → Bool} (hI : INV h U ρs c S xs L) (hi : i + 6 ≤ L) (hL : L ≤ 3072) (go : ∀ h' ρs' c' S', INV h' U ρs' c' S' xs L → Wp 0 659 [vt_sc, .ref 0, .ref 129, .int (nI i)] [] h' Q) : Wp 0 458 [vt_sc, .ref 0, .ref 129, .int (nI i)] [] h Q := by
  have hI' := hI
  obtain ⟨hC, hM, hX, hLn⟩ := hI
  have k0 := (CC_EN hC).1.1
  have hc := (CC_EN hC).2.2.1
  have c16 := (CC_EN hC).2.2.2
  have k9 := hM.1.1
  have hok := MM_16 hM
  have ref : ∀ (v : Int32) (h1 : vt_H), vh_X h1 = xs → vh_L h1 = L → vh_K h1 129 = 106 → Wp 99 0 [.ref 129] [] h1 (fun v' h' => Wp 0 466 [vt_sc, .ref 0, .ref 129, .int (nI i)] (v'.toList ++ [.int v]) h' Q) → Wp 0 462 [vt_sc, .ref 0, .ref 129, .int (nI i)] [.int v] h1 Q := by
    intro v h1 e1 e2 e3 z
    simp only [s_0_462, s_0_463, nI_add, e1, e2, e3, not_false_eq_true, true_and]
    exact z
  have fin : ∀ (v : Int32) h' ρs' c' S', INV h' U ρs' c' S' xs L → Wp 0 466 [vt_sc, .ref 0, .ref 129, .int (nI i)] [.int v, .int v] h' Q := by
    intro v h' ρs' c' S' z
    simp only [s_0_466, if_true]
    exact go h' ρs' c' S' z
  simp only [s_0_458, s_0_459, nI_add, k0, hX, hLn, not_false_eq_true, true_and]
  refine k_run hC (fun h1 ci lv H tt rd C1 F1 md => ?_)
  simp only [Option.toList_some, Option.toList_none, List.append_nil, List.cons_append, List.nil_append]
  refine ref _ h1 (F1.2.1.trans hX) (F1.2.2.trans hLn) (MM_FX hM F1).1.1 ?_
  refine m_run (MM_FX hM F1) (fun f' ci' lv' H' tt' rd' fo m2 md' => ?_)
  simp only [Option.toList_some, Option.toList_none, List.append_nil, List.cons_append, List.nil_append]
  obtain ⟨q1, q2, q3, q4, q5⟩ := MDL_uniq hok md md'
  rw [← q1, ← q4]
  exact fin _ _ _ _ _ ⟨CC_out C1 fo, m2, F1.2.1.trans hX, F1.2.2.trans hLn⟩
theorem law_stratum {i L U c : Nat} {xs : Nat → Int32} {h : vt_H} {Q : vt_Q} {ρs : Nat → Nat → Nat} {S : Nat → Nat → Nat → Bool} (hI : INV h U ρs c S xs L) (hi : i + 6 ≤ L) (hL : L ≤ 3072) (go : ∀ h' ρs' c' S', INV h' U ρs' c' S' xs L → Wp 0 659 [vt_sc, .ref 0, .ref 129, .int (nI i)] [] h' Q) : Wp 0 471 [vt_sc, .ref 0, .ref 129, .int (nI i)] [] h Q := by
  have hI' := hI
  obtain ⟨hC, hM, hX, hLn⟩ := hI
  have k0 := (CC_EN hC).1.1
  have hc := (CC_EN hC).2.2.1
  have c16 := (CC_EN hC).2.2.2
  have k9 := hM.1.1
  have hok := MM_16 hM
  have ref : ∀ (v : Int32) (h1 : vt_H), vh_X h1 = xs → vh_L h1 = L → vh_K h1 129 = 106 → Wp 111 0 [.ref 129, .int (xs (i + 1))] [] h1 (fun v' h' => Wp 0 489 [vt_sc, .ref 0, .ref 129, .int (nI i)] (v'.toList ++ [.int v]) h' Q) → Wp 0 480 [vt_sc, .ref 0, .ref 129, .int (nI i)] [.int v] h1 Q := by
    intro v h1 e1 e2 e3 z
    simp only [s_0_480, s_0_481, s_0_482, s_0_483, s_0_484, s_0_485, s_0_486, nI_add, e1, e2, e3, cl (show i + 1 < 2 ^ 31 by omega), ib (show i + 1 < L by omega) (show L ≤ 2 ^ 31 by omega), not_false_eq_true, true_and]
    exact z
  have fin : ∀ (v : Int32) h' ρs' c' S', INV h' U ρs' c' S' xs L → Wp 0 489 [vt_sc, .ref 0, .ref 129, .int (nI i)] [.int v, .int v] h' Q := by
    intro v h' ρs' c' S' z
    simp only [s_0_489, if_true]
    exact go h' ρs' c' S' z
  simp only [s_0_471, s_0_472, s_0_473, s_0_474, s_0_475, s_0_476, s_0_477, nI_add, k0, hX, hLn, cl (show i + 1 < 2 ^ 31 by omega), ib (show i + 1 < L by omega) (show L ≤ 2 ^ 31 by omega), not_false_eq_true, true_and]
  by_cases hb : xs (i + 1) < 0 ∨ nI 16 ≤ xs (i + 1)
  · refine k_stratum_bad hb ?_
    simp only [Option.toList_some, Option.toList_none, List.append_nil, List.cons_append, List.nil_append]
    refine ref _ _ hX hLn k9 ?_
    refine m_stratum_bad hb ?_
    simp only [Option.toList_some, Option.toList_none, List.append_nil, List.cons_append, List.nil_append]
    exact fin _ _ _ _ _ hI'
  · obtain ⟨n, hn, e1⟩ := jrng (x := xs (i + 1)) (N := 16) (by omega) hb
    rw [e1] at ref ⊢
    refine k_stratum hn hC (fun h1 ci lv H tt rd C1 F1 md => ?_)
    simp only [Option.toList_some, Option.toList_none, List.append_nil, List.cons_append, List.nil_append]
    refine ref _ h1 (F1.2.1.trans hX) (F1.2.2.trans hLn) (MM_FX hM F1).1.1 ?_
    refine m_stratum hn (MM_FX hM F1) (fun f' ci' lv' H' tt' rd' fo m2 md' => ?_)
    simp only [Option.toList_some, Option.toList_none, List.append_nil, List.cons_append, List.nil_append]
    obtain ⟨q1, q2, q3, q4, q5⟩ := MDL_uniq hok md md'
    rw [← q1, ← q2 n hn]
    exact fin _ _ _ _ _ ⟨CC_out C1 fo, m2, F1.2.1.trans hX, F1.2.2.trans hLn⟩
theorem law_holds {i L U c : Nat} {xs : Nat → Int32} {h : vt_H} {Q : vt_Q} {ρs : Nat → Nat → Nat} {S : Nat → Nat → Nat → Bool} (hI : INV h U ρs c S xs L) (hi : i + 6 ≤ L) (hL : L ≤ 3072) (go : ∀ h' ρs' c' S', INV h' U ρs' c' S' xs L → Wp 0 659 [vt_sc, .ref 0, .ref 129, .int (nI i)] [] h' Q) : Wp 0 494 [vt_sc, .ref 0, .ref 129, .int (nI i)] [] h Q := by
  have hI' := hI
  obtain ⟨hC, hM, hX, hLn⟩ := hI
  have k0 := (CC_EN hC).1.1
  have hc := (CC_EN hC).2.2.1
  have c16 := (CC_EN hC).2.2.2
  have k9 := hM.1.1
  have hok := MM_16 hM
  have ref : ∀ (v : Int32) (h1 : vt_H), vh_X h1 = xs → vh_L h1 = L → vh_K h1 129 = 106 → Wp 112 0 [.ref 129, .int (xs (i + 1)), .int (xs (i + 2)), .int (xs (i + 3)), vt_un] [] h1 (fun v' h' => Wp 0 532 [vt_sc, .ref 0, .ref 129, .int (nI i)] (v'.toList ++ [.int v]) h' Q) → Wp 0 513 [vt_sc, .ref 0, .ref 129, .int (nI i)] [.int v] h1 Q := by
    intro v h1 e1 e2 e3 z
    simp only [s_0_513, s_0_514, s_0_515, s_0_516, s_0_517, s_0_518, s_0_519, s_0_520, s_0_521, s_0_522, s_0_523, s_0_524, s_0_525, s_0_526, s_0_527, s_0_528, s_0_529, nI_add, e1, e2, e3, cl (show i + 1 < 2 ^ 31 by omega), ib (show i + 1 < L by omega) (show L ≤ 2 ^ 31 by omega), cl (show i + 2 < 2 ^ 31 by omega), ib (show i + 2 < L by omega) (show L ≤ 2 ^ 31 by omega), cl (show i + 3 < 2 ^ 31 by omega), ib (show i + 3 < L by omega) (show L ≤ 2 ^ 31 by omega), not_false_eq_true, true_and]
    exact z
  have fin : ∀ (v : Int32) h' ρs' c' S', INV h' U ρs' c' S' xs L → Wp 0 532 [vt_sc, .ref 0, .ref 129, .int (nI i)] [.int v, .int v] h' Q := by
    intro v h' ρs' c' S' z
    simp only [s_0_532, if_true]
    exact go h' ρs' c' S' z
  simp only [s_0_494, s_0_495, s_0_496, s_0_497, s_0_498, s_0_499, s_0_500, s_0_501, s_0_502, s_0_503, s_0_504, s_0_505, s_0_506, s_0_507, s_0_508, s_0_509, s_0_510, nI_add, k0, hX, hLn, cl (show i + 1 < 2 ^ 31 by omega), ib (show i + 1 < L by omega) (show L ≤ 2 ^ 31 by omega), cl (show i + 2 < 2 ^ 31 by omega), ib (show i + 2 < L by omega) (show L ≤ 2 ^ 31 by omega), cl (show i + 3 < 2 ^ 31 by omega), ib (show i + 3 < L by omega) (show L ≤ 2 ^ 31 by omega), not_false_eq_true, true_and]
  by_cases hb : jbad (xs (i + 1)) (xs (i + 2)) (xs (i + 3))
  · refine k_holds_bad hb ?_
    simp only [Option.toList_some, Option.toList_none, List.append_nil, List.cons_append, List.nil_append]
    refine ref _ _ hX hLn k9 ?_
    refine m_holds_bad hb ?_
    simp only [Option.toList_some, Option.toList_none, List.append_nil, List.cons_append, List.nil_append]
    exact fin _ _ _ _ _ hI'
  · obtain ⟨n, a, b, ⟨hn, ha, hb'⟩, e1, e2, e3⟩ := jgood hb
    rw [e1, e2, e3] at ref ⊢
    refine k_holds hn ha hb' hC (fun w => ?_) (fun h1 ci lv H tt rd w C1 F1 md => ?_)
    · simp only [Option.toList_some, Option.toList_none, List.append_nil, List.cons_append, List.nil_append]
      refine ref _ _ hX hLn k9 ?_
      refine m_holds hn ha hb' hM (fun f' ci' lv' H' tt' rd' fo m2 md' => ?_)
      simp only [Option.toList_some, Option.toList_none, List.append_nil, List.cons_append, List.nil_append]
      rw [if_pos w]
      exact fin _ _ _ _ _ ⟨CC_out hC fo, m2, hX, hLn⟩
    · simp only [Option.toList_some, Option.toList_none, List.append_nil, List.cons_append, List.nil_append]
      refine ref _ h1 (F1.2.1.trans hX) (F1.2.2.trans hLn) (MM_FX hM F1).1.1 ?_
      refine m_holds hn ha hb' (MM_FX hM F1) (fun f' ci' lv' H' tt' rd' fo m2 md' => ?_)
      simp only [Option.toList_some, Option.toList_none, List.append_nil, List.cons_append, List.nil_append]
      obtain ⟨q1, q2, q3, q4, q5⟩ := MDL_uniq hok md md'
      rw [if_neg w, ← q3]
      exact fin _ _ _ _ _ ⟨CC_out C1 fo, m2, F1.2.1.trans hX, F1.2.2.trans hLn⟩
theorem law_round {i L U c : Nat} {xs : Nat → Int32} {h : vt_H} {Q : vt_Q} {ρs : Nat → Nat → Nat} {S : Nat → Nat → Nat → Bool} (hI : INV h U ρs c S xs L) (hi : i + 6 ≤ L) (hL : L ≤ 3072) (go : ∀ h' ρs' c' S', INV h' U ρs' c' S' xs L → Wp 0 659 [vt_sc, .ref 0, .ref 129, .int (nI i)] [] h' Q) : Wp 0 537 [vt_sc, .ref 0, .ref 129, .int (nI i)] [] h Q := by
  have hI' := hI
  obtain ⟨hC, hM, hX, hLn⟩ := hI
  have k0 := (CC_EN hC).1.1
  have hc := (CC_EN hC).2.2.1
  have c16 := (CC_EN hC).2.2.2
  have k9 := hM.1.1
  have hok := MM_16 hM
  have ref : ∀ (v : Int32) (h1 : vt_H), vh_X h1 = xs → vh_L h1 = L → vh_K h1 129 = 106 → Wp 113 0 [.ref 129, .int (xs (i + 1)), .int (xs (i + 2)), .int (xs (i + 3)), vt_un] [] h1 (fun v' h' => Wp 0 575 [vt_sc, .ref 0, .ref 129, .int (nI i)] (v'.toList ++ [.int v]) h' Q) → Wp 0 556 [vt_sc, .ref 0, .ref 129, .int (nI i)] [.int v] h1 Q := by
    intro v h1 e1 e2 e3 z
    simp only [s_0_556, s_0_557, s_0_558, s_0_559, s_0_560, s_0_561, s_0_562, s_0_563, s_0_564, s_0_565, s_0_566, s_0_567, s_0_568, s_0_569, s_0_570, s_0_571, s_0_572, nI_add, e1, e2, e3, cl (show i + 1 < 2 ^ 31 by omega), ib (show i + 1 < L by omega) (show L ≤ 2 ^ 31 by omega), cl (show i + 2 < 2 ^ 31 by omega), ib (show i + 2 < L by omega) (show L ≤ 2 ^ 31 by omega), cl (show i + 3 < 2 ^ 31 by omega), ib (show i + 3 < L by omega) (show L ≤ 2 ^ 31 by omega), not_false_eq_true, true_and]
    exact z
  have fin : ∀ (v : Int32) h' ρs' c' S', INV h' U ρs' c' S' xs L → Wp 0 575 [vt_sc, .ref 0, .ref 129, .int (nI i)] [.int v, .int v] h' Q := by
    intro v h' ρs' c' S' z
    simp only [s_0_575, if_true]
    exact go h' ρs' c' S' z
  simp only [s_0_537, s_0_538, s_0_539, s_0_540, s_0_541, s_0_542, s_0_543, s_0_544, s_0_545, s_0_546, s_0_547, s_0_548, s_0_549, s_0_550, s_0_551, s_0_552, s_0_553, nI_add, k0, hX, hLn, cl (show i + 1 < 2 ^ 31 by omega), ib (show i + 1 < L by omega) (show L ≤ 2 ^ 31 by omega), cl (show i + 2 < 2 ^ 31 by omega), ib (show i + 2 < L by omega) (show L ≤ 2 ^ 31 by omega), cl (show i + 3 < 2 ^ 31 by omega), ib (show i + 3 < L by omega) (show L ≤ 2 ^ 31 by omega), not_false_eq_true, true_and]
  by_cases hb : jbad (xs (i + 1)) (xs (i + 2)) (xs (i + 3))
  · refine k_round_bad hb ?_
    simp only [Option.toList_some, Option.toList_none, List.append_nil, List.cons_append, List.nil_append]
    refine ref _ _ hX hLn k9 ?_
    refine m_round_bad hb ?_
    simp only [Option.toList_some, Option.toList_none, List.append_nil, List.cons_append, List.nil_append]
    exact fin _ _ _ _ _ hI'
  · obtain ⟨n, a, b, ⟨hn, ha, hb'⟩, e1, e2, e3⟩ := jgood hb
    rw [e1, e2, e3] at ref ⊢
    refine k_round hn ha hb' hC (fun w => ?_) (fun h1 ci lv H tt rd w C1 F1 md => ?_)
    · simp only [Option.toList_some, Option.toList_none, List.append_nil, List.cons_append, List.nil_append]
      refine ref _ _ hX hLn k9 ?_
      refine m_round hn ha hb' hM (fun f' ci' lv' H' tt' rd' fo m2 md' => ?_)
      simp only [Option.toList_some, Option.toList_none, List.append_nil, List.cons_append, List.nil_append]
      rw [if_pos (FIN_S md'.2 w).1, (FIN_S md'.2 w).2]
      exact fin _ _ _ _ _ ⟨CC_out hC fo, m2, hX, hLn⟩
    · simp only [Option.toList_some, Option.toList_none, List.append_nil, List.cons_append, List.nil_append]
      refine ref _ h1 (F1.2.1.trans hX) (F1.2.2.trans hLn) (MM_FX hM F1).1.1 ?_
      refine m_round hn ha hb' (MM_FX hM F1) (fun f' ci' lv' H' tt' rd' fo m2 md' => ?_)
      simp only [Option.toList_some, Option.toList_none, List.append_nil, List.cons_append, List.nil_append]
      obtain ⟨q1, q2, q3, q4, q5⟩ := MDL_uniq hok md md'
      rw [← q3, ← q5]
      exact fin _ _ _ _ _ ⟨CC_out C1 fo, m2, F1.2.1.trans hX, F1.2.2.trans hLn⟩
theorem law_counts {i L U c : Nat} {xs : Nat → Int32} {h : vt_H} {Q : vt_Q} {ρs : Nat → Nat → Nat} {S : Nat → Nat → Nat → Bool} (hI : INV h U ρs c S xs L) (hi : i + 6 ≤ L) (hL : L ≤ 3072) (go : ∀ h' ρs' c' S', INV h' U ρs' c' S' xs L → Wp 0 659 [vt_sc, .ref 0, .ref 129, .int (nI i)] [] h' Q) : Wp 0 580 [vt_sc, .ref 0, .ref 129, .int (nI i)] [] h Q := by
  have hI' := hI
  obtain ⟨hC, hM, hX, hLn⟩ := hI
  have k0 := (CC_EN hC).1.1
  have hc := (CC_EN hC).2.2.1
  have c16 := (CC_EN hC).2.2.2
  have k9 := hM.1.1
  have hok := MM_16 hM
  have ref : ∀ (v : Int32) (h1 : vt_H), vh_X h1 = xs → vh_L h1 = L → vh_K h1 129 = 106 → Wp 114 0 [.ref 129, .int (xs (i + 1)), .int (xs (i + 2)), .int (xs (i + 3))] [] h1 (fun v' h' => Wp 0 618 [vt_sc, .ref 0, .ref 129, .int (nI i)] (v'.toList ++ [.int v]) h' Q) → Wp 0 599 [vt_sc, .ref 0, .ref 129, .int (nI i)] [.int v] h1 Q := by
    intro v h1 e1 e2 e3 z
    simp only [s_0_599, s_0_600, s_0_601, s_0_602, s_0_603, s_0_604, s_0_605, s_0_606, s_0_607, s_0_608, s_0_609, s_0_610, s_0_611, s_0_612, s_0_613, s_0_614, s_0_615, nI_add, e1, e2, e3, cl (show i + 1 < 2 ^ 31 by omega), ib (show i + 1 < L by omega) (show L ≤ 2 ^ 31 by omega), cl (show i + 2 < 2 ^ 31 by omega), ib (show i + 2 < L by omega) (show L ≤ 2 ^ 31 by omega), cl (show i + 3 < 2 ^ 31 by omega), ib (show i + 3 < L by omega) (show L ≤ 2 ^ 31 by omega), not_false_eq_true, true_and]
    exact z
  have fin : ∀ (v : Int32) h' ρs' c' S', INV h' U ρs' c' S' xs L → Wp 0 618 [vt_sc, .ref 0, .ref 129, .int (nI i)] [.int v, .int v] h' Q := by
    intro v h' ρs' c' S' z
    simp only [s_0_618, if_true]
    exact go h' ρs' c' S' z
  simp only [s_0_580, s_0_581, s_0_582, s_0_583, s_0_584, s_0_585, s_0_586, s_0_587, s_0_588, s_0_589, s_0_590, s_0_591, s_0_592, s_0_593, s_0_594, s_0_595, s_0_596, nI_add, k0, hX, hLn, cl (show i + 1 < 2 ^ 31 by omega), ib (show i + 1 < L by omega) (show L ≤ 2 ^ 31 by omega), cl (show i + 2 < 2 ^ 31 by omega), ib (show i + 2 < L by omega) (show L ≤ 2 ^ 31 by omega), cl (show i + 3 < 2 ^ 31 by omega), ib (show i + 3 < L by omega) (show L ≤ 2 ^ 31 by omega), not_false_eq_true, true_and]
  by_cases hb : jbad (xs (i + 1)) (xs (i + 2)) (xs (i + 3))
  · refine k_counts_bad hb ?_
    simp only [Option.toList_some, Option.toList_none, List.append_nil, List.cons_append, List.nil_append]
    refine ref _ _ hX hLn k9 ?_
    refine m_counts_bad hb ?_
    simp only [Option.toList_some, Option.toList_none, List.append_nil, List.cons_append, List.nil_append]
    exact fin _ _ _ _ _ hI'
  · obtain ⟨n, a, b, ⟨hn, ha, hb'⟩, e1, e2, e3⟩ := jgood hb
    rw [e1, e2, e3] at ref ⊢
    refine k_counts hn ha hb' hC (fun h1 ci lv H tt rd C1 F1 md => ?_)
    simp only [Option.toList_some, Option.toList_none, List.append_nil, List.cons_append, List.nil_append]
    refine ref _ h1 (F1.2.1.trans hX) (F1.2.2.trans hLn) (MM_FX hM F1).1.1 ?_
    refine m_counts hn ha hb' (MM_FX hM F1) (fun f' ci' lv' H' tt' rd' fo m2 md' => ?_)
    simp only [Option.toList_some, Option.toList_none, List.append_nil, List.cons_append, List.nil_append]
    obtain ⟨q1, q2, q3, q4, q5⟩ := MDL_uniq hok md md'
    rw [← q1, ← q3]
    exact fin _ _ _ _ _ ⟨CC_out C1 fo, m2, F1.2.1.trans hX, F1.2.2.trans hLn⟩
theorem law_row {i L U c : Nat} {xs : Nat → Int32} {h : vt_H} {Q : vt_Q} {ρs : Nat → Nat → Nat} {S : Nat → Nat → Nat → Bool} (hI : INV h U ρs c S xs L) (hi : i + 6 ≤ L) (hL : L ≤ 3072) (go : ∀ h' ρs' c' S', INV h' U ρs' c' S' xs L → Wp 0 659 [vt_sc, .ref 0, .ref 129, .int (nI i)] [] h' Q) : Wp 0 623 [vt_sc, .ref 0, .ref 129, .int (nI i)] [] h Q := by
  have hI' := hI
  obtain ⟨hC, hM, hX, hLn⟩ := hI
  have k0 := (CC_EN hC).1.1
  have hc := (CC_EN hC).2.2.1
  have c16 := (CC_EN hC).2.2.2
  have k9 := hM.1.1
  have hok := MM_16 hM
  have ref : ∀ (v : Int32) (h1 : vt_H), vh_X h1 = xs → vh_L h1 = L → vh_K h1 129 = 106 → Wp 115 0 [.ref 129, .int (xs (i + 1)), vt_un] [] h1 (fun v' h' => Wp 0 641 [vt_sc, .ref 0, .ref 129, .int (nI i)] (v'.toList ++ [.int v]) h' Q) → Wp 0 632 [vt_sc, .ref 0, .ref 129, .int (nI i)] [.int v] h1 Q := by
    intro v h1 e1 e2 e3 z
    simp only [s_0_632, s_0_633, s_0_634, s_0_635, s_0_636, s_0_637, s_0_638, nI_add, e1, e2, e3, cl (show i + 1 < 2 ^ 31 by omega), ib (show i + 1 < L by omega) (show L ≤ 2 ^ 31 by omega), not_false_eq_true, true_and]
    exact z
  have fin : ∀ (v : Int32) h' ρs' c' S', INV h' U ρs' c' S' xs L → Wp 0 641 [vt_sc, .ref 0, .ref 129, .int (nI i)] [.int v, .int v] h' Q := by
    intro v h' ρs' c' S' z
    simp only [s_0_641, if_true]
    exact go h' ρs' c' S' z
  simp only [s_0_623, s_0_624, s_0_625, s_0_626, s_0_627, s_0_628, s_0_629, nI_add, k0, hX, hLn, cl (show i + 1 < 2 ^ 31 by omega), ib (show i + 1 < L by omega) (show L ≤ 2 ^ 31 by omega), not_false_eq_true, true_and]
  by_cases hb : xs (i + 1) < nI 16383
  · obtain ⟨k, hk, ek⟩ := rwk_n hb
    refine k_row hb hk ek hC (fun h1 ci lv H tt rd v C1 F1 md hv => ?_)
    simp only [Option.toList_some, Option.toList_none, List.append_nil, List.cons_append, List.nil_append]
    refine ref _ h1 (F1.2.1.trans hX) (F1.2.2.trans hLn) (MM_FX hM F1).1.1 ?_
    refine m_row (MM_FX hM F1) (fun f' ci' lv' H' tt' rd' v' fo m2 md' a1 _ => ?_)
    simp only [Option.toList_some, Option.toList_none, List.append_nil, List.cons_append, List.nil_append]
    obtain ⟨q1, q2, q3, q4, q5⟩ := MDL_uniq hok md md'
    have a2 := a1 k hb hk ek
    rw [← q3] at a2
    rw [RWV_uniq a2 hv]
    exact fin _ _ _ _ _ ⟨CC_out C1 fo, m2, F1.2.1.trans hX, F1.2.2.trans hLn⟩
  · refine k_row_big hb ?_
    simp only [Option.toList_some, Option.toList_none, List.append_nil, List.cons_append, List.nil_append]
    refine ref _ _ hX hLn k9 ?_
    refine m_row hM (fun f' ci' lv' H' tt' rd' v' fo m2 md' _ a1 => ?_)
    simp only [Option.toList_some, Option.toList_none, List.append_nil, List.cons_append, List.nil_append]
    rw [a1 hb]
    exact fin _ _ _ _ _ ⟨CC_out hC fo, m2, hX, hLn⟩
theorem law_size {i L U c : Nat} {xs : Nat → Int32} {h : vt_H} {Q : vt_Q} {ρs : Nat → Nat → Nat} {S : Nat → Nat → Nat → Bool} (hI : INV h U ρs c S xs L) (hi : i + 6 ≤ L) (hL : L ≤ 3072) (go : ∀ h' ρs' c' S', INV h' U ρs' c' S' xs L → Wp 0 659 [vt_sc, .ref 0, .ref 129, .int (nI i)] [] h' Q) : Wp 0 646 [vt_sc, .ref 0, .ref 129, .int (nI i)] [] h Q := by
  have hI' := hI
  obtain ⟨hC, hM, hX, hLn⟩ := hI
  have k0 := (CC_EN hC).1.1
  have hc := (CC_EN hC).2.2.1
  have c16 := (CC_EN hC).2.2.2
  have k9 := hM.1.1
  have hok := MM_16 hM
  have ref : ∀ (v : Int32) (h1 : vt_H), vh_X h1 = xs → vh_L h1 = L → vh_K h1 129 = 106 → Wp 116 0 [.ref 129, vt_un, vt_un] [] h1 (fun v' h' => Wp 0 654 [vt_sc, .ref 0, .ref 129, .int (nI i)] (v'.toList ++ [.int v]) h' Q) → Wp 0 650 [vt_sc, .ref 0, .ref 129, .int (nI i)] [.int v] h1 Q := by
    intro v h1 e1 e2 e3 z
    simp only [s_0_650, s_0_651, nI_add, e1, e2, e3, not_false_eq_true, true_and]
    exact z
  have fin : ∀ (v : Int32) h' ρs' c' S', INV h' U ρs' c' S' xs L → Wp 0 654 [vt_sc, .ref 0, .ref 129, .int (nI i)] [.int v, .int v] h' Q := by
    intro v h' ρs' c' S' z
    simp only [s_0_654, if_true]
    exact go h' ρs' c' S' z
  simp only [s_0_646, s_0_647, nI_add, k0, hX, hLn, not_false_eq_true, true_and]
  refine k_size hC (fun h1 ci lv H tt rd C1 F1 md => ?_)
  simp only [Option.toList_some, Option.toList_none, List.append_nil, List.cons_append, List.nil_append]
  refine ref _ h1 (F1.2.1.trans hX) (F1.2.2.trans hLn) (MM_FX hM F1).1.1 ?_
  refine m_size (MM_FX hM F1) (fun f' ci' lv' H' tt' rd' fo m2 md' => ?_)
  simp only [Option.toList_some, Option.toList_none, List.append_nil, List.cons_append, List.nil_append]
  obtain ⟨q1, q2, q3, q4, q5⟩ := MDL_uniq hok md md'
  rw [← q3]
  exact fin _ _ _ _ _ ⟨CC_out C1 fo, m2, F1.2.1.trans hX, F1.2.2.trans hLn⟩
