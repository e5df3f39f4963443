-- ===== CASES of the class: copyLevel, linkCount, weightOf, weigh =====
/-- ints copied, from anywhere to anywhere -/
def cp5 (f : Nat → Nat → Int32) (a0 sp a dp n : Nat) : Nat → Nat → Int32 := fun b j => if b = a ∧ dp ≤ j ∧ j < dp + n then f a0 (sp + (j - dp)) else f b j
theorem vh_cp5 (h : vt_H) (a0 sp a dp n : Nat) : vh_cp h a0 sp a dp n = vh_sI h (cp5 (vh_I h) a0 sp a dp n) := by
  unfold vh_cp vh_sI
  congr 4
  funext b j
  unfold cp5
  by_cases e : b = a
  · subst e
    by_cases q : dp ≤ j ∧ j < dp + n
    · rw [if_pos rfl, if_pos ⟨rfl, q⟩, pk_cpy_in q.1 q.2]
    · rw [if_pos rfl, if_neg (fun z => q z.2), pk_cpy_out (by omega)]
  · rw [if_neg e, if_neg (fun z => e z.1)]
theorem cp5_a (f : Nat → Nat → Int32) {a0 sp a dp n b : Nat} (h : b ≠ a) (j : Nat) : cp5 f a0 sp a dp n b j = f b j := if_neg (fun z => h z.1)
theorem cp5_i (f : Nat → Nat → Int32) {a0 sp a dp n b j : Nat} (h : j < dp ∨ dp + n ≤ j) : cp5 f a0 sp a dp n b j = f b j := if_neg (fun z => by omega)
theorem cp5_s (f : Nat → Nat → Int32) {a0 sp a dp n j : Nat} (h : dp ≤ j ∧ j < dp + n) : cp5 f a0 sp a dp n a j = f a0 (sp + (j - dp)) := if_pos ⟨rfl, h⟩
theorem LV_copy {f f' : Nat → Nat → Int32} {l l' : Nat} {F : Nat → Bool} {T : Nat} {G : Nat → Nat → Nat} (h : LV f l F T G) (h13 : f' 13 10 = f 13 10) (h18 : f' 18 l' = f 18 l) (h19 : f' 19 l' = f 19 l) (h20 : ∀ v, v < 6 → f' 20 (l' * 6 + v) = f 20 (l * 6 + v)) (h21 : ¬ f 13 10 = 0 → ∀ v n, v < 6 → n < 32 → f' 21 ((l' * 6 + v) * 32 + n) = f 21 ((l * 6 + v) * 32 + n)) : LV f' l' F T G := by
  obtain ⟨a1, a2, a3, a4, a5, a6⟩ := h
  refine ⟨fun v hv => ?_, fun v h1 h2 => ?_, fun v n hv hn hF => ?_, fun hc => ⟨?_, fun v n hv hn hF hG => ?_⟩, a5, a6⟩
  · rw [h18]; exact a1 v hv
  · rw [h18]; exact a2 v h1 h2
  · rw [h20 v hv]; exact a3 v n hv hn hF
  · rw [h13] at hc; rw [h19]; exact (a4 hc).1
  · rw [h13] at hc; rw [h21 hc v n hv hn]; exact (a4 hc).2 v n hv hn hF hG
theorem c_copyLevel {l : Nat} {h : vt_H} {Q : vt_Q} {F : Nat → Bool} {T : Nat} {G : Nat → Nat → Nat} (hC : CL h) (hl : l < 2) (hL : LV (vh_I h) l F T G) (hQ : ∀ f', LF (vh_I h) f' (l + 1) → LV f' (l + 1) F T G → Q none (vh_sI h f')) : Wp 55 0 [.ref 13, .int (nI l), vt_un, vt_un] [] h Q := by
  obtain ⟨ck13, cr0, cr1, cr2, cr3, cr4, cr5, cr6, cr7, cr8, cr9, ck14, ck15, ck16, ck17, ck18, ck19, ck20, ck21, ck22, ck23, cz14, cz15, cz16, cz17, cz18, cz19, cz20, cz21, cz22, cz23⟩ := hC
  simp only [s_55_0, s_55_1, s_55_2, s_55_3, s_55_4, s_55_5, s_55_8, s_55_9, s_55_10, s_55_13, s_55_14, s_55_15, s_55_16, s_55_17, s_55_20, s_55_21, s_55_22, s_55_25, s_55_26, s_55_27, s_55_28, s_55_29, s_55_32, s_55_33, s_55_35, s_55_36, s_55_37, s_55_40, s_55_41, s_55_43, s_55_44, s_55_46, s_55_49, s_55_50, ck13, cr0, cr1, cr2, cr3, cr4, cr5, cr6, cr7, cr8, cr9, ck14, ck15, ck16, ck17, ck18, ck19, ck20, ck21, ck22, ck23, cz14, cz15, cz16, cz17, cz18, cz19, cz20, cz21, cz22, cz23, va_rf_s, pk_mul, nI_add, not_false_eq_true, and_self, true_and, Option.toList_some, Option.toList_none, List.append_nil, List.cons_append, List.nil_append, nI_01, nI_11, vh_K_wI, vh_R_wI, vh_Z_wI, vh_wI_sI, vh_K_sI, vh_R_sI, vh_Z_sI, vh_sI_sI, vh_I_sI, cl (show l < 2 ^ 31 by omega), ib (show l < 3 by omega) (show 3 ≤ 2 ^ 31 by omega), cl (show l + 1 < 2 ^ 31 by omega), ib (show l + 1 < 3 by omega) (show 3 ≤ 2 ^ 31 by omega), vh_cp5, cl (show l * 6 < 2 ^ 31 by omega), cl (show (l + 1) * 6 < 2 ^ 31 by omega), cl (show 6 < 2 ^ 31 by omega), nI_pos (show l * 6 < 2 ^ 31 by omega), nI_pos (show (l + 1) * 6 < 2 ^ 31 by omega), nI_pos (show 6 < 2 ^ 31 by omega), List.length_nil, Nat.zero_le, show l * 6 + 6 ≤ 18 by omega, show (l + 1) * 6 + 6 ≤ 18 by omega, s_55_53]
  have e18 : ∀ g : Nat → Nat → Int32, cp5 g 20 (l * 6) 20 ((l + 1) * 6) 6 13 10 = g 13 10 := fun g => cp5_a g (by decide) _
  have lf : LF (vh_I h) (cp5 (up2 (up2 (vh_I h) 18 (l + 1) (vh_I h 18 l)) 19 (l + 1) (up2 (vh_I h) 18 (l + 1) (vh_I h 18 l) 19 l)) 20 (l * 6) 20 ((l + 1) * 6) 6) (l + 1) := by
    have a := LF_up (x := up2 (vh_I h) 18 (l + 1) (vh_I h 18 l) 19 l) (a := 19) (i := l + 1) (LF_up (x := vh_I h 18 l) (a := 18) (i := l + 1) (LF_refl (vh_I h) (l + 1)) (by omega)) (by omega)
    refine ⟨fun c hc j => ?_, fun j hj => ⟨?_, ?_⟩, fun j hj => ?_, fun j hj => ?_⟩
    · rw [cp5_a _ (by omega)]; exact a.1 c hc j
    · rw [cp5_a _ (by decide)]; exact (a.2.1 j hj).1
    · rw [cp5_a _ (by decide)]; exact (a.2.1 j hj).2
    · rw [cp5_i _ (by omega)]; exact a.2.2.1 j hj
    · rw [cp5_a _ (by decide)]; exact a.2.2.2 j hj
  have e1 : ∀ x y : Int32, cp5 (up2 (up2 (vh_I h) 18 (l + 1) x) 19 (l + 1) y) 20 (l * 6) 20 ((l + 1) * 6) 6 18 (l + 1) = x := fun x y => by
    rw [cp5_a _ (by decide), up2_a _ _ _ (by decide), up2_s]
  have e2 : ∀ x y : Int32, cp5 (up2 (up2 (vh_I h) 18 (l + 1) x) 19 (l + 1) y) 20 (l * 6) 20 ((l + 1) * 6) 6 19 (l + 1) = y := fun x y => by
    rw [cp5_a _ (by decide), up2_s]
  have e3 : ∀ (x y : Int32) (v : Nat), v < 6 → cp5 (up2 (up2 (vh_I h) 18 (l + 1) x) 19 (l + 1) y) 20 (l * 6) 20 ((l + 1) * 6) 6 20 ((l + 1) * 6 + v) = vh_I h 20 (l * 6 + v) := fun x y v hv => by
    rw [cp5_s _ (by omega), up2_a _ _ _ (by decide), up2_a _ _ _ (by decide)]
    congr 1
    omega
  by_cases q : vh_I h 13 10 = 0
  · rw [if_pos (by rw [e18, up2_a _ _ _ (by decide), up2_a _ _ _ (by decide)]; exact q)]
    simp only [s_55_78]
    refine hQ _ lf (LV_copy hL ?_ (e1 _ _) ?_ (fun v hv => e3 _ _ v hv) (fun z => absurd q z))
    · rw [e18, up2_a _ _ _ (by decide), up2_a _ _ _ (by decide)]
    · rw [e2, up2_a _ _ _ (by decide)]
  · rw [if_neg (by rw [e18, up2_a _ _ _ (by decide), up2_a _ _ _ (by decide)]; exact q)]
    simp only [s_55_56, s_55_59, s_55_60, s_55_61, s_55_64, s_55_65, s_55_66, s_55_67, s_55_68, s_55_71, s_55_72, s_55_73, s_55_74, s_55_75, s_55_78, ck13, cr0, cr1, cr2, cr3, cr4, cr5, cr6, cr7, cr8, cr9, ck14, ck15, ck16, ck17, ck18, ck19, ck20, ck21, ck22, ck23, cz14, cz15, cz16, cz17, cz18, cz19, cz20, cz21, cz22, cz23, va_rf_s, pk_mul, nI_add, not_false_eq_true, and_self, true_and, Option.toList_some, Option.toList_none, List.append_nil, List.cons_append, List.nil_append, nI_01, nI_11, vh_K_wI, vh_R_wI, vh_Z_wI, vh_wI_sI, vh_K_sI, vh_R_sI, vh_Z_sI, vh_sI_sI, vh_I_sI, vh_cp5, cl (show l * 192 < 2 ^ 31 by omega), cl (show (l + 1) * 192 < 2 ^ 31 by omega), cl (show 192 < 2 ^ 31 by omega), nI_pos (show l * 192 < 2 ^ 31 by omega), nI_pos (show (l + 1) * 192 < 2 ^ 31 by omega), nI_pos (show 192 < 2 ^ 31 by omega), List.length_nil, Nat.zero_le, show l * 192 + 192 ≤ 576 by omega, show (l + 1) * 192 + 192 ≤ 576 by omega]
    refine hQ _ ?_ (LV_copy hL ?_ ?_ ?_ (fun v hv => ?_) (fun _ v n hv hn => ?_))
    · refine ⟨fun c hc j => ?_, fun j hj => ⟨?_, ?_⟩, fun j hj => ?_, fun j hj => ?_⟩
      · rw [cp5_a _ (by omega)]; exact lf.1 c hc j
      · rw [cp5_a _ (by decide)]; exact (lf.2.1 j hj).1
      · rw [cp5_a _ (by decide)]; exact (lf.2.1 j hj).2
      · rw [cp5_a _ (by decide)]; exact lf.2.2.1 j hj
      · rw [cp5_i _ (by omega)]; exact lf.2.2.2 j hj
    · rw [cp5_a _ (by decide), e18, up2_a _ _ _ (by decide), up2_a _ _ _ (by decide)]
    · rw [cp5_a _ (by decide), e1]
    · rw [cp5_a _ (by decide), e2, up2_a _ _ _ (by decide)]
    · rw [cp5_a _ (by decide), e3 _ _ v hv]
    · rw [cp5_s _ (by omega), cp5_a _ (by decide), up2_a _ _ _ (by decide), up2_a _ _ _ (by decide)]
      congr 1
      omega
theorem c_linkCount {l v : Nat} {h : vt_H} (Q : vt_Q) (hC : CL h) (hl : l < 3) (hv : v < 6) : Wp 58 0 [.ref 13, .int (nI l), .int (nI v)] [] h Q ↔ Q (some (.int (jbc (vh_I h 15 v &&& vh_I h 18 l)))) h := by
  obtain ⟨ck13, cr0, cr1, cr2, cr3, cr4, cr5, cr6, cr7, cr8, cr9, ck14, ck15, ck16, ck17, ck18, ck19, ck20, ck21, ck22, ck23, cz14, cz15, cz16, cz17, cz18, cz19, cz20, cz21, cz22, cz23⟩ := hC
  simp only [s_58_0, s_58_1, s_58_4, s_58_5, s_58_6, s_58_7, s_58_10, s_58_11, s_58_12, s_58_13, s_58_16, ck13, cr0, cr1, cr2, cr3, cr4, cr5, cr6, cr7, cr8, cr9, ck14, ck15, ck16, ck17, ck18, ck19, ck20, ck21, ck22, ck23, cz14, cz15, cz16, cz17, cz18, cz19, cz20, cz21, cz22, cz23, va_rf_s, pk_mul, nI_add, not_false_eq_true, and_self, true_and, Option.toList_some, Option.toList_none, List.append_nil, List.cons_append, List.nil_append, nI_01, nI_11, vh_K_wI, vh_R_wI, vh_Z_wI, vh_wI_sI, vh_K_sI, vh_R_sI, vh_Z_sI, vh_sI_sI, vh_I_sI, cl (show l < 2 ^ 31 by omega), cl (show v < 2 ^ 31 by omega), ib hl (show 3 ≤ 2 ^ 31 by omega), ib hv (show 6 ≤ 2 ^ 31 by omega), c_bitCount]
/-- how many free variables v is linked to -/
def dg (E : Nat → Nat → Bool) (F : Nat → Bool) (v : Nat) : Nat := ((List.range 6).filter (fun u => E v u && F u)).length
theorem jbc_dg {x : Int32} {p : Nat → Bool} (h1 : ∀ i, i < 6 → bt x i = p i) (h2 : ∀ i, 6 ≤ i → i < 32 → bt x i = false) : jbc x = nI ((List.range 6).filter p).length := by
  have hk : x.toBitVec.toNat < 64 := by
    refine Nat.lt_pow_two_of_testBit (n := 6) _ (fun i hi => ?_)
    rcases Nat.lt_or_ge i 32 with q | q
    · exact h2 i hi q
    · exact BitVec.getLsbD_of_ge _ _ q
  have hx : x = nI x.toBitVec.toNat := by
    refine Int32.toBitVec_inj.mp ?_
    exact (BitVec.ofNat_toNat 32 x.toBitVec).symm.trans rfl |>.trans (by simp [nI])
  rw [hx, bc_small _ hk]
  congr 2
  refine List.filter_congr (fun i hi => ?_)
  exact h1 i (List.mem_range.mp hi)
theorem l_weightOf {z : Nat} {g : Nat → Nat} {h : vt_H} {Q : vt_Q} (hC : CL h) (hz : z < 18) (hr : ∀ n, n < 32 → (bt (vh_I h 20 z) n = true ↔ g n ≠ 0)) (hw : ∀ n, n < 32 → g n ≠ 0 → vh_I h 21 (z * 32 + n) = nI (g n)) (hQ : Q (some (.int (nI (sg_S g 32)))) h) : ∀ (k i : Nat), i + k = 32 → Wp 61 4 [.ref 13, .int (nI z), .int (nI (sg_S g i)), .int (nI i)] [] h Q := by
  obtain ⟨ck13, cr0, cr1, cr2, cr3, cr4, cr5, cr6, cr7, cr8, cr9, ck14, ck15, ck16, ck17, ck18, ck19, ck20, ck21, ck22, ck23, cz14, cz15, cz16, cz17, cz18, cz19, cz20, cz21, cz22, cz23⟩ := hC
  intro k
  induction k with
  | zero =>
    intro i hi
    have : i = 32 := by omega
    subst this
    simp only [s_61_4, s_61_5, s_61_7, s_61_47, s_61_48, if_pos (nI_le (Nat.le_refl 32) (show 32 < 2 ^ 31 by omega))]
    exact hQ
  | succ k ih =>
    intro i hi
    have hlt : i < 32 := by omega
    have b1 : z * 32 + i < 576 := by omega
    simp only [s_61_4, s_61_5, s_61_7, if_neg (nI_ge hlt (show 32 < 2 ^ 31 by omega))]
    simp only [s_61_10, s_61_11, s_61_12, s_61_15, s_61_16, s_61_17, s_61_18, ck13, cr0, cr1, cr2, cr3, cr4, cr5, cr6, cr7, cr8, cr9, ck14, ck15, ck16, ck17, ck18, ck19, ck20, ck21, ck22, ck23, cz14, cz15, cz16, cz17, cz18, cz19, cz20, cz21, cz22, cz23, va_rf_s, pk_mul, nI_add, not_false_eq_true, and_self, true_and, Option.toList_some, Option.toList_none, List.append_nil, List.cons_append, List.nil_append, nI_01, nI_11, vh_K_wI, vh_R_wI, vh_Z_wI, vh_wI_sI, vh_K_sI, vh_R_sI, vh_Z_sI, vh_sI_sI, vh_I_sI, cl (show z < 2 ^ 31 by omega), ib hz (show 18 ≤ 2 ^ 31 by omega), c_isIn, jbit_bt _ hlt, jb_0, s_61_21]
    have g' := ih (i + 1) (by omega)
    by_cases q : bt (vh_I h 20 z) i = true
    · rw [if_neg (fun y => y q)]
      have q0 := (hr i hlt).mp q
      simp only [s_61_24, s_61_25, s_61_28, s_61_29, s_61_31, s_61_32, s_61_33, s_61_34, s_61_35, s_61_38, s_61_39, s_61_40, s_61_41, s_61_44, ck13, cr0, cr1, cr2, cr3, cr4, cr5, cr6, cr7, cr8, cr9, ck14, ck15, ck16, ck17, ck18, ck19, ck20, ck21, ck22, ck23, cz14, cz15, cz16, cz17, cz18, cz19, cz20, cz21, cz22, cz23, va_rf_s, pk_mul, nI_add, not_false_eq_true, and_self, true_and, Option.toList_some, Option.toList_none, List.append_nil, List.cons_append, List.nil_append, nI_01, nI_11, vh_K_wI, vh_R_wI, vh_Z_wI, vh_wI_sI, vh_K_sI, vh_R_sI, vh_Z_sI, vh_sI_sI, vh_I_sI, cl (show z * 32 + i < 2 ^ 31 by omega), ib b1 (show 576 ≤ 2 ^ 31 by omega), hw i hlt q0]
      exact g'
    · rw [if_pos q]
      have q0 : g i = 0 := Classical.byContradiction (fun y => q ((hr i hlt).mpr y))
      simp only [s_61_38, s_61_39, s_61_40, s_61_41, s_61_44, va_rf_s, pk_mul, nI_add, not_false_eq_true, and_self, true_and, Option.toList_some, Option.toList_none, List.append_nil, List.cons_append, List.nil_append, nI_01, nI_11, vh_K_wI, vh_R_wI, vh_Z_wI, vh_wI_sI, vh_K_sI, vh_R_sI, vh_Z_sI, vh_sI_sI, vh_I_sI, Nat.add_zero]
      have e : sg_S g (i + 1) = sg_S g i := by show sg_S g i + g i = _; rw [q0, Nat.add_zero]
      rw [e] at g'
      exact g'
theorem c_weightOf {z : Nat} {g : Nat → Nat} {h : vt_H} (Q : vt_Q) (hC : CL h) (hz : z < 18) (hr : ∀ n, n < 32 → (bt (vh_I h 20 z) n = true ↔ g n ≠ 0)) (hw : ∀ n, n < 32 → g n ≠ 0 → vh_I h 21 (z * 32 + n) = nI (g n)) : Wp 61 0 [.ref 13, .int (nI z), vt_un, vt_un] [] h Q ↔ Q (some (.int (nI (sg_S g 32)))) h := by
  refine Wp_eq' (fun Q hQ => ?_) Q
  simp only [s_61_0, s_61_1, s_61_2, s_61_3]
  exact l_weightOf hC hz hr hw hQ 32 0 (by omega)
theorem bt_ju1 (x : Int32) {k : Nat} (hk : k < 32) : (x.toUInt32 >>> ((nI k).toUInt32 &&& Int32.toUInt32 31)).toInt32 &&& nI 1 = if bt x k = true then nI 1 else nI 0 := by
  by_cases q : bt x k = true
  · rw [if_pos q]
    refine b_ext (fun i hi => ?_)
    rw [b_and, b_ushr k hk, bt_1 i hi]
    by_cases e : i = 0
    · subst e; simp [q]
    · simp [e]
  · rw [if_neg q]
    exact (bt_ju x hk).mpr (by cases h : bt x k with | false => rfl | true => exact absurd h q)
theorem sg_succ (f : Nat → Nat) (n : Nat) : sg_S f (n + 1) = sg_S f n + f n := rfl
/-- the sums so far: of n whole rows, and of row n for numbers below i -/
def sW (g : Nat → Nat) (A : Nat → Nat → Bool) (n i m : Nat) : Nat := sg_S (fun n' => g n' * (if A n' m = true then 1 else 0)) (if m < i then n + 1 else n)
theorem sW_0 (g : Nat → Nat) (A : Nat → Nat → Bool) (n m : Nat) : sW g A n 0 m = sg_S (fun n' => g n' * (if A n' m = true then 1 else 0)) n := by unfold sW; rw [if_neg (by omega)]
theorem l_weighI {a b z : Nat} {g gu : Nat → Nat} {A : Nat → Nat → Bool} {h : vt_H} {Q : vt_Q} {n : Nat} {set : Int32} (hC : CL h) (ha : a < 18) (hn : n < 32) (hw : g n ≠ 0 → vh_I h 21 (a * 32 + n) = nI (g n)) (hset : ∀ m, m < 32 → gu m ≠ 0 → (bt set m = true ↔ (g n ≠ 0 ∧ A n m = true)))
    (hset0 : ∀ m, m < 32 → bt set m = true → g n ≠ 0)
    (hQ : ∀ f', (∀ c, c ≠ 22 → ∀ j, f' c j = vh_I h c j) → (∀ m, m < 32 → gu m ≠ 0 → f' 22 m = nI (sW g A (n + 1) 0 m)) → ∀ y, Wp 63 108 [.ref 13, .int (nI a), .int (nI b), .int (nI z), .int (nI n), .int set, y] [] (vh_sI h f') Q) :
    ∀ (k i : Nat), i + k = 32 → ∀ f0, (∀ c, c ≠ 22 → ∀ j, f0 c j = vh_I h c j) → (∀ m, m < 32 → gu m ≠ 0 → f0 22 m = nI (sW g A n i m)) → Wp 63 57 [.ref 13, .int (nI a), .int (nI b), .int (nI z), .int (nI n), .int set, .int (nI i)] [] (vh_sI h f0) Q := by
  obtain ⟨ck13, cr0, cr1, cr2, cr3, cr4, cr5, cr6, cr7, cr8, cr9, ck14, ck15, ck16, ck17, ck18, ck19, ck20, ck21, ck22, ck23, cz14, cz15, cz16, cz17, cz18, cz19, cz20, cz21, cz22, cz23⟩ := hC
  intro k
  have done : ∀ i, i ≤ 32 → (∀ m, i ≤ m → m < 32 → bt set m = false) → ∀ f0 : Nat → Nat → Int32, (∀ m, m < 32 → gu m ≠ 0 → f0 22 m = nI (sW g A n i m)) → ∀ m, m < 32 → gu m ≠ 0 → f0 22 m = nI (sW g A (n + 1) 0 m) := by
    intro i hi hz f0 h0 m hm hg
    rw [h0 m hm hg, sW_0]
    unfold sW
    by_cases q : m < i
    · rw [if_pos q]
    · rw [if_neg q]
      congr 1
      rw [sg_succ]
      have e : bt set m = false := hz m (by omega) hm
      have : ¬ (g n ≠ 0 ∧ A n m = true) := fun y => by rw [(hset m hm hg).mpr y] at e; cases e
      by_cases q2 : g n = 0
      · rw [q2, Nat.zero_mul, Nat.add_zero]
      · rw [if_neg (fun y => this ⟨q2, y⟩), Nat.mul_zero, Nat.add_zero]
  induction k with
  | zero =>
    intro i hi f0 h1 h2
    have : i = 32 := by omega
    subst this
    simp only [s_63_57, s_63_59, s_63_61, if_pos (nI_le (Nat.le_refl 32) (show 32 < 2 ^ 31 by omega))]
    exact hQ f0 h1 (done 32 (by omega) (fun m q1 q2 => absurd q1 (by omega)) f0 h2) _
  | succ k ih =>
    intro i hi f0 h1 h2
    have hlt : i < 32 := by omega
    have b1 : a * 32 + n < 576 := by omega
    simp only [s_63_57, s_63_59, s_63_61, if_neg (nI_ge hlt (show 32 < 2 ^ 31 by omega))]
    simp only [s_63_64, s_63_66, s_63_68, s_63_69]
    by_cases hz : ∀ j, i ≤ j → j < 32 → bt set j = false
    · rw [if_pos ((bt_ju0 set hlt).mpr hz)]
      exact hQ f0 h1 (done i (by omega) hz f0 h2) _
    · rw [if_neg (fun q => hz ((bt_ju0 set hlt).mp q))]
      simp only [s_63_72, s_63_73, s_63_76, s_63_78, s_63_79, s_63_80, s_63_82, s_63_84, s_63_85, s_63_86, s_63_87, s_63_88, s_63_91, s_63_92, s_63_94, s_63_95, s_63_97, s_63_98, s_63_99, s_63_100, s_63_101, s_63_102, s_63_105, ck13, cr0, cr1, cr2, cr3, cr4, cr5, cr6, cr7, cr8, cr9, ck14, ck15, ck16, ck17, ck18, ck19, ck20, ck21, ck22, ck23, cz14, cz15, cz16, cz17, cz18, cz19, cz20, cz21, cz22, cz23, va_rf_s, pk_mul, nI_add, not_false_eq_true, and_self, true_and, Option.toList_some, Option.toList_none, List.append_nil, List.cons_append, List.nil_append, nI_01, nI_11, vh_K_wI, vh_R_wI, vh_Z_wI, vh_wI_sI, vh_K_sI, vh_R_sI, vh_Z_sI, vh_sI_sI, vh_I_sI, cl (show i < 2 ^ 31 by omega), ib hlt (show 32 ≤ 2 ^ 31 by omega), cl (show a * 32 + n < 2 ^ 31 by omega), ib b1 (show 576 ≤ 2 ^ 31 by omega), bt_ju1 set hlt]
      refine ih (i + 1) (by omega) _ (fun c hc j => ?_) (fun m hm hg => ?_)
      · rw [up2_a _ _ _ hc]; exact h1 c hc j
      · by_cases e : m = i
        · subst e
          rw [up2_s, h2 m hm hg, h1 21 (by decide)]
          unfold sW
          rw [if_neg (Nat.lt_irrefl m), if_pos (Nat.lt_succ_self m)]
          rw [sg_succ]
          by_cases q : bt set m = true
          · have y := (hset m hm hg).mp q
            rw [if_pos q, if_pos y.2, hw y.1, pk_mul, nI_add, Nat.one_mul, Nat.mul_one]
          · rw [if_neg q]
            have y : ¬ (g n ≠ 0 ∧ A n m = true) := fun y => q ((hset m hm hg).mpr y)
            have z0 : nI 0 * vh_I h 21 (a * 32 + n) = nI 0 := Int32.zero_mul
            rw [z0, nI_add]
            congr 2
            by_cases q2 : g n = 0
            · rw [q2, Nat.zero_mul]
            · rw [if_neg (fun y' => y ⟨q2, y'⟩), Nat.mul_zero]
        · rw [up2_i _ _ _ _ e, h2 m hm hg]
          unfold sW
          by_cases q : m < i
          · rw [if_pos q, if_pos (by omega)]
          · rw [if_neg q, if_neg (by omega)]
theorem l_weighO {a b z : Nat} {g gu : Nat → Nat} {A : Nat → Nat → Bool} {h : vt_H} {Q : vt_Q} (hC : CL h) (ha : a < 18) (hb : b < 18) (hz : z + 32 ≤ 1152) (hr : ∀ n, n < 32 → (bt (vh_I h 20 a) n = true ↔ g n ≠ 0)) (hw : ∀ n, n < 32 → g n ≠ 0 → vh_I h 21 (a * 32 + n) = nI (g n)) (hu : ∀ m, m < 32 → (bt (vh_I h 20 b) m = true ↔ gu m ≠ 0)) (hA : ∀ n m, n < 32 → m < 32 → bt (vh_I h 14 (z + n)) m = A n m)
    (hQ : ∀ f', (∀ c, c ≠ 22 → ∀ j, f' c j = vh_I h c j) → (∀ m, m < 32 → gu m ≠ 0 → f' 22 m = nI (sW g A 32 0 m)) → ∀ x y w, Wp 63 114 [.ref 13, .int (nI a), .int (nI b), .int (nI z), x, y, w] [] (vh_sI h f') Q) :
    ∀ (k i : Nat), i + k = 32 → ∀ f0 y w, (∀ c, c ≠ 22 → ∀ j, f0 c j = vh_I h c j) → (∀ m, m < 32 → gu m ≠ 0 → f0 22 m = nI (sW g A i 0 m)) → Wp 63 11 [.ref 13, .int (nI a), .int (nI b), .int (nI z), .int (nI i), y, w] [] (vh_sI h f0) Q := by
  have hC' := hC
  obtain ⟨ck13, cr0, cr1, cr2, cr3, cr4, cr5, cr6, cr7, cr8, cr9, ck14, ck15, ck16, ck17, ck18, ck19, ck20, ck21, ck22, ck23, cz14, cz15, cz16, cz17, cz18, cz19, cz20, cz21, cz22, cz23⟩ := hC
  intro k
  induction k with
  | zero =>
    intro i hi f0 y w h1 h2
    have : i = 32 := by omega
    subst this
    simp only [s_63_11, s_63_13, s_63_15, if_pos (nI_le (Nat.le_refl 32) (show 32 < 2 ^ 31 by omega))]
    exact hQ f0 h1 h2 _ _ _
  | succ k ih =>
    intro i hi f0 y w h1 h2
    have hlt : i < 32 := by omega
    have b1 : z + i < 1152 := by omega
    simp only [s_63_11, s_63_13, s_63_15, if_neg (nI_ge hlt (show 32 < 2 ^ 31 by omega))]
    simp only [s_63_18, s_63_19, s_63_22, s_63_23, s_63_24, s_63_26, s_63_27, s_63_28, ck13, cr0, cr1, cr2, cr3, cr4, cr5, cr6, cr7, cr8, cr9, ck14, ck15, ck16, ck17, ck18, ck19, ck20, ck21, ck22, ck23, cz14, cz15, cz16, cz17, cz18, cz19, cz20, cz21, cz22, cz23, va_rf_s, pk_mul, nI_add, not_false_eq_true, and_self, true_and, Option.toList_some, Option.toList_none, List.append_nil, List.cons_append, List.nil_append, nI_01, nI_11, vh_K_wI, vh_R_wI, vh_Z_wI, vh_wI_sI, vh_K_sI, vh_R_sI, vh_Z_sI, vh_sI_sI, vh_I_sI, cl (show a < 2 ^ 31 by omega), ib ha (show 18 ≤ 2 ^ 31 by omega), s_63_29]
    have hC2 : CL (vh_sI h f0) := hC'
    have go : ∀ set : Int32, (∀ m, m < 32 → gu m ≠ 0 → (bt set m = true ↔ (g i ≠ 0 ∧ A i m = true))) → (∀ m, m < 32 → bt set m = true → g i ≠ 0) → Wp 63 57 [.ref 13, .int (nI a), .int (nI b), .int (nI z), .int (nI i), .int set, .int (nI 0)] [] (vh_sI h f0) Q := by
      intro set hs hs0
      have l := l_weighI (Q := Q) (h := vh_sI h f0) (a := a) (b := b) (z := z) (g := g) (gu := gu) (A := A) (n := i) (set := set) hC2 ha hlt (fun y => by rw [vh_I_sI, h1 21 (by decide)]; exact hw i hlt y) hs hs0 (fun f' q1 q2 y => ?_) 32 0 (by omega) f0 (fun _ _ _ => rfl) h2
      · exact l
      · simp only [s_63_108, s_63_111, va_rf_s, pk_mul, nI_add, not_false_eq_true, and_self, true_and, Option.toList_some, Option.toList_none, List.append_nil, List.cons_append, List.nil_append, nI_01, nI_11, vh_K_wI, vh_R_wI, vh_Z_wI, vh_wI_sI, vh_K_sI, vh_R_sI, vh_Z_sI, vh_sI_sI, vh_I_sI]
        refine ih (i + 1) (by omega) f' _ _ (fun c hc j => ?_) q2
        rw [q1 c hc j, vh_I_sI]
        exact h1 c hc j
    by_cases q : bt (vh_I h 20 a) i = true
    · rw [if_neg (by rw [h1 20 (by decide), bt_ju _ hlt, q]; decide)]
      simp only [s_63_32, s_63_33, s_63_36, s_63_37, s_63_39, s_63_40, s_63_41, s_63_42, s_63_45, s_63_46, s_63_47, s_63_48, s_63_51, s_63_52, s_63_54, s_63_55, ck13, cr0, cr1, cr2, cr3, cr4, cr5, cr6, cr7, cr8, cr9, ck14, ck15, ck16, ck17, ck18, ck19, ck20, ck21, ck22, ck23, cz14, cz15, cz16, cz17, cz18, cz19, cz20, cz21, cz22, cz23, va_rf_s, pk_mul, nI_add, not_false_eq_true, and_self, true_and, Option.toList_some, Option.toList_none, List.append_nil, List.cons_append, List.nil_append, nI_01, nI_11, vh_K_wI, vh_R_wI, vh_Z_wI, vh_wI_sI, vh_K_sI, vh_R_sI, vh_Z_sI, vh_sI_sI, vh_I_sI, cl (show z + i < 2 ^ 31 by omega), ib b1 (show 1152 ≤ 2 ^ 31 by omega), cl (show b < 2 ^ 31 by omega), ib hb (show 18 ≤ 2 ^ 31 by omega)]
      refine go _ (fun m hm hg => ?_) (fun _ _ _ => (hr i hlt).mp q)
      rw [b_and, h1 14 (by decide), h1 20 (by decide), hA i m hlt hm, (hu m hm).mpr hg, Bool.and_true]
      exact ⟨fun y => ⟨(hr i hlt).mp q, y⟩, fun y => y.2⟩
    · rw [if_pos (by rw [h1 20 (by decide), bt_ju _ hlt]; cases h : bt (vh_I h 20 a) i with | false => rfl | true => exact absurd h q)]
      simp only [s_63_51, s_63_52, s_63_54, s_63_55]
      have q0 : g i = 0 := Classical.byContradiction (fun y => q ((hr i hlt).mpr y))
      have n0 : ∀ m, bt (nI 0) m = false := b_0
      refine go _ (fun m hm hg => ?_) (fun m _ y => by rw [n0] at y; cases y)
      rw [n0]
      exact ⟨fun y => (by cases y), fun y => absurd q0 y.1⟩
theorem l_weighM {a b z : Nat} {s : Nat → Int32} {h : vt_H} {Q : vt_Q} (hC : CL h) (hb : b < 18) (hs : ∀ m, m < 32 → vh_I h 22 m = s m)
    (hQ : ∀ f', (∀ c, c ≠ 21 → ∀ j, f' c j = vh_I h c j) → (∀ j, (j < b * 32 ∨ b * 32 + 32 ≤ j) → f' 21 j = vh_I h 21 j) → (∀ m, m < 32 → f' 21 (b * 32 + m) = vh_I h 21 (b * 32 + m) * s m) → Q none (vh_sI h f')) :
    ∀ (k i : Nat), i + k = 32 → ∀ f0 y w, (∀ c, c ≠ 21 → ∀ j, f0 c j = vh_I h c j) → (∀ j, (j < b * 32 ∨ b * 32 + i ≤ j) → f0 21 j = vh_I h 21 j) → (∀ m, m < i → f0 21 (b * 32 + m) = vh_I h 21 (b * 32 + m) * s m) → Wp 63 117 [.ref 13, .int (nI a), .int (nI b), .int (nI z), .int (nI i), y, w] [] (vh_sI h f0) Q := by
  obtain ⟨ck13, cr0, cr1, cr2, cr3, cr4, cr5, cr6, cr7, cr8, cr9, ck14, ck15, ck16, ck17, ck18, ck19, ck20, ck21, ck22, ck23, cz14, cz15, cz16, cz17, cz18, cz19, cz20, cz21, cz22, cz23⟩ := hC
  intro k
  induction k with
  | zero =>
    intro i hi f0 y w h1 h2 h3
    have : i = 32 := by omega
    subst this
    simp only [s_63_117, s_63_119, s_63_121, s_63_152, if_pos (nI_le (Nat.le_refl 32) (show 32 < 2 ^ 31 by omega))]
    exact hQ f0 h1 h2 h3
  | succ k ih =>
    intro i hi f0 y w h1 h2 h3
    have hlt : i < 32 := by omega
    have b1 : b * 32 + i < 576 := by omega
    simp only [s_63_117, s_63_119, s_63_121, if_neg (nI_ge hlt (show 32 < 2 ^ 31 by omega))]
    simp only [s_63_124, s_63_125, s_63_128, s_63_129, s_63_131, s_63_132, s_63_134, s_63_135, s_63_136, s_63_137, s_63_138, s_63_141, s_63_143, s_63_144, s_63_145, s_63_146, s_63_149, ck13, cr0, cr1, cr2, cr3, cr4, cr5, cr6, cr7, cr8, cr9, ck14, ck15, ck16, ck17, ck18, ck19, ck20, ck21, ck22, ck23, cz14, cz15, cz16, cz17, cz18, cz19, cz20, cz21, cz22, cz23, va_rf_s, pk_mul, nI_add, not_false_eq_true, and_self, true_and, Option.toList_some, Option.toList_none, List.append_nil, List.cons_append, List.nil_append, nI_01, nI_11, vh_K_wI, vh_R_wI, vh_Z_wI, vh_wI_sI, vh_K_sI, vh_R_sI, vh_Z_sI, vh_sI_sI, vh_I_sI, cl (show b * 32 + i < 2 ^ 31 by omega), ib b1 (show 576 ≤ 2 ^ 31 by omega), cl (show i < 2 ^ 31 by omega), ib hlt (show 32 ≤ 2 ^ 31 by omega)]
    refine ih (i + 1) (by omega) _ _ _ (fun c hc j => ?_) (fun j hj => ?_) (fun m hm => ?_)
    · rw [up2_a _ _ _ hc]; exact h1 c hc j
    · rw [up2_i _ _ _ _ (by omega)]; exact h2 j (by omega)
    · by_cases e : m = i
      · subst e
        rw [up2_s, h2 _ (by omega), h1 22 (by decide), hs m hlt]
      · rw [up2_i _ _ _ _ (by omega)]
        exact h3 m (by omega)
theorem c_weigh {a b z : Nat} {g gu : Nat → Nat} {A : Nat → Nat → Bool} {h : vt_H} {Q : vt_Q} (hC : CL h) (ha : a < 18) (hb : b < 18) (hz : z + 32 ≤ 1152) (hr : ∀ n, n < 32 → (bt (vh_I h 20 a) n = true ↔ g n ≠ 0)) (hw : ∀ n, n < 32 → g n ≠ 0 → vh_I h 21 (a * 32 + n) = nI (g n)) (hu : ∀ m, m < 32 → (bt (vh_I h 20 b) m = true ↔ gu m ≠ 0)) (hwu : ∀ m, m < 32 → gu m ≠ 0 → vh_I h 21 (b * 32 + m) = nI (gu m)) (hA : ∀ n m, n < 32 → m < 32 → bt (vh_I h 14 (z + n)) m = A n m)
    (hQ : ∀ f', (∀ c, c ≠ 21 → c ≠ 22 → ∀ j, f' c j = vh_I h c j) → (∀ j, (j < b * 32 ∨ b * 32 + 32 ≤ j) → f' 21 j = vh_I h 21 j) → (∀ m, m < 32 → gu m ≠ 0 → f' 21 (b * 32 + m) = nI (gu m * sg_S (fun n => g n * (if A n m = true then 1 else 0)) 32)) → Q none (vh_sI h f')) :
    Wp 63 0 [.ref 13, .int (nI a), .int (nI b), .int (nI z), vt_un, vt_un, vt_un] [] h Q := by
  have hC' := hC
  obtain ⟨ck13, cr0, cr1, cr2, cr3, cr4, cr5, cr6, cr7, cr8, cr9, ck14, ck15, ck16, ck17, ck18, ck19, ck20, ck21, ck22, ck23, cz14, cz15, cz16, cz17, cz18, cz19, cz20, cz21, cz22, cz23⟩ := hC
  simp only [s_63_0, s_63_1, s_63_4, s_63_5, s_63_8, s_63_9, ck13, cr0, cr1, cr2, cr3, cr4, cr5, cr6, cr7, cr8, cr9, ck14, ck15, ck16, ck17, ck18, ck19, ck20, ck21, ck22, ck23, cz14, cz15, cz16, cz17, cz18, cz19, cz20, cz21, cz22, cz23, va_rf_s, pk_mul, nI_add, not_false_eq_true, and_self, true_and, Option.toList_some, Option.toList_none, List.append_nil, List.cons_append, List.nil_append, nI_01, nI_11, vh_K_wI, vh_R_wI, vh_Z_wI, vh_wI_sI, vh_K_sI, vh_R_sI, vh_Z_sI, vh_sI_sI, vh_I_sI, c_fill _ ck22 cz22 (show 32 < 2 ^ 31 by omega)]
  refine l_weighO (g := g) (gu := gu) (A := A) hC' ha hb hz hr hw hu hA (fun f' h1 h2 x y w => ?_) 32 0 (by omega) _ _ _ (fun c hc j => ?_) (fun m hm _ => ?_)
  · simp only [s_63_114, s_63_115]
    have l := l_weighM (Q := Q) (h := vh_sI h f') (a := a) (b := b) (z := z) (s := fun m => f' 22 m) hC' hb (fun _ _ => rfl) (fun f'' q1 q2 q3 => ?_) 32 0 (by omega) f' y w (fun _ _ _ => rfl) (fun _ _ => rfl) (fun m hm => absurd hm (by omega))
    · exact l
    · rw [vh_sI_sI]
      refine hQ f'' (fun c h3 h4 j => ?_) (fun j hj => ?_) (fun m hm hg => ?_)
      · rw [q1 c h3 j, vh_I_sI]; exact h1 c h4 j
      · rw [q2 j hj, vh_I_sI]; exact h1 21 (by decide) j
      · rw [q3 m hm, vh_I_sI, h1 21 (by decide), hwu m hm hg, h2 m hm hg, sW_0, pk_mul]
  · unfold fl2
    rw [if_neg (fun z => hc z.1)]
  · unfold fl2
    rw [if_pos ⟨rfl, hm⟩, sW_0]
    rfl
