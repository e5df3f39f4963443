-- ===== the reference: work, the loops =====
theorem itr_b {ρs : Nat → Nat → Nat} {c : Nat} {lv : Nat → Nat} {S : Nat → Nat → Nat → Bool} : ∀ j, (itr ρs c lv S j).1.2.1 ≤ j + 1 ∧ (itr ρs c lv S j).1.2.2 ≤ j ∧ ∀ n a b, (itr ρs c lv S j).2.2 n a b ≤ j
  | 0 => ⟨Nat.le_refl _, Nat.le_refl _, fun _ _ _ => Nat.le_refl _⟩
  | j + 1 => by
    obtain ⟨i1, i2, i3⟩ := itr_b (ρs := ρs) (c := c) (lv := lv) (S := S) j
    show (nxt ρs c lv (itr ρs c lv S j)).1.2.1 ≤ j + 2 ∧ (nxt ρs c lv (itr ρs c lv S j)).1.2.2 ≤ j + 1 ∧ ∀ n a b, (nxt ρs c lv (itr ρs c lv S j)).2.2 n a b ≤ j + 1
    by_cases q : 16 ≤ (itr ρs c lv S j).1.1
    · rw [nxt_16 q]
      exact ⟨by omega, by omega, fun n a b => by have := i3 n a b; omega⟩
    · by_cases hy : anyN (bNEW ρs c lv (itr ρs c lv S j).2.1 (itr ρs c lv S j).1.1)
      · rw [nxt_y (by omega) hy]
        refine ⟨by show _ + 1 ≤ _; omega, by show _ + 1 ≤ _; omega, fun n a b => ?_⟩
        show (if _ then _ else _) ≤ j + 1
        split
        · omega
        · have := i3 n a b; omega
      · rw [nxt_n (by omega) hy]
        exact ⟨by show 1 ≤ _; omega, by show (itr ρs c lv S j).1.2.2 ≤ j + 1; omega, fun n a b => by have := i3 n a b; show (itr ρs c lv S j).2.2 n a b ≤ j + 1; omega⟩
/-- what work leaves as it is -/
def WF (f0 f : Nat → Nat → Int32) : Prop := (∀ x, x ≠ 129 → (x < 136 ∨ 148 < x) → ∀ j, f x j = f0 x j) ∧ ∀ j, j < 7 → f 129 j = f0 129 j
theorem WF_refl (f : Nat → Nat → Int32) : WF f f := ⟨fun _ _ _ _ => rfl, fun _ _ => rfl⟩
theorem WF_trans {f g k : Nat → Nat → Int32} (h : WF f g) (h2 : WF g k) : WF f k := ⟨fun x x1 x2 j => (h2.1 x x1 x2 j).trans (h.1 x x1 x2 j), fun j hj => (h2.2 j hj).trans (h.2 j hj)⟩
theorem WF_MRs {f0 f : Nat → Nat → Int32} (h : WF f0 f) {ρs : Nat → Nat → Nat} {c : Nat} (hR : MRs f0 ρs c) : MRs f ρs c := MRs_c hR (fun x x1 x2 j => h.1 x (by omega) (by omega) j) (h.2 6 (by omega))
/-- the state of work before a round -/
def WI (f0 f : Nat → Nat → Int32) (lv : Nat → Nat) (x : RT) : Prop := WF f0 f ∧ f 129 11 = cI 16 ∧ (∀ n, n < 16 → f 138 n = nI (lv n)) ∧ f 129 12 = nI x.1.2.2 ∧ (∀ c, c < 16384 → f 136 c = if hc x.2.1 c = true then nI (hr x.2.2 c) else -nI 1) ∧ (∀ c, c < 16384 → hc x.2.1 c = true → ∃ q, f 144 c = nI q ∧ q ≤ x.1.2.2) ∧ ∀ c, c < 16384 → f 137 c = nI 0
theorem l_rounds {c : Nat} {h : vt_H} {Q : vt_Q} {ρs : Nat → Nat → Nat} {lv : Nat → Nat} {S : Nat → Nat → Nat → Bool} (hM : MZ h) (hR : MRs (vh_I h) ρs c) (h15 : ∀ n, n < 16 → lv n ≤ 15)
    (hQ : ∀ f' j, j ≤ 16400 → 16 ≤ (itr ρs c lv S j).1.1 → WI (vh_I h) f' lv (itr ρs c lv S j) → ∀ y1 y2 y3, Wp 100 190 [.ref 129, y1, y2, y3] [] (vh_sI h f') Q) :
    ∀ (m j : Nat), j + m = 16400 → (itr ρs c lv S j).1.1 < 16 → j ≤ cF (itr ρs c lv S j).2.1 + (itr ρs c lv S j).1.1 → ∀ f y3, WI (vh_I h) f lv (itr ρs c lv S j) → Wp 100 99 [.ref 129, .int (nI (itr ρs c lv S j).1.1), .int (nI (itr ρs c lv S j).1.2.1), y3] [] (vh_sI h f) Q := by
  have hM' := hM
  obtain ⟨mk, ⟨mr0, mk0, mz0⟩, ⟨mr1, mk1, mz1⟩, ⟨mr2, mk2, mz2⟩, ⟨mr3, mk3, mz3⟩, ⟨mr4, mk4, mz4⟩, ⟨mr5, mk5, mz5⟩, ⟨mr6, mk6, mz6⟩, ⟨mr7, mk7, mz7⟩, ⟨mr8, mk8, mz8⟩, ⟨mr9, mk9, mz9⟩, ⟨mr10, mk10, mz10⟩, ⟨mr11, mk11, mz11⟩, ⟨mr12, mk12, mz12⟩, ⟨mr13, mk13, mz13⟩, ⟨mr14, mk14, mz14⟩, ⟨mr15, mk15, mz15⟩, ⟨mr16, mk16, mz16⟩, ⟨mr17, mk17, mz17⟩, ⟨mr18, mk18, mz18⟩⟩ := hM
  intro m
  induction m with
  | zero =>
    intro j hj hs hcf
    have := cF_le (itr ρs c lv S j).2.1
    omega
  | succ m ih =>
    intro j hj hs hcf f y3 hI
    obtain ⟨w1, w2, w3, w4, w5, w6, w7⟩ := hI
    obtain ⟨k1, k2, k3⟩ := itr_b (ρs := ρs) (c := c) (lv := lv) (S := S) j
    simp only [s_100_99, s_100_100, s_100_101, s_100_104, s_100_105, s_100_106, mk, mr0, mk0, mz0, mr1, mk1, mz1, mr2, mk2, mz2, mr3, mk3, mz3, mr4, mk4, mz4, mr5, mk5, mz5, mr6, mk6, mz6, mr7, mk7, mz7, mr8, mk8, mz8, mr9, mk9, mz9, mr10, mk10, mz10, mr11, mk11, mz11, mr12, mk12, mz12, mr13, mk13, mz13, mr14, mk14, mz14, mr15, mk15, mz15, mr16, mk16, mz16, mr17, mk17, mz17, mr18, mk18, mz18, va_rf_s, pk_mul, nI_add, not_false_eq_true, and_self, true_and, Option.toList_some, Option.toList_none, List.append_nil, List.cons_append, List.nil_append, nI_01, nI_11, vh_K_wI, vh_R_wI, vh_Z_wI, vh_wI_sI, vh_K_sI, vh_R_sI, vh_Z_sI, vh_sI_sI, vh_I_sI]
    have o12 : ∀ x : Int32, up2 f 129 25 x 129 12 = nI (itr ρs c lv S j).1.2.2 := fun x => by rw [up2_i _ _ _ _ (by decide)]; exact w4
    simp only [s_100_109, s_100_110, s_100_111, s_100_114, s_100_115, mk, mr0, mk0, mz0, mr1, mk1, mz1, mr2, mk2, mz2, mr3, mk3, mz3, mr4, mk4, mz4, mr5, mk5, mz5, mr6, mk6, mz6, mr7, mk7, mz7, mr8, mk8, mz8, mr9, mk9, mz9, mr10, mk10, mz10, mr11, mk11, mz11, mr12, mk12, mz12, mr13, mk13, mz13, mr14, mk14, mz14, mr15, mk15, mz15, mr16, mk16, mz16, mr17, mk17, mz17, mr18, mk18, mz18, va_rf_s, pk_mul, nI_add, not_false_eq_true, and_self, true_and, Option.toList_some, Option.toList_none, List.append_nil, List.cons_append, List.nil_append, nI_01, nI_11, vh_K_wI, vh_R_wI, vh_Z_wI, vh_wI_sI, vh_K_sI, vh_R_sI, vh_Z_sI, vh_sI_sI, vh_I_sI, o12]
    generalize hf1 : up2 (up2 f 129 25 (nI 0)) 129 19 (nI ((itr ρs c lv S j).1.2.2 + 1)) = f1
    have p1 : ∀ x, x ≠ 129 → ∀ jj, f1 x jj = f x jj := fun x hx jj => by rw [← hf1, up2_a _ _ _ hx, up2_a _ _ _ hx]
    have p2 : ∀ jj, jj ≠ 19 → jj ≠ 25 → f1 129 jj = f 129 jj := fun jj j1 j2 => by rw [← hf1, up2_i _ _ _ _ j1, up2_i _ _ _ _ j2]
    have p3 : f1 129 19 = nI ((itr ρs c lv S j).1.2.2 + 1) := by rw [← hf1, up2_s]
    have p4 : f1 129 25 = nI 0 := by rw [← hf1, up2_i _ _ _ _ (by decide), up2_s]
    have wf1 : WF (vh_I h) f1 := WF_trans w1 ⟨fun x x1 _ jj => p1 x x1 jj, fun jj hjj => p2 jj (by omega) (by omega)⟩
    have hM1 : MZ (vh_sI h f1) := hM'
    have hR1 : MRs (vh_I (vh_sI h f1)) ρs c := WF_MRs wf1 hR
    have e0 : ∀ x, x < 16384 → hc (bNEW ρs 0 lv (itr ρs c lv S j).2.1 (itr ρs c lv S j).1.1) x = false := fun x _ => by
      cases hz : hc (bNEW ρs 0 lv (itr ρs c lv S j).2.1 (itr ρs c lv S j).1.1) x with
      | false => rfl
      | true => obtain ⟨i, z, _⟩ := bNEW_t.mp hz; omega
    have l := l_wrules (h := vh_sI h f1) (Q := Q) (y2 := vt_un) (s := (itr ρs c lv S j).1.1) (r := (itr ρs c lv S j).1.2.1) (H := (itr ρs c lv S j).2.1) (rc := hr (itr ρs c lv S j).2.2) (lv := lv) (nw := (itr ρs c lv S j).1.2.2 + 1) hM1 hR1 hs h15 (fun n hn => (p1 138 (by decide) n).trans (w3 n hn)) (by omega) (fun x _ => by have := k3 (x / 1024) (x / 32 % 32) (x % 32); unfold hr; omega) (by omega) p3 (fun x hx => (p1 136 (by decide) x).trans (w5 x hx)) (fun x hx q => by
      obtain ⟨q', z1, z2⟩ := w6 x hx q
      exact ⟨q', (p1 144 (by decide) x).trans z1, by omega⟩) p4 (fun f2 b1 b2 b3 b4 b6 b5 y3 => ?_) c 0 (by omega) f1 ⟨fun _ _ _ _ _ _ => rfl, fun _ _ _ => rfl⟩ (fun _ => rfl) (fun x hx => by rw [p1 136 (by decide), w5 x hx, e0 x hx]; simp) (fun _ _ _ => rfl) (fun x hx _ z => by rw [e0 x hx] at z; cases z) ⟨0, p4, by rw [Nat.zero_add]; exact cC_c (fun x hx => by rw [e0 x hx, Bool.or_false])⟩
    · exact l
    · rw [vh_sI_sI]
      rw [vh_I_sI] at b1 b2
      obtain ⟨mm, b51, b52⟩ := b5
      have un : cC (fun x => hc (itr ρs c lv S j).2.1 x || hc (bNEW ρs c lv (itr ρs c lv S j).2.1 (itr ρs c lv S j).1.1) x) = cF (fun n a b => (itr ρs c lv S j).2.1 n a b || bNEW ρs c lv (itr ρs c lv S j).2.1 (itr ρs c lv S j).1.1 n a b) := rfl
      have mb : mm ≤ 16384 := by
        have := cC_le (fun x => hc (itr ρs c lv S j).2.1 x || hc (bNEW ρs c lv (itr ρs c lv S j).2.1 (itr ρs c lv S j).1.1) x)
        omega
      have wf2 : WF (vh_I h) f2 := WF_trans wf1 ⟨fun x x1 x2 jj => b1.1 x x1 (by omega) (by omega) (by omega) jj, fun jj hjj => b1.2 jj (by omega) (by omega)⟩
      have t12 : f2 129 12 = nI (itr ρs c lv S j).1.2.2 := by rw [b1.2 12 (by decide) (by decide), p2 12 (by decide) (by decide)]; exact w4
      have c11 : f2 129 11 = cI 16 := by rw [b1.2 11 (by decide) (by decide), p2 11 (by decide) (by decide)]; exact w2
      have l138 : ∀ n, n < 16 → f2 138 n = nI (lv n) := fun n hn => by rw [b1.1 138 (by decide) (by decide) (by decide) (by omega), p1 138 (by decide)]; exact w3 n hn
      have z137 : ∀ x, x < 16384 → f2 137 x = nI 0 := fun x hx => by rw [b2, p1 137 (by decide)]; exact w7 x hx
      have hstep : itr ρs c lv S (j + 1) = nxt ρs c lv (itr ρs c lv S j) := rfl
      have ty : mm = 0 ↔ ¬ anyN (bNEW ρs c lv (itr ρs c lv S j).2.1 (itr ρs c lv S j).1.1) := by
        constructor
        · intro z hy
          have := cF_lt (H := (itr ρs c lv S j).2.1) hy (fun n a b w => by obtain ⟨_, _, _, _, _, _, w6⟩ := bNEW_t.mp w; exact w6)
          rw [un, cC_hc] at b52
          omega
        · intro hn
          have : cC (fun x => hc (itr ρs c lv S j).2.1 x || hc (bNEW ρs c lv (itr ρs c lv S j).2.1 (itr ρs c lv S j).1.1) x) = cC (hc (itr ρs c lv S j).2.1) := by
            refine cC_c (fun x hx => ?_)
            have : hc (bNEW ρs c lv (itr ρs c lv S j).2.1 (itr ρs c lv S j).1.1) x = false := by
              cases hz : hc (bNEW ρs c lv (itr ρs c lv S j).2.1 (itr ρs c lv S j).1.1) x with
              | false => rfl
              | true => exact absurd ⟨x / 1024, x / 32 % 32, x % 32, by omega, Nat.mod_lt _ (by omega), Nat.mod_lt _ (by omega), hz⟩ hn
            rw [this, Bool.or_false]
          omega
      simp only [s_100_161, s_100_162, s_100_165, mk, mr0, mk0, mz0, mr1, mk1, mz1, mr2, mk2, mz2, mr3, mk3, mz3, mr4, mk4, mz4, mr5, mk5, mz5, mr6, mk6, mz6, mr7, mk7, mz7, mr8, mk8, mz8, mr9, mk9, mz9, mr10, mk10, mz10, mr11, mk11, mz11, mr12, mk12, mz12, mr13, mk13, mz13, mr14, mk14, mz14, mr15, mk15, mz15, mr16, mk16, mz16, mr17, mk17, mz17, mr18, mk18, mz18, va_rf_s, pk_mul, nI_add, not_false_eq_true, and_self, true_and, Option.toList_some, Option.toList_none, List.append_nil, List.cons_append, List.nil_append, nI_01, nI_11, vh_K_wI, vh_R_wI, vh_Z_wI, vh_wI_sI, vh_K_sI, vh_R_sI, vh_Z_sI, vh_sI_sI, vh_I_sI, b51]
      by_cases hz : mm = 0
      · -- nothing new: the next stratum
        have hn := ty.mp hz
        rw [nxt_n hs hn] at hstep
        have i11 : (itr ρs c lv S (j + 1)).1.1 = (itr ρs c lv S j).1.1 + 1 := by rw [hstep]
        have i12 : (itr ρs c lv S (j + 1)).1.2.1 = 1 := by rw [hstep]
        have i13 : (itr ρs c lv S (j + 1)).1.2.2 = (itr ρs c lv S j).1.2.2 := by rw [hstep]
        have i2 : (itr ρs c lv S (j + 1)).2 = (itr ρs c lv S j).2 := by rw [hstep]
        have no : ∀ x, x < 16384 → ¬ hc (bNEW ρs c lv (itr ρs c lv S j).2.1 (itr ρs c lv S j).1.1) x = true := fun x hx z => hn ⟨x / 1024, x / 32 % 32, x % 32, by omega, Nat.mod_lt _ (by omega), Nat.mod_lt _ (by omega), z⟩
        have WIn : ∀ g : Nat → Nat → Int32, (∀ x, x ≠ 129 → ∀ jj, g x jj = f2 x jj) → (∀ jj, jj ≠ 25 → g 129 jj = f2 129 jj) → WI (vh_I h) g lv (itr ρs c lv S (j + 1)) := by
          intro g g1 g2
          refine ⟨WF_trans wf2 ⟨fun x x1 _ jj => g1 x x1 jj, fun jj hjj => g2 jj (by omega)⟩, by rw [g2 11 (by decide)]; exact c11, fun n hn' => by rw [g1 138 (by decide)]; exact l138 n hn', by rw [g2 12 (by decide), i13]; exact t12, fun x hx => ?_, fun x hx q => ?_, fun x hx => by rw [g1 137 (by decide)]; exact z137 x hx⟩
          · rw [g1 136 (by decide), i2, b3 x hx, if_neg (no x hx)]
          · rw [i2] at q
            rw [g1 144 (by decide), i13]
            rw [b6 x hx q, vh_I_sI, p1 144 (by decide)]
            exact w6 x hx q
        rw [hz, if_pos (by decide)]
        simp only [s_100_178, s_100_181, va_rf_s, pk_mul, nI_add, not_false_eq_true, and_self, true_and, Option.toList_some, Option.toList_none, List.append_nil, List.cons_append, List.nil_append, nI_01, nI_11, vh_K_wI, vh_R_wI, vh_Z_wI, vh_wI_sI, vh_K_sI, vh_R_sI, vh_Z_sI, vh_sI_sI, vh_I_sI]
        simp only [s_100_92, s_100_93, s_100_96, mk, mr0, mk0, mz0, mr1, mk1, mz1, mr2, mk2, mz2, mr3, mk3, mz3, mr4, mk4, mz4, mr5, mk5, mz5, mr6, mk6, mz6, mr7, mk7, mz7, mr8, mk8, mz8, mr9, mk9, mz9, mr10, mk10, mz10, mr11, mk11, mz11, mr12, mk12, mz12, mr13, mk13, mz13, mr14, mk14, mz14, mr15, mk15, mz15, mr16, mk16, mz16, mr17, mk17, mz17, mr18, mk18, mz18, va_rf_s, pk_mul, nI_add, not_false_eq_true, and_self, true_and, Option.toList_some, Option.toList_none, List.append_nil, List.cons_append, List.nil_append, nI_01, nI_11, vh_K_wI, vh_R_wI, vh_Z_wI, vh_wI_sI, vh_K_sI, vh_R_sI, vh_Z_sI, vh_sI_sI, vh_I_sI, b51, hz]
        rw [if_pos (by decide)]
        simp only [s_100_184, s_100_187, va_rf_s, pk_mul, nI_add, not_false_eq_true, and_self, true_and, Option.toList_some, Option.toList_none, List.append_nil, List.cons_append, List.nil_append, nI_01, nI_11, vh_K_wI, vh_R_wI, vh_Z_wI, vh_wI_sI, vh_K_sI, vh_R_sI, vh_Z_sI, vh_sI_sI, vh_I_sI]
        simp only [s_100_72, s_100_73, s_100_75]
        by_cases e16 : (itr ρs c lv S j).1.1 + 1 = 16
        · rw [if_pos (nI_le (by omega) (by omega))]
          exact hQ f2 (j + 1) (by omega) (by omega) (WIn f2 (fun _ _ _ => rfl) (fun _ _ => rfl)) _ _ _
        · rw [if_neg (nI_ge (by omega) (by omega))]
          simp only [s_100_78, s_100_79, s_100_82, mk, mr0, mk0, mz0, mr1, mk1, mz1, mr2, mk2, mz2, mr3, mk3, mz3, mr4, mk4, mz4, mr5, mk5, mz5, mr6, mk6, mz6, mr7, mk7, mz7, mr8, mk8, mz8, mr9, mk9, mz9, mr10, mk10, mz10, mr11, mk11, mz11, mr12, mk12, mz12, mr13, mk13, mz13, mr14, mk14, mz14, mr15, mk15, mz15, mr16, mk16, mz16, mr17, mk17, mz17, mr18, mk18, mz18, va_rf_s, pk_mul, nI_add, not_false_eq_true, and_self, true_and, Option.toList_some, Option.toList_none, List.append_nil, List.cons_append, List.nil_append, nI_01, nI_11, vh_K_wI, vh_R_wI, vh_Z_wI, vh_wI_sI, vh_K_sI, vh_R_sI, vh_Z_sI, vh_sI_sI, vh_I_sI, c11]
          rw [if_neg (by decide)]
          simp only [s_100_85, s_100_86, s_100_87, s_100_88, s_100_89, s_100_92, s_100_93, mk, mr0, mk0, mz0, mr1, mk1, mz1, mr2, mk2, mz2, mr3, mk3, mz3, mr4, mk4, mz4, mr5, mk5, mz5, mr6, mk6, mz6, mr7, mk7, mz7, mr8, mk8, mz8, mr9, mk9, mz9, mr10, mk10, mz10, mr11, mk11, mz11, mr12, mk12, mz12, mr13, mk13, mz13, mr14, mk14, mz14, mr15, mk15, mz15, mr16, mk16, mz16, mr17, mk17, mz17, mr18, mk18, mz18, va_rf_s, pk_mul, nI_add, not_false_eq_true, and_self, true_and, Option.toList_some, Option.toList_none, List.append_nil, List.cons_append, List.nil_append, nI_01, nI_11, vh_K_wI, vh_R_wI, vh_Z_wI, vh_wI_sI, vh_K_sI, vh_R_sI, vh_Z_sI, vh_sI_sI, vh_I_sI, up2_s, s_100_96]
          rw [if_neg (by decide)]
          have go := ih (j + 1) (by omega) (by omega) (by rw [i2, i11]; omega) (up2 f2 129 25 (nI 1)) y3 (WIn _ (fun x hx jj => up2_a _ _ _ hx jj) (fun jj hjj => up2_i _ _ _ _ hjj))
          rw [i11, i12] at go
          exact go
      · have hy : anyN (bNEW ρs c lv (itr ρs c lv S j).2.1 (itr ρs c lv S j).1.1) := Classical.byContradiction (fun z => hz (ty.mpr z))
        rw [nxt_y hs hy] at hstep
        have i11 : (itr ρs c lv S (j + 1)).1.1 = (itr ρs c lv S j).1.1 := by rw [hstep]
        have i12 : (itr ρs c lv S (j + 1)).1.2.1 = (itr ρs c lv S j).1.2.1 + 1 := by rw [hstep]
        have i13 : (itr ρs c lv S (j + 1)).1.2.2 = (itr ρs c lv S j).1.2.2 + 1 := by rw [hstep]
        have i2 : (itr ρs c lv S (j + 1)).2.1 = fun n a b => (itr ρs c lv S j).2.1 n a b || bNEW ρs c lv (itr ρs c lv S j).2.1 (itr ρs c lv S j).1.1 n a b := by rw [hstep]
        have i22 : (itr ρs c lv S (j + 1)).2.2 = fun n a b => if bNEW ρs c lv (itr ρs c lv S j).2.1 (itr ρs c lv S j).1.1 n a b = true then (itr ρs c lv S j).1.2.1 else (itr ρs c lv S j).2.2 n a b := by rw [hstep]
        have clt := cF_lt (H := (itr ρs c lv S j).2.1) hy (fun n a b w => by obtain ⟨_, _, _, _, _, _, w6⟩ := bNEW_t.mp w; exact w6)
        rw [if_neg (nI_nle (by omega) (by omega))]
        have oT : ∀ x : Int32, up2 f2 129 12 x 129 25 = nI mm := fun x => by rw [up2_i _ _ _ _ (by decide)]; exact b51
        simp only [s_100_168, s_100_169, s_100_170, s_100_173, s_100_174, s_100_175, s_100_178, s_100_181, mk, mr0, mk0, mz0, mr1, mk1, mz1, mr2, mk2, mz2, mr3, mk3, mz3, mr4, mk4, mz4, mr5, mk5, mz5, mr6, mk6, mz6, mr7, mk7, mz7, mr8, mk8, mz8, mr9, mk9, mz9, mr10, mk10, mz10, mr11, mk11, mz11, mr12, mk12, mz12, mr13, mk13, mz13, mr14, mk14, mz14, mr15, mk15, mz15, mr16, mk16, mz16, mr17, mk17, mz17, mr18, mk18, mz18, va_rf_s, pk_mul, nI_add, not_false_eq_true, and_self, true_and, Option.toList_some, Option.toList_none, List.append_nil, List.cons_append, List.nil_append, nI_01, nI_11, vh_K_wI, vh_R_wI, vh_Z_wI, vh_wI_sI, vh_K_sI, vh_R_sI, vh_Z_sI, vh_sI_sI, vh_I_sI, t12]
        simp only [s_100_92, s_100_93, s_100_96, mk, mr0, mk0, mz0, mr1, mk1, mz1, mr2, mk2, mz2, mr3, mk3, mz3, mr4, mk4, mz4, mr5, mk5, mz5, mr6, mk6, mz6, mr7, mk7, mz7, mr8, mk8, mz8, mr9, mk9, mz9, mr10, mk10, mz10, mr11, mk11, mz11, mr12, mk12, mz12, mr13, mk13, mz13, mr14, mk14, mz14, mr15, mk15, mz15, mr16, mk16, mz16, mr17, mk17, mz17, mr18, mk18, mz18, va_rf_s, pk_mul, nI_add, not_false_eq_true, and_self, true_and, Option.toList_some, Option.toList_none, List.append_nil, List.cons_append, List.nil_append, nI_01, nI_11, vh_K_wI, vh_R_wI, vh_Z_wI, vh_wI_sI, vh_K_sI, vh_R_sI, vh_Z_sI, vh_sI_sI, vh_I_sI, oT]
        rw [if_neg (nI_nle (by omega) (by omega))]
        have go := ih (j + 1) (by omega) (by omega) (by rw [i2, i11]; omega) (up2 f2 129 12 (nI ((itr ρs c lv S j).1.2.2 + 1))) y3 ⟨WF_trans wf2 ⟨fun x x1 _ jj => up2_a _ _ _ x1 jj, fun jj hjj => up2_i _ _ _ _ (by omega)⟩, by rw [up2_i _ _ _ _ (by decide)]; exact c11, fun n hn' => by rw [up2_a _ _ _ (by decide)]; exact l138 n hn', by rw [up2_s, i13], fun x hx => ?_, fun x hx q => ?_, fun x hx => by rw [up2_a _ _ _ (by decide)]; exact z137 x hx⟩
        · rw [i11, i12] at go
          exact go
        · rw [up2_a _ _ _ (by decide), b3 x hx, i2, i22]
          show _ = if (hc (itr ρs c lv S j).2.1 x || hc (bNEW ρs c lv (itr ρs c lv S j).2.1 (itr ρs c lv S j).1.1) x) = true then nI (if hc (bNEW ρs c lv (itr ρs c lv S j).2.1 (itr ρs c lv S j).1.1) x = true then (itr ρs c lv S j).1.2.1 else hr (itr ρs c lv S j).2.2 x) else -nI 1
          by_cases q : hc (itr ρs c lv S j).2.1 x = true
          · have nn : ¬ hc (bNEW ρs c lv (itr ρs c lv S j).2.1 (itr ρs c lv S j).1.1) x = true := fun z => by
              obtain ⟨_, _, _, _, _, _, w6⟩ := bNEW_t.mp z
              exact w6 q
            rw [if_pos q, if_pos (by rw [q]; rfl), if_neg nn]
          · by_cases q2 : hc (bNEW ρs c lv (itr ρs c lv S j).2.1 (itr ρs c lv S j).1.1) x = true
            · rw [if_neg q, if_pos q2, if_pos (by rw [q2, Bool.or_true]), if_pos q2]
            · rw [if_neg q, if_neg q2, if_neg (by rw [Bool.or_eq_true]; exact fun z => z.elim q q2)]
        · rw [i2] at q
          have q : (hc (itr ρs c lv S j).2.1 x || hc (bNEW ρs c lv (itr ρs c lv S j).2.1 (itr ρs c lv S j).1.1) x) = true := q
          rw [Bool.or_eq_true] at q
          rw [up2_a _ _ _ (by decide), i13]
          exact b4 x hx q
