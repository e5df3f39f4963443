-- ===== the reference: need =====
def MRs (f : Nat → Nat → Int32) (ρs : Nat → Nat → Nat) (c : Nat) : Prop := c ≤ 16 ∧ f 129 6 = nI c ∧ ∀ i, i < c → MR f i (ρs i)
theorem MR_c {f f' : Nat → Nat → Int32} {i : Nat} {ρ : Nat → Nat} (h : MR f i ρ) (e : ∀ x, 131 ≤ x → x ≤ 135 → ∀ j, f' x j = f x j) : MR f' i ρ := by
  obtain ⟨hok, h0, h1, h2, h3, h4, h5, hp⟩ := h
  refine ⟨hok, by rw [e 131 (by omega) (by omega)]; exact h0, by rw [e 131 (by omega) (by omega)]; exact h1, by rw [e 131 (by omega) (by omega)]; exact h2, by rw [e 132 (by omega) (by omega)]; exact h3, fun z => by rw [e 133 (by omega) (by omega)]; exact h4 z, by rw [e 134 (by omega) (by omega)]; exact h5, fun p hp' => ?_⟩
  rw [e 135 (by omega) (by omega), e 135 (by omega) (by omega), e 135 (by omega) (by omega), e 135 (by omega) (by omega)]
  exact hp p hp'
theorem MRs_c {f f' : Nat → Nat → Int32} {ρs : Nat → Nat → Nat} {c : Nat} (h : MRs f ρs c) (e : ∀ x, 131 ≤ x → x ≤ 135 → ∀ j, f' x j = f x j) (e6 : f' 129 6 = f 129 6) : MRs f' ρs c := ⟨h.1, e6.trans h.2.1, fun i hi => MR_c (h.2.2 i hi) e⟩
/-- 2 strictly needed, 1 needed, 0 not -/
noncomputable def nv (A B : Nat → Nat → Prop) (n m : Nat) : Nat := @ite Nat (B n m) (Classical.propDecidable _) 2 (@ite Nat (A n m) (Classical.propDecidable _) 1 0)
theorem nv_2 {A B : Nat → Nat → Prop} {n m : Nat} : nv A B n m = 2 ↔ B n m := by
  unfold nv
  by_cases b : B n m
  · rw [if_pos b]; exact ⟨fun _ => b, fun _ => rfl⟩
  · rw [if_neg b]
    by_cases a : A n m
    · rw [if_pos a]; exact ⟨fun z => by omega, fun z => absurd z b⟩
    · rw [if_neg a]; exact ⟨fun z => by omega, fun z => absurd z b⟩
theorem nv_0 {A B : Nat → Nat → Prop} {n m : Nat} (h : B n m → A n m) : nv A B n m ≠ 0 ↔ A n m := by
  unfold nv
  by_cases b : B n m
  · rw [if_pos b]; exact ⟨fun _ => h b, fun _ => by omega⟩
  · rw [if_neg b]
    by_cases a : A n m
    · rw [if_pos a]; exact ⟨fun _ => a, fun _ => by omega⟩
    · rw [if_neg a]; exact ⟨fun z => absurd rfl z, fun z => absurd z a⟩
theorem nv_le (A B : Nat → Nat → Prop) (n m : Nat) : nv A B n m ≤ 2 := by
  unfold nv
  by_cases b : B n m
  · rw [if_pos b]; omega
  · rw [if_neg b]
    by_cases a : A n m
    · rw [if_pos a]; omega
    · rw [if_neg a]; omega
theorem nv_c {A B A' B' : Nat → Nat → Prop} {n m : Nat} (a : A n m ↔ A' n m) (b : B n m ↔ B' n m) : nv A B n m = nv A' B' n m := by
  unfold nv
  rw [propext a, propext b]
/-- the table of needs -/
def NT (f : Nat → Nat → Int32) (A B : Nat → Nat → Prop) : Prop := ∀ n m, n < 16 → m < 16 → f 139 (16 * n + m) = nI (nv A B n m)
theorem l_needP {i c : Nat} {h : vt_H} {Q : vt_Q} {ρ : Nat → Nat} {A B : Nat → Nat → Prop} (hM : MZ h) (hi : i < 16) (hR : MR (vh_I h) i ρ) (hBA : ∀ n m, B n m → A n m)
    (hQ : ∀ f', NT f' (fun n m => A n m ∨ nR ρ (ρ 5) n m) (fun n m => B n m ∨ sR ρ (ρ 5) n m) → (∀ x, x ≠ 139 → ∀ j, f' x j = vh_I h x j) → ∀ y2 y3 y4 y5, Wp 101 152 [.ref 129, .int (nI i), y2, y3, y4, y5] [] (vh_sI h f') Q) :
    ∀ (m k : Nat), k + m = ρ 5 → ∀ f0 y3 y4 y5, NT f0 (fun n m => A n m ∨ nR ρ k n m) (fun n m => B n m ∨ sR ρ k n m) → (∀ x, x ≠ 139 → ∀ j, f0 x j = vh_I h x j) → Wp 101 45 [.ref 129, .int (nI i), .int (nI k), y3, y4, y5] [] (vh_sI h f0) Q := by
  obtain ⟨mk, ⟨mr0, mk0, mz0⟩, ⟨mr1, mk1, mz1⟩, ⟨mr2, mk2, mz2⟩, ⟨mr3, mk3, mz3⟩, ⟨mr4, mk4, mz4⟩, ⟨mr5, mk5, mz5⟩, ⟨mr6, mk6, mz6⟩, ⟨mr7, mk7, mz7⟩, ⟨mr8, mk8, mz8⟩, ⟨mr9, mk9, mz9⟩, ⟨mr10, mk10, mz10⟩, ⟨mr11, mk11, mz11⟩, ⟨mr12, mk12, mz12⟩, ⟨mr13, mk13, mz13⟩, ⟨mr14, mk14, mz14⟩, ⟨mr15, mk15, mz15⟩, ⟨mr16, mk16, mz16⟩, ⟨mr17, mk17, mz17⟩, ⟨mr18, mk18, mz18⟩⟩ := hM
  obtain ⟨hok, h0, h1, h2, h3, h4, h5, hp⟩ := hR
  have r5 := hok.1.2.2.2.1
  have k5 := hok.1.2.2.2.2
  have n16 := hok.1.1
  intro m
  induction m with
  | zero =>
    intro k hk f0 y3 y4 y5 hN hf
    have : k = ρ 5 := by omega
    subst this
    have e5 : f0 134 i = nI (ρ 5) := (hf 134 (by decide) i).trans h5
    simp only [s_101_45, s_101_46, s_101_47, s_101_50, s_101_51, s_101_52, mk, mr0, mk0, mz0, mr1, mk1, mz1, mr2, mk2, mz2, mr3, mk3, mz3, mr4, mk4, mz4, mr5, mk5, mz5, mr6, mk6, mz6, mr7, mk7, mz7, mr8, mk8, mz8, mr9, mk9, mz9, mr10, mk10, mz10, mr11, mk11, mz11, mr12, mk12, mz12, mr13, mk13, mz13, mr14, mk14, mz14, mr15, mk15, mz15, mr16, mk16, mz16, mr17, mk17, mz17, mr18, mk18, mz18, va_rf_s, pk_mul, nI_add, not_false_eq_true, and_self, true_and, Option.toList_some, Option.toList_none, List.append_nil, List.cons_append, List.nil_append, nI_01, nI_11, vh_K_wI, vh_R_wI, vh_Z_wI, vh_wI_sI, vh_K_sI, vh_R_sI, vh_Z_sI, vh_sI_sI, vh_I_sI, e5, cl (show i < 2 ^ 31 by omega), ib hi (show 16 ≤ 2 ^ 31 by omega), if_pos (nI_le (Nat.le_refl (ρ 5)) (show ρ 5 < 2 ^ 31 by omega))]
    exact hQ f0 hN hf _ _ _ _
  | succ m ih =>
    intro k hk f0 y3 y4 y5 hN hf
    have hlt : k < ρ 5 := by omega
    obtain ⟨p1, p2, p3, p4⟩ := hp k hlt
    obtain ⟨o1, o2, o3, o4⟩ := hok.2 k hlt
    have b0 : 20 * i + 4 * k < 320 := by omega
    have b1 : 20 * i + 4 * k + 1 < 320 := by omega
    have e5 : f0 134 i = nI (ρ 5) := (hf 134 (by decide) i).trans h5
    have ep1 : f0 135 (20 * i + 4 * k) = nI (so (ρ (10 + 4 * k))) := (hf 135 (by decide) _).trans p1
    have ep2 : f0 135 (20 * i + 4 * k + 1) = nI (wh (ρ (10 + 4 * k)) (ρ (11 + 4 * k))) := (hf 135 (by decide) _).trans p2
    have eh : f0 131 (3 * i) = nI (ρ 0) := (hf 131 (by decide) _).trans h0
    have ek : f0 132 i = kI (ρ 3) := (hf 132 (by decide) _).trans h3
    simp only [s_101_45, s_101_46, s_101_47, s_101_50, s_101_51, s_101_52, mk, mr0, mk0, mz0, mr1, mk1, mz1, mr2, mk2, mz2, mr3, mk3, mz3, mr4, mk4, mz4, mr5, mk5, mz5, mr6, mk6, mz6, mr7, mk7, mz7, mr8, mk8, mz8, mr9, mk9, mz9, mr10, mk10, mz10, mr11, mk11, mz11, mr12, mk12, mz12, mr13, mk13, mz13, mr14, mk14, mz14, mr15, mk15, mz15, mr16, mk16, mz16, mr17, mk17, mz17, mr18, mk18, mz18, va_rf_s, pk_mul, nI_add, not_false_eq_true, and_self, true_and, Option.toList_some, Option.toList_none, List.append_nil, List.cons_append, List.nil_append, nI_01, nI_11, vh_K_wI, vh_R_wI, vh_Z_wI, vh_wI_sI, vh_K_sI, vh_R_sI, vh_Z_sI, vh_sI_sI, vh_I_sI, e5, cl (show i < 2 ^ 31 by omega), ib hi (show 16 ≤ 2 ^ 31 by omega), if_neg (nI_ge hlt (show ρ 5 < 2 ^ 31 by omega))]
    simp only [s_101_55, s_101_57, s_101_58, s_101_59, s_101_60, s_101_61, s_101_62, s_101_63, s_101_64, s_101_65, s_101_68, s_101_69, s_101_70, s_101_71, mk, mr0, mk0, mz0, mr1, mk1, mz1, mr2, mk2, mz2, mr3, mk3, mz3, mr4, mk4, mz4, mr5, mk5, mz5, mr6, mk6, mz6, mr7, mk7, mz7, mr8, mk8, mz8, mr9, mk9, mz9, mr10, mk10, mz10, mr11, mk11, mz11, mr12, mk12, mz12, mr13, mk13, mz13, mr14, mk14, mz14, mr15, mk15, mz15, mr16, mk16, mz16, mr17, mk17, mz17, mr18, mk18, mz18, va_rf_s, pk_mul, nI_add, not_false_eq_true, and_self, true_and, Option.toList_some, Option.toList_none, List.append_nil, List.cons_append, List.nil_append, nI_01, nI_11, vh_K_wI, vh_R_wI, vh_Z_wI, vh_wI_sI, vh_K_sI, vh_R_sI, vh_Z_sI, vh_sI_sI, vh_I_sI, cl (show 20 * i + 4 * k < 2 ^ 31 by omega), ib b0 (show 320 ≤ 2 ^ 31 by omega), ep1]
    have next : ∀ f1 y3 y4 y5, NT f1 (fun n m => A n m ∨ nR ρ (k + 1) n m) (fun n m => B n m ∨ sR ρ (k + 1) n m) → (∀ x, x ≠ 139 → ∀ j, f1 x j = vh_I h x j) → Wp 101 146 [.ref 129, .int (nI i), .int (nI k), y3, y4, y5] [] (vh_sI h f1) Q := by
      intro f1 y3 y4 y5 q1 q2
      simp only [s_101_146, s_101_149, va_rf_s, pk_mul, nI_add, not_false_eq_true, and_self, true_and, Option.toList_some, Option.toList_none, List.append_nil, List.cons_append, List.nil_append, nI_01, nI_11, vh_K_wI, vh_R_wI, vh_Z_wI, vh_wI_sI, vh_K_sI, vh_R_sI, vh_Z_sI, vh_sI_sI, vh_I_sI]
      exact ih (k + 1) (by omega) f1 _ _ _ q1 q2
    by_cases q : ρ (10 + 4 * k) = 3 ∨ ρ (10 + 4 * k) = 4
    · have so2 : so (ρ (10 + 4 * k)) ≠ 2 := by
        unfold so
        rcases q with q | q <;> rw [q] <;> decide
      have ewh : wh (ρ (10 + 4 * k)) (ρ (11 + 4 * k)) = ρ (11 + 4 * k) := by unfold wh; rw [if_neg (by omega)]
      rw [ewh] at ep2
      rw [if_pos (fun z => so2 ((nI_eq (by have := so_lt (ρ (10 + 4 * k)); omega) (by omega)).mp z))]
      have bt1 : 16 * ρ 0 + ρ (11 + 4 * k) < 256 := by omega
      simp only [s_101_77, s_101_79, s_101_80, s_101_83, s_101_84, s_101_85, s_101_86, s_101_87, s_101_88, s_101_89, s_101_92, s_101_93, s_101_94, s_101_95, s_101_96, s_101_97, s_101_99, s_101_100, s_101_103, s_101_104, s_101_105, s_101_106, mk, mr0, mk0, mz0, mr1, mk1, mz1, mr2, mk2, mz2, mr3, mk3, mz3, mr4, mk4, mz4, mr5, mk5, mz5, mr6, mk6, mz6, mr7, mk7, mz7, mr8, mk8, mz8, mr9, mk9, mz9, mr10, mk10, mz10, mr11, mk11, mz11, mr12, mk12, mz12, mr13, mk13, mz13, mr14, mk14, mz14, mr15, mk15, mz15, mr16, mk16, mz16, mr17, mk17, mz17, mr18, mk18, mz18, va_rf_s, pk_mul, nI_add, not_false_eq_true, and_self, true_and, Option.toList_some, Option.toList_none, List.append_nil, List.cons_append, List.nil_append, nI_01, nI_11, vh_K_wI, vh_R_wI, vh_Z_wI, vh_wI_sI, vh_K_sI, vh_R_sI, vh_Z_sI, vh_sI_sI, vh_I_sI, cl (show 3 * i < 2 ^ 31 by omega), ib (show 3 * i < 48 by omega) (show 48 ≤ 2 ^ 31 by omega), cl (show 20 * i + 4 * k < 2 ^ 31 by omega), ib b0 (show 320 ≤ 2 ^ 31 by omega), cl (show 20 * i + 4 * k + 1 < 2 ^ 31 by omega), ib b1 (show 320 ≤ 2 ^ 31 by omega), ep1, ep2, eh]
      have eN := hN (ρ 0) (ρ (11 + 4 * k)) n16 o1
      -- how it is needed
      have fin : ∀ hw : Nat, (hw = 1 ∨ hw = 2) → (hw = 2 ↔ (ρ (10 + 4 * k) = 4 ∨ ¬ ρ 3 = 0)) → ∀ y5, Wp 101 123 [.ref 129, .int (nI i), .int (nI k), .int (nI (20 * i + 4 * k)), .int (nI (16 * ρ 0 + ρ (11 + 4 * k))), y5] [.int (nI hw)] (vh_sI h f0) Q := by
        intro hw hw12 hw2 y5
        have nl := nv_le (fun n m => A n m ∨ nR ρ k n m) (fun n m => B n m ∨ sR ρ k n m) (ρ 0) (ρ (11 + 4 * k))
        simp only [s_101_123, s_101_125, s_101_127, s_101_128, s_101_131, s_101_133, s_101_134, mk, mr0, mk0, mz0, mr1, mk1, mz1, mr2, mk2, mz2, mr3, mk3, mz3, mr4, mk4, mz4, mr5, mk5, mz5, mr6, mk6, mz6, mr7, mk7, mz7, mr8, mk8, mz8, mr9, mk9, mz9, mr10, mk10, mz10, mr11, mk11, mz11, mr12, mk12, mz12, mr13, mk13, mz13, mr14, mk14, mz14, mr15, mk15, mz15, mr16, mk16, mz16, mr17, mk17, mz17, mr18, mk18, mz18, va_rf_s, pk_mul, nI_add, not_false_eq_true, and_self, true_and, Option.toList_some, Option.toList_none, List.append_nil, List.cons_append, List.nil_append, nI_01, nI_11, vh_K_wI, vh_R_wI, vh_Z_wI, vh_wI_sI, vh_K_sI, vh_R_sI, vh_Z_sI, vh_sI_sI, vh_I_sI, cl (show 16 * ρ 0 + ρ (11 + 4 * k) < 2 ^ 31 by omega), ib bt1 (show 256 ≤ 2 ^ 31 by omega), eN]
        have others : ∀ n' m', ¬ (n' = ρ 0 ∧ m' = ρ (11 + 4 * k)) → (((A n' m' ∨ nR ρ k n' m') ↔ (A n' m' ∨ nR ρ (k + 1) n' m')) ∧ ((B n' m' ∨ sR ρ k n' m') ↔ (B n' m' ∨ sR ρ (k + 1) n' m'))) := by
          intro n' m' no
          refine ⟨⟨?_, ?_⟩, ?_, ?_⟩
          · rintro (z | ⟨z1, p, z2, z3⟩)
            · exact Or.inl z
            · exact Or.inr ⟨z1, p, by omega, z3⟩
          · rintro (z | ⟨z1, p, z2, z3, z4⟩)
            · exact Or.inl z
            · refine Or.inr ⟨z1, p, ?_, z3, z4⟩
              have : p ≠ k := fun e => no ⟨z1.symm, by rw [← z4, e]⟩
              omega
          · rintro (z | ⟨z1, p, z2, z3⟩)
            · exact Or.inl z
            · exact Or.inr ⟨z1, p, by omega, z3⟩
          · rintro (z | ⟨z1, p, z2, z3, z4, z5⟩)
            · exact Or.inl z
            · refine Or.inr ⟨z1, p, ?_, z3, z4, z5⟩
              have : p ≠ k := fun e => no ⟨z1.symm, by rw [← z4, e]⟩
              omega
        have here : nv (fun n m => A n m ∨ nR ρ (k + 1) n m) (fun n m => B n m ∨ sR ρ (k + 1) n m) (ρ 0) (ρ (11 + 4 * k)) = max hw (nv (fun n m => A n m ∨ nR ρ k n m) (fun n m => B n m ∨ sR ρ k n m) (ρ 0) (ρ (11 + 4 * k))) := by
          have yesA : A (ρ 0) (ρ (11 + 4 * k)) ∨ nR ρ (k + 1) (ρ 0) (ρ (11 + 4 * k)) := Or.inr ⟨rfl, k, by omega, q, rfl⟩
          by_cases z2 : hw = 2
          · have yesB : B (ρ 0) (ρ (11 + 4 * k)) ∨ sR ρ (k + 1) (ρ 0) (ρ (11 + 4 * k)) := Or.inr ⟨rfl, k, by omega, q, rfl, hw2.mp z2⟩
            have e1 : nv (fun n m => A n m ∨ nR ρ (k + 1) n m) (fun n m => B n m ∨ sR ρ (k + 1) n m) (ρ 0) (ρ (11 + 4 * k)) = 2 := nv_2.mpr yesB
            rw [e1, z2]
            omega
          · have sameB : (B (ρ 0) (ρ (11 + 4 * k)) ∨ sR ρ k (ρ 0) (ρ (11 + 4 * k))) ↔ (B (ρ 0) (ρ (11 + 4 * k)) ∨ sR ρ (k + 1) (ρ 0) (ρ (11 + 4 * k))) := by
              constructor
              · rintro (z | ⟨z1, p, z3, z4⟩)
                · exact Or.inl z
                · exact Or.inr ⟨z1, p, by omega, z4⟩
              · rintro (z | ⟨z1, p, z3, z4, z5, z6⟩)
                · exact Or.inl z
                · refine Or.inr ⟨z1, p, ?_, z4, z5, z6⟩
                  have : p ≠ k := fun e => z2 (hw2.mpr (e ▸ z6))
                  omega
            have hw1 : hw = 1 := by omega
            unfold nv at nl ⊢
            dsimp only at nl ⊢
            by_cases b : B (ρ 0) (ρ (11 + 4 * k)) ∨ sR ρ k (ρ 0) (ρ (11 + 4 * k))
            · rw [if_pos (sameB.mp b), if_pos b]; omega
            · rw [if_neg (fun z => b (sameB.mpr z)), if_neg b, if_pos yesA]
              rw [if_neg b] at nl
              by_cases a : A (ρ 0) (ρ (11 + 4 * k)) ∨ nR ρ k (ρ 0) (ρ (11 + 4 * k))
              · rw [if_pos a]; omega
              · rw [if_neg a]; omega
        by_cases q2 : hw ≤ nv (fun n m => A n m ∨ nR ρ k n m) (fun n m => B n m ∨ sR ρ k n m) (ρ 0) (ρ (11 + 4 * k))
        · rw [if_pos (nI_le q2 (by omega))]
          refine next f0 _ _ _ (fun n' m' hn' hm' => ?_) hf
          rw [hN n' m' hn' hm']
          by_cases e : n' = ρ 0 ∧ m' = ρ (11 + 4 * k)
          · rw [e.1, e.2, here, Nat.max_eq_right q2]
          · exact congrArg nI (nv_c (others n' m' e).1 (others n' m' e).2)
        · rw [if_neg (nI_ge (by omega) (by omega))]
          simp only [s_101_137, s_101_138, s_101_141, s_101_143, s_101_145, mk, mr0, mk0, mz0, mr1, mk1, mz1, mr2, mk2, mz2, mr3, mk3, mz3, mr4, mk4, mz4, mr5, mk5, mz5, mr6, mk6, mz6, mr7, mk7, mz7, mr8, mk8, mz8, mr9, mk9, mz9, mr10, mk10, mz10, mr11, mk11, mz11, mr12, mk12, mz12, mr13, mk13, mz13, mr14, mk14, mz14, mr15, mk15, mz15, mr16, mk16, mz16, mr17, mk17, mz17, mr18, mk18, mz18, va_rf_s, pk_mul, nI_add, not_false_eq_true, and_self, true_and, Option.toList_some, Option.toList_none, List.append_nil, List.cons_append, List.nil_append, nI_01, nI_11, vh_K_wI, vh_R_wI, vh_Z_wI, vh_wI_sI, vh_K_sI, vh_R_sI, vh_Z_sI, vh_sI_sI, vh_I_sI, cl (show 16 * ρ 0 + ρ (11 + 4 * k) < 2 ^ 31 by omega), ib bt1 (show 256 ≤ 2 ^ 31 by omega)]
          refine next _ _ _ _ (fun n' m' hn' hm' => ?_) (fun x hx j => ?_)
          · by_cases e : n' = ρ 0 ∧ m' = ρ (11 + 4 * k)
            · rw [e.1, e.2, up2_s, here, Nat.max_eq_left (by omega)]
            · rw [up2_i _ _ _ _ (by omega), hN n' m' hn' hm']
              exact congrArg nI (nv_c (others n' m' e).1 (others n' m' e).2)
          · rw [up2_a _ _ _ hx]; exact hf x hx j
      by_cases q4 : ρ (10 + 4 * k) = 4
      · have s1 : so (ρ (10 + 4 * k)) = 1 := by rw [q4]; rfl
        rw [s1, if_pos rfl]
        simp only [s_101_118, s_101_119]
        exact fin 2 (Or.inr rfl) ⟨fun _ => Or.inl q4, fun _ => rfl⟩ _
      · have s0 : so (ρ (10 + 4 * k)) = 0 := so_0.mpr (by omega)
        rw [s0, if_neg (by decide)]
        simp only [s_101_109, s_101_110, s_101_113, s_101_114, s_101_115, mk, mr0, mk0, mz0, mr1, mk1, mz1, mr2, mk2, mz2, mr3, mk3, mz3, mr4, mk4, mz4, mr5, mk5, mz5, mr6, mk6, mz6, mr7, mk7, mz7, mr8, mk8, mz8, mr9, mk9, mz9, mr10, mk10, mz10, mr11, mk11, mz11, mr12, mk12, mz12, mr13, mk13, mz13, mr14, mk14, mz14, mr15, mk15, mz15, mr16, mk16, mz16, mr17, mk17, mz17, mr18, mk18, mz18, va_rf_s, pk_mul, nI_add, not_false_eq_true, and_self, true_and, Option.toList_some, Option.toList_none, List.append_nil, List.cons_append, List.nil_append, nI_01, nI_11, vh_K_wI, vh_R_wI, vh_Z_wI, vh_wI_sI, vh_K_sI, vh_R_sI, vh_Z_sI, vh_sI_sI, vh_I_sI, cl (show i < 2 ^ 31 by omega), ib hi (show 16 ≤ 2 ^ 31 by omega), ek]
        by_cases q5 : ρ 3 = 0
        · rw [if_pos (by rw [q5]; decide)]
          simp only [s_101_122]
          exact fin 1 (Or.inl rfl) ⟨fun z => by omega, fun z => z.elim (fun y => absurd y q4) (fun y => absurd q5 y)⟩ _
        · rw [if_neg ((by decide +kernel : ∀ k, k < 5 → k ≠ 0 → ¬ kI k < 0) (ρ 3) k5 q5)]
          simp only [s_101_118, s_101_119]
          exact fin 2 (Or.inr rfl) ⟨fun _ => Or.inr q5, fun _ => rfl⟩ _
    · have so2 : so (ρ (10 + 4 * k)) = 2 := by
        unfold so
        rw [if_neg (fun z => q (Or.inl z)), if_neg (fun z => q (Or.inr z))]
      rw [so2, if_neg (by simp)]
      simp only [s_101_74]
      refine next f0 _ _ _ (fun n' m' hn' hm' => ?_) hf
      rw [hN n' m' hn' hm']
      congr 1
      refine nv_c ⟨?_, ?_⟩ ⟨?_, ?_⟩
      · rintro (z | ⟨z1, p, z2, z3⟩)
        · exact Or.inl z
        · exact Or.inr ⟨z1, p, by omega, z3⟩
      · rintro (z | ⟨z1, p, z2, z3, z4⟩)
        · exact Or.inl z
        · refine Or.inr ⟨z1, p, ?_, z3, z4⟩
          have : p ≠ k := fun e => q (e ▸ z3)
          omega
      · rintro (z | ⟨z1, p, z2, z3⟩)
        · exact Or.inl z
        · exact Or.inr ⟨z1, p, by omega, z3⟩
      · rintro (z | ⟨z1, p, z2, z3, z4⟩)
        · exact Or.inl z
        · refine Or.inr ⟨z1, p, ?_, z3, z4⟩
          have : p ≠ k := fun e => q (e ▸ z3)
          omega
theorem l_needR {c : Nat} {h : vt_H} {Q : vt_Q} {ρs : Nat → Nat → Nat} (hM : MZ h) (hR : MRs (vh_I h) ρs c)
    (hQ : ∀ f', NT f' (ND ρs c) (SD ρs c) → (∀ x, x ≠ 139 → ∀ j, f' x j = vh_I h x j) → ∀ y1 y2 y3 y4 y5, Wp 101 158 [.ref 129, y1, y2, y3, y4, y5] [] (vh_sI h f') Q) :
    ∀ (m i : Nat), i + m = c → ∀ f0 y2 y3 y4 y5, NT f0 (ND ρs i) (SD ρs i) → (∀ x, x ≠ 139 → ∀ j, f0 x j = vh_I h x j) → Wp 101 24 [.ref 129, .int (nI i), y2, y3, y4, y5] [] (vh_sI h f0) Q := by
  have hM' := hM
  obtain ⟨mk, ⟨mr0, mk0, mz0⟩, ⟨mr1, mk1, mz1⟩, ⟨mr2, mk2, mz2⟩, ⟨mr3, mk3, mz3⟩, ⟨mr4, mk4, mz4⟩, ⟨mr5, mk5, mz5⟩, ⟨mr6, mk6, mz6⟩, ⟨mr7, mk7, mz7⟩, ⟨mr8, mk8, mz8⟩, ⟨mr9, mk9, mz9⟩, ⟨mr10, mk10, mz10⟩, ⟨mr11, mk11, mz11⟩, ⟨mr12, mk12, mz12⟩, ⟨mr13, mk13, mz13⟩, ⟨mr14, mk14, mz14⟩, ⟨mr15, mk15, mz15⟩, ⟨mr16, mk16, mz16⟩, ⟨mr17, mk17, mz17⟩, ⟨mr18, mk18, mz18⟩⟩ := hM
  obtain ⟨c16, hc, hV⟩ := hR
  intro m
  induction m with
  | zero =>
    intro i hi f0 y2 y3 y4 y5 hN hf
    have : i = c := by omega
    subst this
    have e6 : f0 129 6 = nI i := (hf 129 (by decide) 6).trans hc
    simp only [s_101_24, s_101_25, s_101_26, s_101_29, mk, mr0, mk0, mz0, mr1, mk1, mz1, mr2, mk2, mz2, mr3, mk3, mz3, mr4, mk4, mz4, mr5, mk5, mz5, mr6, mk6, mz6, mr7, mk7, mz7, mr8, mk8, mz8, mr9, mk9, mz9, mr10, mk10, mz10, mr11, mk11, mz11, mr12, mk12, mz12, mr13, mk13, mz13, mr14, mk14, mz14, mr15, mk15, mz15, mr16, mk16, mz16, mr17, mk17, mz17, mr18, mk18, mz18, va_rf_s, pk_mul, nI_add, not_false_eq_true, and_self, true_and, Option.toList_some, Option.toList_none, List.append_nil, List.cons_append, List.nil_append, nI_01, nI_11, vh_K_wI, vh_R_wI, vh_Z_wI, vh_wI_sI, vh_K_sI, vh_R_sI, vh_Z_sI, vh_sI_sI, vh_I_sI, e6, if_pos (nI_le (Nat.le_refl i) (show i < 2 ^ 31 by omega))]
    exact hQ f0 hN hf _ _ _ _ _
  | succ m ih =>
    intro i hi f0 y2 y3 y4 y5 hN hf
    have hlt : i < c := by omega
    have hi16 : i < 16 := by omega
    have e6 : f0 129 6 = nI c := (hf 129 (by decide) 6).trans hc
    have hM0 : MZ (vh_sI h f0) := hM'
    have hR0 : MR (vh_I (vh_sI h f0)) i (ρs i) := MR_c (hV i hlt) (fun x x1 x2 j => hf x (by omega) j)
    simp only [s_101_24, s_101_25, s_101_26, s_101_29, mk, mr0, mk0, mz0, mr1, mk1, mz1, mr2, mk2, mz2, mr3, mk3, mz3, mr4, mk4, mz4, mr5, mk5, mz5, mr6, mk6, mz6, mr7, mk7, mz7, mr8, mk8, mz8, mr9, mk9, mz9, mr10, mk10, mz10, mr11, mk11, mz11, mr12, mk12, mz12, mr13, mk13, mz13, mr14, mk14, mz14, mr15, mk15, mz15, mr16, mk16, mz16, mr17, mk17, mz17, mr18, mk18, mz18, va_rf_s, pk_mul, nI_add, not_false_eq_true, and_self, true_and, Option.toList_some, Option.toList_none, List.append_nil, List.cons_append, List.nil_append, nI_01, nI_11, vh_K_wI, vh_R_wI, vh_Z_wI, vh_wI_sI, vh_K_sI, vh_R_sI, vh_Z_sI, vh_sI_sI, vh_I_sI, e6, if_neg (nI_ge hlt (show c < 2 ^ 31 by omega))]
    simp only [s_101_32, s_101_33, s_101_34, s_101_37, mk, mr0, mk0, mz0, mr1, mk1, mz1, mr2, mk2, mz2, mr3, mk3, mz3, mr4, mk4, mz4, mr5, mk5, mz5, mr6, mk6, mz6, mr7, mk7, mz7, mr8, mk8, mz8, mr9, mk9, mz9, mr10, mk10, mz10, mr11, mk11, mz11, mr12, mk12, mz12, mr13, mk13, mz13, mr14, mk14, mz14, mr15, mk15, mz15, mr16, mk16, mz16, mr17, mk17, mz17, mr18, mk18, mz18, va_rf_s, pk_mul, nI_add, not_false_eq_true, and_self, true_and, Option.toList_some, Option.toList_none, List.append_nil, List.cons_append, List.nil_append, nI_01, nI_11, vh_K_wI, vh_R_wI, vh_Z_wI, vh_wI_sI, vh_K_sI, vh_R_sI, vh_Z_sI, vh_sI_sI, vh_I_sI, m_safe _ hM0 hi16 hR0]
    have next : ∀ f1 y2 y3 y4 y5, NT f1 (ND ρs (i + 1)) (SD ρs (i + 1)) → (∀ x, x ≠ 139 → ∀ j, f1 x j = vh_I h x j) → Wp 101 152 [.ref 129, .int (nI i), y2, y3, y4, y5] [] (vh_sI h f1) Q := by
      intro f1 y2 y3 y4 y5 q1 q2
      simp only [s_101_152, s_101_155, va_rf_s, pk_mul, nI_add, not_false_eq_true, and_self, true_and, Option.toList_some, Option.toList_none, List.append_nil, List.cons_append, List.nil_append, nI_01, nI_11, vh_K_wI, vh_R_wI, vh_Z_wI, vh_wI_sI, vh_K_sI, vh_R_sI, vh_Z_sI, vh_sI_sI, vh_I_sI]
      exact ih (i + 1) (by omega) f1 _ _ _ _ q1 q2
    by_cases w : sf (ρs i)
    · rw [if_pos (fun z => cb_0.mp z w)]
      simp only [s_101_43, s_101_44]
      have l := l_needP (h := vh_sI h f0) (Q := Q) (c := c) (A := ND ρs i) (B := SD ρs i) hM0 hi16 hR0 (fun n m z => by
        obtain ⟨i', z1, z2, z3, p, z4, z5, z6, _⟩ := z
        exact ⟨i', z1, z2, z3, p, z4, z5, z6⟩) (fun f1 z1 z2 y2 y3 y4 y5 => ?_) (ρs i 5) 0 (by omega) f0 y3 y4 y5 (fun n m hn hm => ?_) (fun _ _ _ => rfl)
      · exact l
      · rw [vh_sI_sI]
        rw [vh_I_sI] at z2
        refine next f1 _ _ _ _ (fun n m hn hm => ?_) (fun x hx j => (z2 x hx j).trans (hf x hx j))
        rw [z1 n m hn hm]
        congr 1
        refine nv_c ⟨?_, ?_⟩ ⟨?_, ?_⟩
        · rintro (⟨i', a, b⟩ | z)
          · exact ⟨i', by omega, b⟩
          · exact ⟨i, by omega, w, z⟩
        · rintro ⟨i', a, b, d⟩
          by_cases e : i' = i
          · subst e; exact Or.inr d
          · exact Or.inl ⟨i', by omega, b, d⟩
        · rintro (⟨i', a, b⟩ | z)
          · exact ⟨i', by omega, b⟩
          · exact ⟨i, by omega, w, z⟩
        · rintro ⟨i', a, b, d⟩
          by_cases e : i' = i
          · subst e; exact Or.inr d
          · exact Or.inl ⟨i', by omega, b, d⟩
      · rw [hN n m hn hm]
        congr 1
        exact nv_c ⟨Or.inl, fun z => z.elim id (fun ⟨_, p, z, _⟩ => absurd z (by omega))⟩ ⟨Or.inl, fun z => z.elim id (fun ⟨_, p, z, _⟩ => absurd z (by omega))⟩
    · rw [if_neg (fun z => z (cb_0.mpr w))]
      simp only [s_101_40]
      refine next f0 _ _ _ _ (fun n m hn hm => ?_) hf
      rw [hN n m hn hm]
      congr 1
      refine nv_c ⟨?_, ?_⟩ ⟨?_, ?_⟩
      · rintro ⟨i', a, b⟩; exact ⟨i', by omega, b⟩
      · rintro ⟨i', a, b, d⟩
        have : i' ≠ i := fun e => w (e ▸ b)
        exact ⟨i', by omega, b, d⟩
      · rintro ⟨i', a, b⟩; exact ⟨i', by omega, b⟩
      · rintro ⟨i', a, b, d⟩
        have : i' ≠ i := fun e => w (e ▸ b)
        exact ⟨i', by omega, b, d⟩
