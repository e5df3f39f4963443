-- ===== the reference: spread, its end =====
/-- how often spread gives each code -/
noncomputable def cnT (O : Nat → Bool) (ρ : Nat → Nat) : Nat → Nat := fun c => if c / 1024 = ρ 0 then TG (fun n a b => O (1024 * n + 32 * a + b)) ρ (c / 32 % 32) (c % 32) else 0
theorem cnp_CT {O : Nat → Bool} {ρ P : Nat → Nat} (hok : okR ρ) (hsf : sf ρ) (k0 : ρ 3 = 0) {c : Nat} (hc : c < 16384) : cnp ρ (LSn ρ O (npc ρ) 0 P) c = cnT O ρ c := by
  have e : cnp ρ (LSn ρ O (npc ρ) 0 P) c = S6 (fun w => bi (Fq O ρ 0 (fun _ => 32) w) * bi (c = 1024 * ρ 0 + 32 * iv w (ρ 1) + iv w (sec ρ))) := tuples (G := fun w => bi (c = 1024 * ρ 0 + 32 * iv w (ρ 1) + iv w (sec ρ))) hok hsf (fun w w' h => by rw [iv_c hok.1.2.1 h, iv_c hok.1.2.2.1 h]) (npc ρ) 0 (by omega) P (fun _ => 32) rfl
  have e2 : ∀ a b, CT (fun _ n x y => O (1024 * n + 32 * x + y)) ρ a b = S6 (fun w => bi (Fq O ρ 0 (fun _ => 32) w) * bi (iv w (ρ 1) = a ∧ iv w (sec ρ) = b)) := fun a b => by
    rw [← tuples_CT (P := P) hok hsf]
    exact tuples (G := fun w => bi (iv w (ρ 1) = a ∧ iv w (sec ρ) = b)) hok hsf (fun w w' h => by rw [iv_c hok.1.2.1 h, iv_c hok.1.2.2.1 h]) (npc ρ) 0 (by omega) P (fun _ => 32) rfl
  rw [e]
  unfold cnT
  by_cases q : c / 1024 = ρ 0
  · rw [if_pos q]
    unfold TG
    rw [if_pos k0]
    show _ = CT (fun _ n x y => O (1024 * n + 32 * x + y)) ρ (c / 32 % 32) (c % 32)
    rw [e2]
    refine S6_congr (fun w hw => ?_)
    have hx := iv_lt hok.1.2.1 hw
    have hy := iv_lt hok.1.2.2.1 hw
    refine congrArg (fun z => bi (Fq O ρ 0 (fun _ => 32) w) * z) (bi_c ?_)
    constructor
    · intro z; constructor <;> omega
    · rintro ⟨z1, z2⟩; omega
  · rw [if_neg q]
    have : S6 (fun w => bi (Fq O ρ 0 (fun _ => 32) w) * bi (c = 1024 * ρ 0 + 32 * iv w (ρ 1) + iv w (sec ρ))) = S6 (fun _ => 0) := by
      refine S6_congr (fun w hw => ?_)
      have hx := iv_lt hok.1.2.1 hw
      have hy := iv_lt hok.1.2.2.1 hw
      rw [bi_f (p := c = 1024 * ρ 0 + 32 * iv w (ρ 1) + iv w (sec ρ)) (fun z => q (by omega)), Nat.mul_zero]
    rw [this]
    exact sv_zero _ _
/-- the heads of an aggregate for first numbers below k -/
noncomputable def cna (ρ : Nat → Nat) (N : Nat → Nat → Nat) (k : Nat) : Nat → Nat := fun c => bi (c / 1024 = ρ 0 ∧ c / 32 % 32 < k ∧ (∃ b, b < 32 ∧ N (c / 32 % 32) b ≠ 0) ∧ AG (ρ 3) (N (c / 32 % 32)) (c % 32))
theorem l_aggr {i r : Nat} {rd fo' : Int32} {ρ : Nat → Nat} {y5 : Value} {l : List (Nat → Nat)} {h : vt_H} {Q : vt_Q} {Hc Oc : Nat → Bool} {rc : Nat → Nat} {f0 : Nat → Nat → Int32} (hM : MZ h) (hi : i < 16) (hR : MR (vh_I h) i ρ) (hr : r < 2 ^ 31) (hrc : ∀ c, c < 16384 → rc c < 2 ^ 31) (hfo : ¬ fo' = 0) (k0 : ρ 3 ≠ 0) (hlen : sl (fun _ => 1) l ≤ 2 ^ 30) (h19 : vh_I h 129 19 = f0 129 19) (hAg : AGs (vh_I h) ρ l)
    (hQ : ∀ f', (∀ x, x ≠ 129 → x ≠ 136 → x ≠ 137 → x ≠ 144 → ∀ j, f' x j = vh_I h x j) → (∀ j, j ≠ 25 → f' 129 j = vh_I h 129 j) → GV f0 f' rd r Hc Oc rc (cna ρ (NNt ρ l) 32) → Q none (vh_sI h f')) :
    ∀ (m k : Nat), k + m = 32 → ∀ f y7, (∀ x, x ≠ 129 → x ≠ 136 → x ≠ 137 → x ≠ 144 → ∀ j, f x j = vh_I h x j) → (∀ j, j ≠ 25 → f 129 j = vh_I h 129 j) → GV f0 f rd r Hc Oc rc (cna ρ (NNt ρ l) k) → Wp 103 286 [.ref 129, .int (nI i), .int rd, .int (nI (ρ 0)), .int fo', y5, .int (nI k), y7] [] (vh_sI h f) Q := by
  have hM' := hM
  have hR' := hR
  obtain ⟨mk, ⟨mr0, mk0, mz0⟩, ⟨mr1, mk1, mz1⟩, ⟨mr2, mk2, mz2⟩, ⟨mr3, mk3, mz3⟩, ⟨mr4, mk4, mz4⟩, ⟨mr5, mk5, mz5⟩, ⟨mr6, mk6, mz6⟩, ⟨mr7, mk7, mz7⟩, ⟨mr8, mk8, mz8⟩, ⟨mr9, mk9, mz9⟩, ⟨mr10, mk10, mz10⟩, ⟨mr11, mk11, mz11⟩, ⟨mr12, mk12, mz12⟩, ⟨mr13, mk13, mz13⟩, ⟨mr14, mk14, mz14⟩, ⟨mr15, mk15, mz15⟩, ⟨mr16, mk16, mz16⟩, ⟨mr17, mk17, mz17⟩, ⟨mr18, mk18, mz18⟩⟩ := hM
  obtain ⟨hok, hh0, hh1, hh2, hh3, hh4, hh5, hp⟩ := hR
  have n16 := hok.1.1
  have k5 := hok.1.2.2.2.2
  intro m
  induction m with
  | zero =>
    intro k hk f y7 a1 a2 a3
    have : k = 32 := by omega
    subst this
    simp only [s_103_286, s_103_288, s_103_290, s_103_401, if_pos (nI_le (Nat.le_refl 32) (show 32 < 2 ^ 31 by omega))]
    exact hQ f a1 a2 a3
  | succ m ih =>
    intro k hk f y7 a1 a2 a3
    have hlt : k < 32 := by omega
    obtain ⟨g1, g2, g3⟩ := hAg k hlt
    have S30 : sg_S (NNt ρ l k) 32 ≤ 2 ^ 30 := Nat.le_trans NNt_sum hlen
    have w145 : f 145 k = nI (sg_S (NNt ρ l k) 32) := (a1 145 (by decide) (by decide) (by decide) (by decide) k).trans g1
    have w146 : f 146 k = nI (sg_S (fun b => b * NNt ρ l k b) 32 % 32) := (a1 146 (by decide) (by decide) (by decide) (by decide) k).trans g2
    have ek : f 132 i = kI (ρ 3) := (a1 132 (by decide) (by decide) (by decide) (by decide) i).trans hh3
    have zS : nI (sg_S (NNt ρ l k) 32) = 0 ↔ sg_S (NNt ρ l k) 32 = 0 := nI_0i (by omega)
    have none : sg_S (NNt ρ l k) 32 = 0 ↔ ¬ ∃ b, b < 32 ∧ NNt ρ l k b ≠ 0 := by
      rw [sg_eq0]
      constructor
      · rintro z ⟨b, hb, hne⟩; exact hne (z b hb)
      · intro z b hb; exact Classical.byContradiction (fun y => z ⟨b, hb, y⟩)
    simp only [s_103_286, s_103_288, s_103_290, if_neg (nI_ge hlt (show 32 < 2 ^ 31 by omega))]
    simp only [s_103_293, s_103_295]
    rw [if_neg hfo]
    simp only [s_103_298, s_103_299, s_103_302, s_103_304, s_103_305, mk, mr0, mk0, mz0, mr1, mk1, mz1, mr2, mk2, mz2, mr3, mk3, mz3, mr4, mk4, mz4, mr5, mk5, mz5, mr6, mk6, mz6, mr7, mk7, mz7, mr8, mk8, mz8, mr9, mk9, mz9, mr10, mk10, mz10, mr11, mk11, mz11, mr12, mk12, mz12, mr13, mk13, mz13, mr14, mk14, mz14, mr15, mk15, mz15, mr16, mk16, mz16, mr17, mk17, mz17, mr18, mk18, mz18, va_rf_s, pk_mul, nI_add, not_false_eq_true, and_self, true_and, Option.toList_some, Option.toList_none, List.append_nil, List.cons_append, List.nil_append, nI_01, nI_11, vh_K_wI, vh_R_wI, vh_Z_wI, vh_wI_sI, vh_K_sI, vh_R_sI, vh_Z_sI, vh_sI_sI, vh_I_sI, cl (show k < 2 ^ 31 by omega), ib hlt (show 32 ≤ 2 ^ 31 by omega), w145]
    by_cases q : sg_S (NNt ρ l k) 32 = 0
    · rw [if_neg (fun z => z (zS.mpr q))]
      simp only [s_103_308, s_103_395, s_103_398, va_rf_s, pk_mul, nI_add, not_false_eq_true, and_self, true_and, Option.toList_some, Option.toList_none, List.append_nil, List.cons_append, List.nil_append, nI_01, nI_11, vh_K_wI, vh_R_wI, vh_Z_wI, vh_wI_sI, vh_K_sI, vh_R_sI, vh_Z_sI, vh_sI_sI, vh_I_sI]
      refine ih (k + 1) (by omega) f _ a1 a2 (GV_c a3 (fun c _ => bi_c ?_))
      constructor
      · rintro ⟨z1, z2, z3⟩; exact ⟨z1, by omega, z3⟩
      · rintro ⟨z1, z2, z3, z4⟩
        refine ⟨z1, ?_, z3, z4⟩
        have : c / 32 % 32 ≠ k := fun e => (none.mp q) (by rw [← e]; exact z3)
        omega
    · rw [if_pos (fun z => q (zS.mp z))]
      have some : ∃ b, b < 32 ∧ NNt ρ l k b ≠ 0 := Classical.byContradiction (fun z => q (none.mpr z))
      have fin : ∀ v, AG (ρ 3) (NNt ρ l k) v → Wp 103 380 [.ref 129, .int (nI i), .int rd, .int (nI (ρ 0)), .int fo', y5, .int (nI k), y7] [.int (nI v)] (vh_sI h f) Q := by
        intro v hag
        have v32 := AG_lt hag
        have bc : 1024 * ρ 0 + 32 * k + v < 16384 := by omega
        have hM0 : MZ (vh_sI h f) := hM'
        simp only [s_103_380, s_103_382, s_103_383, s_103_384, s_103_386, s_103_388, s_103_391, s_103_392, mk, mr0, mk0, mz0, mr1, mk1, mz1, mr2, mk2, mz2, mr3, mk3, mz3, mr4, mk4, mz4, mr5, mk5, mz5, mr6, mk6, mz6, mr7, mk7, mz7, mr8, mk8, mz8, mr9, mk9, mz9, mr10, mk10, mz10, mr11, mk11, mz11, mr12, mk12, mz12, mr13, mk13, mz13, mr14, mk14, mz14, mr15, mk15, mz15, mr16, mk16, mz16, mr17, mk17, mz17, mr18, mk18, mz18, va_rf_s, pk_mul, nI_add, not_false_eq_true, and_self, true_and, Option.toList_some, Option.toList_none, List.append_nil, List.cons_append, List.nil_append, nI_01, nI_11, vh_K_wI, vh_R_wI, vh_Z_wI, vh_wI_sI, vh_K_sI, vh_R_sI, vh_Z_sI, vh_sI_sI, vh_I_sI, c_code]
        refine m_give (h := vh_sI h f) (f0 := f0) (cn := cna ρ (NNt ρ l) k) hM0 bc hr hrc ((a2 19 (by decide)).trans h19) a3 (fun f1 z1 z2 z3 => ?_)
        rw [vh_I_sI] at z2 z3
        simp only [va_rf_s, pk_mul, nI_add, not_false_eq_true, and_self, true_and, Option.toList_some, Option.toList_none, List.append_nil, List.cons_append, List.nil_append, nI_01, nI_11, vh_K_wI, vh_R_wI, vh_Z_wI, vh_wI_sI, vh_K_sI, vh_R_sI, vh_Z_sI, vh_sI_sI, vh_I_sI]
        simp only [s_103_395, s_103_398, va_rf_s, pk_mul, nI_add, not_false_eq_true, and_self, true_and, Option.toList_some, Option.toList_none, List.append_nil, List.cons_append, List.nil_append, nI_01, nI_11, vh_K_wI, vh_R_wI, vh_Z_wI, vh_wI_sI, vh_K_sI, vh_R_sI, vh_Z_sI, vh_sI_sI, vh_I_sI]
        refine ih (k + 1) (by omega) f1 _ (fun x x1 x2 x3 x4 j => (z2 x x1 x2 x3 x4 j).trans (a1 x x1 x2 x3 x4 j)) (fun j hj => (z3 j hj).trans (a2 j hj)) (GV_c z1 (fun c hc => ?_))
        by_cases e : c = 1024 * ρ 0 + 32 * k + v
        · rw [e, cadd_s]
          have e1 : (1024 * ρ 0 + 32 * k + v) / 1024 = ρ 0 := by omega
          have e2 : (1024 * ρ 0 + 32 * k + v) / 32 % 32 = k := by omega
          have e3 : (1024 * ρ 0 + 32 * k + v) % 32 = v := by omega
          unfold cna
          rw [e1, e2, e3, bi_f (fun z => absurd z.2.1 (by omega)), bi_t ⟨rfl, by omega, some, hag⟩]
        · rw [cadd_o _ e]
          unfold cna
          refine bi_c ⟨?_, ?_⟩
          · rintro ⟨z1, z2, z3⟩; exact ⟨z1, by omega, z3⟩
          · rintro ⟨z1, z2, z3, z4⟩
            refine ⟨z1, ?_, z3, z4⟩
            have : c / 32 % 32 ≠ k := by
              intro e2
              rw [e2] at z4
              have := AG_uniq z4 hag
              exact e (by omega)
            omega
      have k4 : ρ 3 = 1 ∨ ρ 3 = 2 ∨ ρ 3 = 3 ∨ ρ 3 = 4 := by omega
      simp only [s_103_311, s_103_312, s_103_315, s_103_316, s_103_317, mk, mr0, mk0, mz0, mr1, mk1, mz1, mr2, mk2, mz2, mr3, mk3, mz3, mr4, mk4, mz4, mr5, mk5, mz5, mr6, mk6, mz6, mr7, mk7, mz7, mr8, mk8, mz8, mr9, mk9, mz9, mr10, mk10, mz10, mr11, mk11, mz11, mr12, mk12, mz12, mr13, mk13, mz13, mr14, mk14, mz14, mr15, mk15, mz15, mr16, mk16, mz16, mr17, mk17, mz17, mr18, mk18, mz18, va_rf_s, pk_mul, nI_add, not_false_eq_true, and_self, true_and, Option.toList_some, Option.toList_none, List.append_nil, List.cons_append, List.nil_append, nI_01, nI_11, vh_K_wI, vh_R_wI, vh_Z_wI, vh_wI_sI, vh_K_sI, vh_R_sI, vh_Z_sI, vh_sI_sI, vh_I_sI, cl (show i < 2 ^ 31 by omega), ib hi (show 16 ≤ 2 ^ 31 by omega), ek]
      rcases k4 with e | e | e | e
      · rw [e, if_neg (by decide)]
        simp only [s_103_320, s_103_321, s_103_324, s_103_326, s_103_327, s_103_329, s_103_330, mk, mr0, mk0, mz0, mr1, mk1, mz1, mr2, mk2, mz2, mr3, mk3, mz3, mr4, mk4, mz4, mr5, mk5, mz5, mr6, mk6, mz6, mr7, mk7, mz7, mr8, mk8, mz8, mr9, mk9, mz9, mr10, mk10, mz10, mr11, mk11, mz11, mr12, mk12, mz12, mr13, mk13, mz13, mr14, mk14, mz14, mr15, mk15, mz15, mr16, mk16, mz16, mr17, mk17, mz17, mr18, mk18, mz18, va_rf_s, pk_mul, nI_add, not_false_eq_true, and_self, true_and, Option.toList_some, Option.toList_none, List.append_nil, List.cons_append, List.nil_append, nI_01, nI_11, vh_K_wI, vh_R_wI, vh_Z_wI, vh_wI_sI, vh_K_sI, vh_R_sI, vh_Z_sI, vh_sI_sI, vh_I_sI, cl (show k < 2 ^ 31 by omega), ib hlt (show 32 ≤ 2 ^ 31 by omega), w145, n32_0, pk_div (show sg_S (NNt ρ l k) 32 < 2 ^ 31 by omega) (show 0 < 32 by omega) (show 32 < 2 ^ 31 by omega), rem32 (show sg_S (NNt ρ l k) 32 < 2 ^ 31 by omega)]
        exact fin _ (Or.inl ⟨e, rfl⟩)
      · rw [e, if_pos (by decide)]
        simp only [s_103_333, s_103_334, s_103_337, s_103_338, s_103_339, s_103_340, mk, mr0, mk0, mz0, mr1, mk1, mz1, mr2, mk2, mz2, mr3, mk3, mz3, mr4, mk4, mz4, mr5, mk5, mz5, mr6, mk6, mz6, mr7, mk7, mz7, mr8, mk8, mz8, mr9, mk9, mz9, mr10, mk10, mz10, mr11, mk11, mz11, mr12, mk12, mz12, mr13, mk13, mz13, mr14, mk14, mz14, mr15, mk15, mz15, mr16, mk16, mz16, mr17, mk17, mz17, mr18, mk18, mz18, va_rf_s, pk_mul, nI_add, not_false_eq_true, and_self, true_and, Option.toList_some, Option.toList_none, List.append_nil, List.cons_append, List.nil_append, nI_01, nI_11, vh_K_wI, vh_R_wI, vh_Z_wI, vh_wI_sI, vh_K_sI, vh_R_sI, vh_Z_sI, vh_sI_sI, vh_I_sI, cl (show i < 2 ^ 31 by omega), ib hi (show 16 ≤ 2 ^ 31 by omega), ek]
        rw [e, if_neg (by decide)]
        simp only [s_103_343, s_103_344, s_103_347, s_103_349, s_103_350, mk, mr0, mk0, mz0, mr1, mk1, mz1, mr2, mk2, mz2, mr3, mk3, mz3, mr4, mk4, mz4, mr5, mk5, mz5, mr6, mk6, mz6, mr7, mk7, mz7, mr8, mk8, mz8, mr9, mk9, mz9, mr10, mk10, mz10, mr11, mk11, mz11, mr12, mk12, mz12, mr13, mk13, mz13, mr14, mk14, mz14, mr15, mk15, mz15, mr16, mk16, mz16, mr17, mk17, mz17, mr18, mk18, mz18, va_rf_s, pk_mul, nI_add, not_false_eq_true, and_self, true_and, Option.toList_some, Option.toList_none, List.append_nil, List.cons_append, List.nil_append, nI_01, nI_11, vh_K_wI, vh_R_wI, vh_Z_wI, vh_wI_sI, vh_K_sI, vh_R_sI, vh_Z_sI, vh_sI_sI, vh_I_sI, cl (show k < 2 ^ 31 by omega), ib hlt (show 32 ≤ 2 ^ 31 by omega), w146]
        exact fin _ (Or.inr (Or.inl ⟨e, rfl⟩))
      · rw [e, if_pos (by decide)]
        simp only [s_103_333, s_103_334, s_103_337, s_103_338, s_103_339, s_103_340, mk, mr0, mk0, mz0, mr1, mk1, mz1, mr2, mk2, mz2, mr3, mk3, mz3, mr4, mk4, mz4, mr5, mk5, mz5, mr6, mk6, mz6, mr7, mk7, mz7, mr8, mk8, mz8, mr9, mk9, mz9, mr10, mk10, mz10, mr11, mk11, mz11, mr12, mk12, mz12, mr13, mk13, mz13, mr14, mk14, mz14, mr15, mk15, mz15, mr16, mk16, mz16, mr17, mk17, mz17, mr18, mk18, mz18, va_rf_s, pk_mul, nI_add, not_false_eq_true, and_self, true_and, Option.toList_some, Option.toList_none, List.append_nil, List.cons_append, List.nil_append, nI_01, nI_11, vh_K_wI, vh_R_wI, vh_Z_wI, vh_wI_sI, vh_K_sI, vh_R_sI, vh_Z_sI, vh_sI_sI, vh_I_sI, cl (show i < 2 ^ 31 by omega), ib hi (show 16 ≤ 2 ^ 31 by omega), ek]
        rw [e, if_pos (by decide)]
        simp only [s_103_353, s_103_354, s_103_357, s_103_358, s_103_359, s_103_360, mk, mr0, mk0, mz0, mr1, mk1, mz1, mr2, mk2, mz2, mr3, mk3, mz3, mr4, mk4, mz4, mr5, mk5, mz5, mr6, mk6, mz6, mr7, mk7, mz7, mr8, mk8, mz8, mr9, mk9, mz9, mr10, mk10, mz10, mr11, mk11, mz11, mr12, mk12, mz12, mr13, mk13, mz13, mr14, mk14, mz14, mr15, mk15, mz15, mr16, mk16, mz16, mr17, mk17, mz17, mr18, mk18, mz18, va_rf_s, pk_mul, nI_add, not_false_eq_true, and_self, true_and, Option.toList_some, Option.toList_none, List.append_nil, List.cons_append, List.nil_append, nI_01, nI_11, vh_K_wI, vh_R_wI, vh_Z_wI, vh_wI_sI, vh_K_sI, vh_R_sI, vh_Z_sI, vh_sI_sI, vh_I_sI, cl (show i < 2 ^ 31 by omega), ib hi (show 16 ≤ 2 ^ 31 by omega), ek]
        rw [e, if_neg (by decide)]
        obtain ⟨lo, p1, p2, p3, p4⟩ := (g3 q).1
        have w147 : f 147 k = nI lo := (a1 147 (by decide) (by decide) (by decide) (by decide) k).trans p2
        simp only [s_103_363, s_103_364, s_103_367, s_103_369, s_103_370, mk, mr0, mk0, mz0, mr1, mk1, mz1, mr2, mk2, mz2, mr3, mk3, mz3, mr4, mk4, mz4, mr5, mk5, mz5, mr6, mk6, mz6, mr7, mk7, mz7, mr8, mk8, mz8, mr9, mk9, mz9, mr10, mk10, mz10, mr11, mk11, mz11, mr12, mk12, mz12, mr13, mk13, mz13, mr14, mk14, mz14, mr15, mk15, mz15, mr16, mk16, mz16, mr17, mk17, mz17, mr18, mk18, mz18, va_rf_s, pk_mul, nI_add, not_false_eq_true, and_self, true_and, Option.toList_some, Option.toList_none, List.append_nil, List.cons_append, List.nil_append, nI_01, nI_11, vh_K_wI, vh_R_wI, vh_Z_wI, vh_wI_sI, vh_K_sI, vh_R_sI, vh_Z_sI, vh_sI_sI, vh_I_sI, cl (show k < 2 ^ 31 by omega), ib hlt (show 32 ≤ 2 ^ 31 by omega), w147]
        exact fin lo (Or.inr (Or.inr (Or.inl ⟨e, p1, p3, p4⟩)))
      · rw [e, if_pos (by decide)]
        simp only [s_103_333, s_103_334, s_103_337, s_103_338, s_103_339, s_103_340, mk, mr0, mk0, mz0, mr1, mk1, mz1, mr2, mk2, mz2, mr3, mk3, mz3, mr4, mk4, mz4, mr5, mk5, mz5, mr6, mk6, mz6, mr7, mk7, mz7, mr8, mk8, mz8, mr9, mk9, mz9, mr10, mk10, mz10, mr11, mk11, mz11, mr12, mk12, mz12, mr13, mk13, mz13, mr14, mk14, mz14, mr15, mk15, mz15, mr16, mk16, mz16, mr17, mk17, mz17, mr18, mk18, mz18, va_rf_s, pk_mul, nI_add, not_false_eq_true, and_self, true_and, Option.toList_some, Option.toList_none, List.append_nil, List.cons_append, List.nil_append, nI_01, nI_11, vh_K_wI, vh_R_wI, vh_Z_wI, vh_wI_sI, vh_K_sI, vh_R_sI, vh_Z_sI, vh_sI_sI, vh_I_sI, cl (show i < 2 ^ 31 by omega), ib hi (show 16 ≤ 2 ^ 31 by omega), ek]
        rw [e, if_pos (by decide)]
        simp only [s_103_353, s_103_354, s_103_357, s_103_358, s_103_359, s_103_360, mk, mr0, mk0, mz0, mr1, mk1, mz1, mr2, mk2, mz2, mr3, mk3, mz3, mr4, mk4, mz4, mr5, mk5, mz5, mr6, mk6, mz6, mr7, mk7, mz7, mr8, mk8, mz8, mr9, mk9, mz9, mr10, mk10, mz10, mr11, mk11, mz11, mr12, mk12, mz12, mr13, mk13, mz13, mr14, mk14, mz14, mr15, mk15, mz15, mr16, mk16, mz16, mr17, mk17, mz17, mr18, mk18, mz18, va_rf_s, pk_mul, nI_add, not_false_eq_true, and_self, true_and, Option.toList_some, Option.toList_none, List.append_nil, List.cons_append, List.nil_append, nI_01, nI_11, vh_K_wI, vh_R_wI, vh_Z_wI, vh_wI_sI, vh_K_sI, vh_R_sI, vh_Z_sI, vh_sI_sI, vh_I_sI, cl (show i < 2 ^ 31 by omega), ib hi (show 16 ≤ 2 ^ 31 by omega), ek]
        rw [e, if_pos (by decide)]
        obtain ⟨hi', p1, p2, p3, p4⟩ := (g3 q).2
        have w148 : f 148 k = nI hi' := (a1 148 (by decide) (by decide) (by decide) (by decide) k).trans p2
        simp only [s_103_373, s_103_374, s_103_377, s_103_379, mk, mr0, mk0, mz0, mr1, mk1, mz1, mr2, mk2, mz2, mr3, mk3, mz3, mr4, mk4, mz4, mr5, mk5, mz5, mr6, mk6, mz6, mr7, mk7, mz7, mr8, mk8, mz8, mr9, mk9, mz9, mr10, mk10, mz10, mr11, mk11, mz11, mr12, mk12, mz12, mr13, mk13, mz13, mr14, mk14, mz14, mr15, mk15, mz15, mr16, mk16, mz16, mr17, mk17, mz17, mr18, mk18, mz18, va_rf_s, pk_mul, nI_add, not_false_eq_true, and_self, true_and, Option.toList_some, Option.toList_none, List.append_nil, List.cons_append, List.nil_append, nI_01, nI_11, vh_K_wI, vh_R_wI, vh_Z_wI, vh_wI_sI, vh_K_sI, vh_R_sI, vh_Z_sI, vh_sI_sI, vh_I_sI, cl (show k < 2 ^ 31 by omega), ib hlt (show 32 ≤ 2 ^ 31 by omega), w148]
        exact fin hi' (Or.inr (Or.inr (Or.inr ⟨e, p1, p3, p4⟩)))
theorem l_spZ {i : Nat} {rd fo' : Int32} {nm : Value} {h : vt_H} {Q : vt_Q} {y6 y7 : Value} (hM : MZ h) (hfo : ¬ fo' = 0)
    (hQ : ∀ f', (∀ x, x ≠ 145 → x ≠ 146 → ∀ j, f' x j = vh_I h x j) → (∀ x, x < 32 → f' 145 x = nI 0 ∧ f' 146 x = nI 0) → ∀ y, Wp 103 62 [.ref 129, .int (nI i), .int rd, nm, .int fo', y, y6, y7] [] (vh_sI h f') Q) :
    ∀ (m k : Nat), k + m = 32 → ∀ f, (∀ x, x ≠ 145 → x ≠ 146 → ∀ j, f x j = vh_I h x j) → (∀ x, x < k → f 145 x = nI 0 ∧ f 146 x = nI 0) → Wp 103 28 [.ref 129, .int (nI i), .int rd, nm, .int fo', .int (nI k), y6, y7] [] (vh_sI h f) Q := by
  obtain ⟨mk, ⟨mr0, mk0, mz0⟩, ⟨mr1, mk1, mz1⟩, ⟨mr2, mk2, mz2⟩, ⟨mr3, mk3, mz3⟩, ⟨mr4, mk4, mz4⟩, ⟨mr5, mk5, mz5⟩, ⟨mr6, mk6, mz6⟩, ⟨mr7, mk7, mz7⟩, ⟨mr8, mk8, mz8⟩, ⟨mr9, mk9, mz9⟩, ⟨mr10, mk10, mz10⟩, ⟨mr11, mk11, mz11⟩, ⟨mr12, mk12, mz12⟩, ⟨mr13, mk13, mz13⟩, ⟨mr14, mk14, mz14⟩, ⟨mr15, mk15, mz15⟩, ⟨mr16, mk16, mz16⟩, ⟨mr17, mk17, mz17⟩, ⟨mr18, mk18, mz18⟩⟩ := hM
  intro m
  induction m with
  | zero =>
    intro k hk f a1 a2
    have : k = 32 := by omega
    subst this
    simp only [s_103_28, s_103_30, s_103_32, if_pos (nI_le (Nat.le_refl 32) (show 32 < 2 ^ 31 by omega))]
    exact hQ f a1 a2 _
  | succ m ih =>
    intro k hk f a1 a2
    have hlt : k < 32 := by omega
    simp only [s_103_28, s_103_30, s_103_32, if_neg (nI_ge hlt (show 32 < 2 ^ 31 by omega))]
    simp only [s_103_35, s_103_37]
    rw [if_neg hfo]
    simp only [s_103_40, s_103_41, s_103_44, s_103_46, s_103_47, s_103_48, s_103_49, s_103_52, s_103_54, s_103_55, s_103_56, s_103_59, mk, mr0, mk0, mz0, mr1, mk1, mz1, mr2, mk2, mz2, mr3, mk3, mz3, mr4, mk4, mz4, mr5, mk5, mz5, mr6, mk6, mz6, mr7, mk7, mz7, mr8, mk8, mz8, mr9, mk9, mz9, mr10, mk10, mz10, mr11, mk11, mz11, mr12, mk12, mz12, mr13, mk13, mz13, mr14, mk14, mz14, mr15, mk15, mz15, mr16, mk16, mz16, mr17, mk17, mz17, mr18, mk18, mz18, va_rf_s, pk_mul, nI_add, not_false_eq_true, and_self, true_and, Option.toList_some, Option.toList_none, List.append_nil, List.cons_append, List.nil_append, nI_01, nI_11, vh_K_wI, vh_R_wI, vh_Z_wI, vh_wI_sI, vh_K_sI, vh_R_sI, vh_Z_sI, vh_sI_sI, vh_I_sI, cl (show k < 2 ^ 31 by omega), ib hlt (show 32 ≤ 2 ^ 31 by omega)]
    refine ih (k + 1) (by omega) _ (fun x x1 x2 j => ?_) (fun x hx => ?_)
    · rw [up2_a _ _ _ x2, up2_a _ _ _ x1]; exact a1 x x1 x2 j
    · by_cases e : x = k
      · subst e
        rw [up2_a _ _ _ (by decide), up2_s, up2_s]; exact ⟨rfl, rfl⟩
      · rw [up2_i _ _ _ _ e, up2_i _ _ _ _ e, up2_i _ _ _ _ e, up2_i _ _ _ _ e]; exact a2 x (by omega)
theorem m_spread {i r : Nat} {rd : Int32} {ρ : Nat → Nat} {h : vt_H} {Q : vt_Q} {Hc Oc O : Nat → Bool} {rc : Nat → Nat} (hM : MZ h) (hi : i < 16) (hR : MR (vh_I h) i ρ) (hsf : sf ρ) (hr : r < 2 ^ 31) (hrc : ∀ c, c < 16384 → rc c < 2 ^ 31) (h0 : rd = nI r → (∀ c, c < 16384 → vh_I h 136 c = if Hc c = true then nI (rc c) else -nI 1) ∧ ¬ vh_I h 129 19 < 0) (hO : ∀ c, c < 16384 → (OL (vh_I h) c ↔ O c = true)) (hG : GV (vh_I h) (vh_I h) rd r Hc Oc rc (fun _ => 0))
    (hQ : ∀ f', SF (vh_I h) f' → GV (vh_I h) f' rd r Hc Oc rc (cnT O ρ) → Q none (vh_sI h f')) : Wp 103 0 [.ref 129, .int (nI i), .int rd, vt_un, vt_un, vt_un, vt_un, vt_un] [] h Q := by
  have hM' := hM
  have hR' := hR
  obtain ⟨mk, ⟨mr0, mk0, mz0⟩, ⟨mr1, mk1, mz1⟩, ⟨mr2, mk2, mz2⟩, ⟨mr3, mk3, mz3⟩, ⟨mr4, mk4, mz4⟩, ⟨mr5, mk5, mz5⟩, ⟨mr6, mk6, mz6⟩, ⟨mr7, mk7, mz7⟩, ⟨mr8, mk8, mz8⟩, ⟨mr9, mk9, mz9⟩, ⟨mr10, mk10, mz10⟩, ⟨mr11, mk11, mz11⟩, ⟨mr12, mk12, mz12⟩, ⟨mr13, mk13, mz13⟩, ⟨mr14, mk14, mz14⟩, ⟨mr15, mk15, mz15⟩, ⟨mr16, mk16, mz16⟩, ⟨mr17, mk17, mz17⟩, ⟨mr18, mk18, mz18⟩⟩ := hM
  obtain ⟨hok, hh0, hh1, hh2, hh3, hh4, hh5, hp⟩ := hR
  have k5 := hok.1.2.2.2.2
  have len := tuples_len (O := O) (P := fun _ => 0) hok hsf
  -- after all tuples
  have last : ∀ fo' : Int32, (fo' = 0 ↔ ρ 3 = 0) → ∀ f', SF (vh_I h) f' → GV (vh_I h) f' rd r Hc Oc rc (if ρ 3 = 0 then cnp ρ (LSn ρ O (npc ρ) 0 (fun _ => 0)) else fun _ => 0) → (ρ 3 ≠ 0 → AGs f' ρ (LSn ρ O (npc ρ) 0 (fun _ => 0))) → ∀ y5 y6 y7, Wp 103 283 [.ref 129, .int (nI i), .int rd, .int (nI (ρ 0)), .int fo', y5, y6, y7] [] (vh_sI h f') Q := by
    intro fo' hfo f' a1 a2 a3 y5 y6 y7
    simp only [s_103_283, s_103_284]
    by_cases k0 : ρ 3 = 0
    · simp only [s_103_286, s_103_288, s_103_290]
      rw [if_neg (nI_ge (show 0 < 32 by omega) (by omega))]
      simp only [s_103_293, s_103_295]
      rw [if_pos (hfo.mpr k0)]
      simp only [s_103_401]
      rw [if_pos k0] at a2
      exact hQ f' a1 (GV_c a2 (fun c hc => cnp_CT hok hsf k0 hc))
    · rw [if_neg k0] at a2
      have hM1 : MZ (vh_sI h f') := hM'
      refine l_aggr (h := vh_sI h f') (f0 := vh_I h) (l := LSn ρ O (npc ρ) 0 (fun _ => 0)) hM1 hi (SF_MR a1 hR') hr hrc (fun z => k0 (hfo.mp z)) k0 len (a1.2 19 (by decide) (by decide)) (a3 k0) (fun f2 z1 z2 z3 => ?_) 32 0 (by omega) f' _ (fun _ _ _ _ _ _ => rfl) (fun _ _ => rfl) (GV_c a2 (fun c _ => ?_))
      · rw [vh_sI_sI]
        rw [vh_I_sI] at z1 z2
        refine hQ f2 ⟨fun x x1 x2 x3 x4 j => (z1 x x1 x2 x3 (by omega) j).trans (a1.1 x x1 x2 x3 x4 j), fun j j1 j2 => (z2 j j2).trans (a1.2 j j1 j2)⟩ (GV_c z3 (fun c hc => ?_))
        have eN : NNt ρ (LSn ρ O (npc ρ) 0 (fun _ => 0)) = fun x b => CT (fun _ n x y => O (1024 * n + 32 * x + y)) ρ x b := by
          funext x b
          exact tuples_CT hok hsf
        unfold cna cnT
        rw [eN]
        by_cases q : c / 1024 = ρ 0
        · rw [if_pos q]
          unfold TG
          rw [if_neg k0]
          refine bi_c ⟨?_, ?_⟩
          · rintro ⟨_, _, w3, w4⟩
            exact Or.inr ⟨k0, w3, w4⟩
          · rintro (w | ⟨_, w3, w4⟩)
            · exact absurd w.1 k0
            · exact ⟨q, Nat.mod_lt _ (by omega), w3, w4⟩
        · rw [if_neg q, bi_f (fun z => q z.1)]
      · show 0 = cna _ _ _ _
        unfold cna
        rw [bi_f (fun z => absurd z.2.1 (by omega))]
  -- begin, the first tuple
  have mid : ∀ fo' : Int32, (fo' = 0 ↔ ρ 3 = 0) → ∀ f1, (∀ x, x ≠ 145 → x ≠ 146 → ∀ j, f1 x j = vh_I h x j) → (ρ 3 ≠ 0 → ∀ x, x < 32 → f1 145 x = nI 0 ∧ f1 146 x = nI 0) → ∀ y, Wp 103 62 [.ref 129, .int (nI i), .int rd, .int (nI (ρ 0)), .int fo', y, vt_un, vt_un] [] (vh_sI h f1) Q := by
    intro fo' hfo f1 a1 a2 y
    have hM1 : MZ (vh_sI h f1) := hM'
    have hR1 : MR (vh_I (vh_sI h f1)) i ρ := MR_c hR' (fun x x1 x2 j => a1 x (by omega) (by omega) j)
    simp only [s_103_62, s_103_63, s_103_64, mk, mr0, mk0, mz0, mr1, mk1, mz1, mr2, mk2, mz2, mr3, mk3, mz3, mr4, mk4, mz4, mr5, mk5, mz5, mr6, mk6, mz6, mr7, mk7, mz7, mr8, mk8, mz8, mr9, mk9, mz9, mr10, mk10, mz10, mr11, mk11, mz11, mr12, mk12, mz12, mr13, mk13, mz13, mr14, mk14, mz14, mr15, mk15, mz15, mr16, mk16, mz16, mr17, mk17, mz17, mr18, mk18, mz18, va_rf_s, pk_mul, nI_add, not_false_eq_true, and_self, true_and, Option.toList_some, Option.toList_none, List.append_nil, List.cons_append, List.nil_append, nI_01, nI_11, vh_K_wI, vh_R_wI, vh_Z_wI, vh_wI_sI, vh_K_sI, vh_R_sI, vh_Z_sI, vh_sI_sI, vh_I_sI]
    refine m_begin hM1 hi hR1 (fun f2 z1 z2 z3 z4 => ?_)
    rw [vh_sI_sI]
    rw [vh_I_sI] at z1 z2
    have hM2 : MZ (vh_sI h f2) := hM'
    have sf2 : SF (vh_I h) f2 := ⟨fun x x1 x2 x3 x4 j => (z1 x x1 (by omega) (by omega) j).trans (a1 x (by omega) (by omega) j), fun j j1 j2 => (z2 j j1).trans (a1 129 (by decide) (by decide) j)⟩
    have hR2 : MR (vh_I (vh_sI h f2)) i ρ := SF_MR sf2 hR'
    have g2 : GV (vh_I h) f2 rd r Hc Oc rc (fun _ => 0) := GV_f hG (fun j => (z1 136 (by decide) (by decide) (by decide) j).trans (a1 136 (by decide) (by decide) j)) (fun j => (z1 137 (by decide) (by decide) (by decide) j).trans (a1 137 (by decide) (by decide) j)) (fun j => (z1 144 (by decide) (by decide) (by decide) j).trans (a1 144 (by decide) (by decide) j)) ((z2 25 (by decide)).trans (a1 129 (by decide) (by decide) 25))
    have ag0 : ∀ g : Nat → Nat → Int32, (∀ x, x < 32 → g 145 x = nI 0 ∧ g 146 x = nI 0) → AGs g ρ [] := by
      intro g hg x hx
      have e1 : sg_S (NNt ρ [] x) 32 = 0 := sg_eq0.mpr (fun _ _ => rfl)
      have e2 : sg_S (fun b => b * NNt ρ [] x b) 32 = 0 := sg_eq0.mpr (fun _ _ => Nat.mul_zero _)
      rw [e1, e2]
      exact ⟨(hg x hx).1, (hg x hx).2, fun z => absurd rfl z⟩
    have hO2 : ∀ c, c < 16384 → (OL (vh_I (vh_sI h f2)) c ↔ O c = true) := fun c hc => by
      rw [← hO c hc]
      exact GV_OL g2 (sf2.2 19 (by decide) (by decide)) hr h0 hc
    simp only [va_rf_s, pk_mul, nI_add, not_false_eq_true, and_self, true_and, Option.toList_some, Option.toList_none, List.append_nil, List.cons_append, List.nil_append, nI_01, nI_11, vh_K_wI, vh_R_wI, vh_Z_wI, vh_wI_sI, vh_K_sI, vh_R_sI, vh_Z_sI, vh_sI_sI, vh_I_sI]
    simp only [s_103_67, s_103_68, s_103_69, s_103_70, mk, mr0, mk0, mz0, mr1, mk1, mz1, mr2, mk2, mz2, mr3, mk3, mz3, mr4, mk4, mz4, mr5, mk5, mz5, mr6, mk6, mz6, mr7, mk7, mz7, mr8, mk8, mz8, mr9, mk9, mz9, mr10, mk10, mz10, mr11, mk11, mz11, mr12, mk12, mz12, mr13, mk13, mz13, mr14, mk14, mz14, mr15, mk15, mz15, mr16, mk16, mz16, mr17, mk17, mz17, mr18, mk18, mz18, va_rf_s, pk_mul, nI_add, not_false_eq_true, and_self, true_and, Option.toList_some, Option.toList_none, List.append_nil, List.cons_append, List.nil_append, nI_01, nI_11, vh_K_wI, vh_R_wI, vh_Z_wI, vh_wI_sI, vh_K_sI, vh_R_sI, vh_Z_sI, vh_sI_sI, vh_I_sI]
    refine m_nextT (h := vh_sI h f2) (O := O) (P := fun _ => 0) hM2 hi hR2 hsf z3 hO2 z4 (fun hz f3 w1 => ?_) (fun t l hz f3 u w1 w2 w3 w4 w5 w6 => ?_)
    · rw [vh_sI_sI]
      rw [vh_I_sI] at w1
      simp only [va_rf_s, pk_mul, nI_add, not_false_eq_true, and_self, true_and, Option.toList_some, Option.toList_none, List.append_nil, List.cons_append, List.nil_append, nI_01, nI_11, vh_K_wI, vh_R_wI, vh_Z_wI, vh_wI_sI, vh_K_sI, vh_R_sI, vh_Z_sI, vh_sI_sI, vh_I_sI]
      simp only [s_103_73, s_103_75, s_103_77]
      rw [if_pos nI_00]
      refine last fo' hfo f3 ⟨fun x x1 x2 x3 x4 j => (w1 x (by omega) (by omega) j).trans (sf2.1 x x1 x2 x3 x4 j), fun j j1 j2 => (w1 129 (by decide) (by decide) j).trans (sf2.2 j j1 j2)⟩ ?_ (fun k => ?_) _ _ _
      · rw [hz]
        refine GV_f (GV_c g2 (fun c _ => ?_)) (fun j => w1 136 (by decide) (by decide) j) (fun j => w1 137 (by decide) (by decide) j) (fun j => w1 144 (by decide) (by decide) j) (w1 129 (by decide) (by decide) 25)
        split <;> rfl
      · rw [hz]
        exact ag0 f3 (fun x hx => by
          rw [w1 145 (by decide) (by decide), w1 146 (by decide) (by decide), z1 145 (by decide) (by decide) (by decide), z1 146 (by decide) (by decide) (by decide)]
          exact a2 k x hx)
    · rw [vh_sI_sI]
      rw [vh_I_sI] at w1
      simp only [va_rf_s, pk_mul, nI_add, not_false_eq_true, and_self, true_and, Option.toList_some, Option.toList_none, List.append_nil, List.cons_append, List.nil_append, nI_01, nI_11, vh_K_wI, vh_R_wI, vh_Z_wI, vh_wI_sI, vh_K_sI, vh_R_sI, vh_Z_sI, vh_sI_sI, vh_I_sI]
      simp only [s_103_73]
      have sf3 : SF (vh_I h) f3 := ⟨fun x x1 x2 x3 x4 j => (w1 x (by omega) (by omega) j).trans (sf2.1 x x1 x2 x3 x4 j), fun j j1 j2 => (w1 129 (by decide) (by decide) j).trans (sf2.2 j j1 j2)⟩
      refine l_tup (P0 := fun _ => 0) hM' hi hR' hsf hr hrc hfo h0 hO (fun f4 b1 b2 b3 y6 y7 => last fo' hfo f4 b1 b2 b3 _ _ _) l [] t u hz w6 f3 _ _ sf3 ⟨(w1 129 (by decide) (by decide) 17).trans z3.1, fun d hd => (w1 142 (by decide) (by decide) d).trans (z3.2 d hd)⟩ ⟨w2, w3, w4, w5⟩ ?_ (fun k => ?_)
      · refine GV_f (GV_c g2 (fun c _ => ?_)) (fun j => w1 136 (by decide) (by decide) j) (fun j => w1 137 (by decide) (by decide) j) (fun j => w1 144 (by decide) (by decide) j) (w1 129 (by decide) (by decide) 25)
        split <;> rfl
      · exact ag0 f3 (fun x hx => by
          rw [w1 145 (by decide) (by decide), w1 146 (by decide) (by decide), z1 145 (by decide) (by decide) (by decide), z1 146 (by decide) (by decide) (by decide)]
          exact a2 k x hx)
  simp only [s_103_0, s_103_1, s_103_4, s_103_5, s_103_6, s_103_7, s_103_8, s_103_9, s_103_10, s_103_13, s_103_14, s_103_15, mk, mr0, mk0, mz0, mr1, mk1, mz1, mr2, mk2, mz2, mr3, mk3, mz3, mr4, mk4, mz4, mr5, mk5, mz5, mr6, mk6, mz6, mr7, mk7, mz7, mr8, mk8, mz8, mr9, mk9, mz9, mr10, mk10, mz10, mr11, mk11, mz11, mr12, mk12, mz12, mr13, mk13, mz13, mr14, mk14, mz14, mr15, mk15, mz15, mr16, mk16, mz16, mr17, mk17, mz17, mr18, mk18, mz18, va_rf_s, pk_mul, nI_add, not_false_eq_true, and_self, true_and, Option.toList_some, Option.toList_none, List.append_nil, List.cons_append, List.nil_append, nI_01, nI_11, vh_K_wI, vh_R_wI, vh_Z_wI, vh_wI_sI, vh_K_sI, vh_R_sI, vh_Z_sI, vh_sI_sI, vh_I_sI, cl (show 3 * i < 2 ^ 31 by omega), ib (show 3 * i < 48 by omega) (show 48 ≤ 2 ^ 31 by omega), cl (show i < 2 ^ 31 by omega), ib hi (show 16 ≤ 2 ^ 31 by omega), hh0, hh3]
  by_cases k0 : ρ 3 = 0
  · rw [if_pos (by rw [k0]; decide)]
    simp only [s_103_22, s_103_23, s_103_25, s_103_26]
    simp only [s_103_28, s_103_30, s_103_32]
    rw [if_neg (nI_ge (show 0 < 32 by omega) (by omega))]
    simp only [s_103_35, s_103_37]
    rw [if_pos nI_00]
    have := mid (nI 0) ⟨fun _ => k0, fun _ => rfl⟩ (vh_I h) (fun _ _ _ _ => rfl) (fun z => absurd k0 z) (.int (nI 0))
    rw [vh_sI_id] at this
    exact this
  · rw [if_neg ((by decide +kernel : ∀ k, k < 5 → k ≠ 0 → ¬ kI k < 0) (ρ 3) k5 k0)]
    simp only [s_103_18, s_103_19, s_103_22, s_103_23, s_103_25, s_103_26]
    have l := l_spZ (h := h) (Q := Q) (i := i) (rd := rd) (fo' := nI 1) (nm := .int (nI (ρ 0))) (y6 := vt_un) (y7 := vt_un) hM' nI_10 (fun f1 a1 a2 y => mid (nI 1) ⟨fun z => absurd z nI_10, fun z => absurd z k0⟩ f1 a1 (fun _ => a2) y) 32 0 (by omega) (vh_I h) (fun _ _ _ _ => rfl) (fun x hx => absurd hx (by omega))
    rw [vh_sI_id] at l
    exact l
