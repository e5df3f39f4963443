-- ===== counts, row, size of the class =====
noncomputable def CK (ρs : Nat → Nat → Nat) (H : Nat → Nat → Nat → Bool) (n a b i : Nat) : Nat := sg_S (fun i => bi (ρs i 0 = n ∧ sf (ρs i)) * TG H (ρs i) a b) i
theorem l_kcnt {n a b U c la fr : Nat} {S H : Nat → Nat → Nat → Bool} {h : vt_H} {Q : vt_Q} {ρs : Nat → Nat → Nat} {g q : Nat → Nat} (hn : n < 16) (ha : a < 32) (hb : b < 32) (hE : CE h la fr g U q ρs c S) (hH : FR (vh_I h) 11 12 H)
    (hQ : ∀ f', (∀ x, aw x → ∀ j, f' x j = vh_I h x j) → Q (some (.int (nI (CK ρs H n a b c)))) (vh_sI h f')) :
    ∀ (m i : Nat), i + m = c → ∀ f y6, (∀ x, aw x → ∀ j, f x j = vh_I h x j) → Wp 75 51 [.ref 0, .int (nI n), .int (nI a), .int (nI b), .int (nI (CK ρs H n a b i)), .int (nI i), y6] [] (vh_sI h f) Q := by
  obtain ⟨⟨⟨e1, e2, e3, e4, e5, e6⟩, ⟨d1, d2, d3, d4⟩, hSO, hMO, hW, ⟨⟨k48, z48⟩, hR⟩⟩, ⟨c16, hV⟩, hc, hS, ⟨r1, r2, r3, r4⟩, -⟩ := hE
  have hlf := hMO.2.2.2.2.2.2.2.2.2
  intro m
  induction m with
  | zero =>
    intro i hi f y6 a1
    have : i = c := by omega
    subst this
    have e03 : f 0 3 = nI i := (a1 0 (Or.inl (by omega)) 3).trans hc
    simp only [s_75_51, s_75_53, s_75_54, s_75_57, va_rf_s, pk_mul, nI_add, not_false_eq_true, and_self, true_and, Option.toList_some, Option.toList_none, List.append_nil, List.cons_append, List.nil_append, nI_01, nI_11, vh_K_wI, vh_R_wI, vh_Z_wI, vh_wI_sI, vh_K_sI, vh_R_sI, vh_Z_sI, vh_sI_sI, vh_I_sI, e1, e03, if_pos (nI_le (Nat.le_refl i) (show i < 2 ^ 31 by omega))]
    simp only [s_75_108, s_75_110]
    exact hQ f a1
  | succ m ih =>
    intro i hi f y6 a1
    have hlt : i < c := by omega
    have e03 : f 0 3 = nI c := (a1 0 (Or.inl (by omega)) 3).trans hc
    obtain ⟨R1, R2, R3, R4⟩ := hR i (by omega)
    have V := hV i hlt
    have hok := RV_ok V
    have V1 : RV f (q i) (q i + 1) (q i + 2) (q i + 3) (q i + 4) (ρs i) := RV_c V (fun j => a1 _ (Or.inr (by omega)) j) (fun j => a1 _ (Or.inr (by omega)) j) (fun j => a1 _ (Or.inr (by omega)) j) (fun j => a1 _ (Or.inr (by omega)) j) (fun j => a1 _ (Or.inr (by omega)) j)
    have kq := R2.1
    have q0 : f (q i) 0 = nI (ρs i 0) := V1.1.1
    have n16 := hok.1.1
    simp only [s_75_51, s_75_53, s_75_54, s_75_57, va_rf_s, pk_mul, nI_add, not_false_eq_true, and_self, true_and, Option.toList_some, Option.toList_none, List.append_nil, List.cons_append, List.nil_append, nI_01, nI_11, vh_K_wI, vh_R_wI, vh_Z_wI, vh_wI_sI, vh_K_sI, vh_R_sI, vh_Z_sI, vh_sI_sI, vh_I_sI, e1, e03, if_neg (nI_ge hlt (show c < 2 ^ 31 by omega))]
    simp only [s_75_60, s_75_61, s_75_64, s_75_66, s_75_67, s_75_69, s_75_71, s_75_74, s_75_75, va_rf_s, pk_mul, nI_add, not_false_eq_true, and_self, true_and, Option.toList_some, Option.toList_none, List.append_nil, List.cons_append, List.nil_append, nI_01, nI_11, vh_K_wI, vh_R_wI, vh_Z_wI, vh_wI_sI, vh_K_sI, vh_R_sI, vh_Z_sI, vh_sI_sI, vh_I_sI, e1, e3, k48, z48, cl (show i < 2 ^ 31 by omega), ib (show i < 16 by omega) (show 16 ≤ 2 ^ 31 by omega), R1, kq, q0]
    have step : ∀ v : Nat, CK ρs H n a b i + v = CK ρs H n a b (i + 1) → ∀ f' y6, (∀ x, aw x → ∀ j, f' x j = vh_I h x j) → Wp 75 102 [.ref 0, .int (nI n), .int (nI a), .int (nI b), .int (nI (CK ρs H n a b i + v)), .int (nI i), y6] [] (vh_sI h f') Q := by
      intro v hv f' y6 b1
      rw [hv]
      simp only [s_75_102, s_75_105, va_rf_s, pk_mul, nI_add, not_false_eq_true, and_self, true_and, Option.toList_some, Option.toList_none, List.append_nil, List.cons_append, List.nil_append, nI_01, nI_11, vh_K_wI, vh_R_wI, vh_Z_wI, vh_wI_sI, vh_K_sI, vh_R_sI, vh_Z_sI, vh_sI_sI, vh_I_sI]
      exact ih (i + 1) (by omega) f' y6 b1
    have skip : ¬ (ρs i 0 = n ∧ sf (ρs i)) → ∀ y6, Wp 75 102 [.ref 0, .int (nI n), .int (nI a), .int (nI b), .int (nI (CK ρs H n a b i)), .int (nI i), y6] [] (vh_sI h f) Q := fun no y6 => step 0 (by unfold CK; rw [sg_succ, bi_f no, Nat.zero_mul]) f y6 a1
    by_cases w : ρs i 0 = n
    · rw [if_neg (fun z => z (by rw [w]))]
      have hRs : RL (vh_sI h f) (q i) (q i + 1) (q i + 2) (q i + 3) (q i + 4) := R2
      have V2 : RV (vh_I (vh_sI h f)) (q i) (q i + 1) (q i + 2) (q i + 3) (q i + 4) (ρs i) := V1
      simp only [s_75_78, s_75_80, s_75_83, va_rf_s, pk_mul, nI_add, not_false_eq_true, and_self, true_and, Option.toList_some, Option.toList_none, List.append_nil, List.cons_append, List.nil_append, nI_01, nI_11, vh_K_wI, vh_R_wI, vh_Z_wI, vh_wI_sI, vh_K_sI, vh_R_sI, vh_Z_sI, vh_sI_sI, vh_I_sI, kq, c_safeR _ hRs V2]
      by_cases w2 : sf (ρs i)
      · rw [if_neg (fun z => jb_0c.mp z w2)]
        simp only [s_75_86, s_75_88, s_75_89, s_75_92, s_75_94, s_75_95, s_75_96, va_rf_s, pk_mul, nI_add, not_false_eq_true, and_self, true_and, Option.toList_some, Option.toList_none, List.append_nil, List.cons_append, List.nil_append, nI_01, nI_11, vh_K_wI, vh_R_wI, vh_Z_wI, vh_wI_sI, vh_K_sI, vh_R_sI, vh_Z_sI, vh_sI_sI, vh_I_sI, e1, e4, e5]
        refine c_times (h := vh_sI h f) (P := H) (L := fun _ _ _ => false) (la := la) (fr := fr) hMO hRs V2 ⟨⟨by omega, by omega⟩, by omega, by omega, by omega⟩ (sf_hs2 w2 hok.1.2.1 hok.1.2.2.1) (fun n a b z1 z2 z3 => ?_) (fun n a b z1 z2 z3 => ?_) ha hb (fun f1 b1 => ?_)
        · rw [vh_I_sI, a1 11 (Or.inl (by omega)), a1 12 (Or.inl (by omega))]; exact hH n a b z1 z2 z3
        · rw [vh_I_sI, a1 _ (Or.inr (by omega)), a1 _ (Or.inr (by omega))]; exact r1 n a b z1 z2 z3
        · simp only [va_rf_s, pk_mul, nI_add, not_false_eq_true, and_self, true_and, Option.toList_some, Option.toList_none, List.append_nil, List.cons_append, List.nil_append, nI_01, nI_11, vh_K_wI, vh_R_wI, vh_Z_wI, vh_wI_sI, vh_K_sI, vh_R_sI, vh_Z_sI, vh_sI_sI, vh_I_sI]
          simp only [s_75_99, s_75_100, va_rf_s, pk_mul, nI_add, not_false_eq_true, and_self, true_and, Option.toList_some, Option.toList_none, List.append_nil, List.cons_append, List.nil_append, nI_01, nI_11, vh_K_wI, vh_R_wI, vh_Z_wI, vh_wI_sI, vh_K_sI, vh_R_sI, vh_Z_sI, vh_sI_sI, vh_I_sI]
          exact step _ (by unfold CK; rw [sg_succ, bi_t ⟨w, w2⟩, Nat.one_mul]) f1 _ (fun x hx j => (b1 x hx j).trans (a1 x hx j))
      · rw [if_pos (jb_0c.mpr w2)]
        exact skip (fun z => w2 z.2) _
    · rw [if_pos (fun z => w ((nI_eq (by omega) (by omega)).mp z))]
      exact skip (fun z => w z.1) _
theorem k_counts_bad {n a b : Int32} {h : vt_H} {Q : vt_Q} (hb : jbad n a b) (hQ : Q (some (.int (-nI 1))) h) : Wp 75 0 [.ref 0, .int n, .int a, .int b, vt_un, vt_un, vt_un] [] h Q := by
  unfold jbad at hb
  simp only [s_75_0, s_75_1, s_75_2, s_75_3, s_75_6, s_75_9, s_75_10, va_rf_s, pk_mul, nI_add, not_false_eq_true, and_self, true_and, Option.toList_some, Option.toList_none, List.append_nil, List.cons_append, List.nil_append, nI_01, nI_11, vh_K_wI, vh_R_wI, vh_Z_wI, vh_wI_sI, vh_K_sI, vh_R_sI, vh_Z_sI, vh_sI_sI, vh_I_sI, c_isBadFact, jb_0]
  rw [if_neg (fun z => z hb)]
  exact hQ
theorem k_counts {n a b U c : Nat} {S : Nat → Nat → Nat → Bool} {h : vt_H} {Q : vt_Q} {ρs : Nat → Nat → Nat} (hn : n < 16) (ha : a < 32) (hb : b < 32) (hC : CC h U ρs c S)
    (hQ : ∀ h' ci lv H t rd, CC h' U ρs c S → FX h h' → MDL ρs c S ci lv H t rd → Q (some (.int (if cI ci < 0 then nI (CK ρs H n a b c) else nI 0))) h') : Wp 75 0 [.ref 0, .int (nI n), .int (nI a), .int (nI b), vt_un, vt_un, vt_un] [] h Q := by
  obtain ⟨⟨e1, e2, e3, e4, e5, e6⟩, k48, hc, c16⟩ := CC_EN hC
  have k1 := e6.1
  simp only [s_75_0, s_75_1, s_75_2, s_75_3, s_75_6, va_rf_s, pk_mul, nI_add, not_false_eq_true, and_self, true_and, Option.toList_some, Option.toList_none, List.append_nil, List.cons_append, List.nil_append, nI_01, nI_11, vh_K_wI, vh_R_wI, vh_Z_wI, vh_wI_sI, vh_K_sI, vh_R_sI, vh_Z_sI, vh_sI_sI, vh_I_sI, c_isBadFact, jb_0]
  rw [if_pos (jnbad hn ha hb)]
  simp only [s_75_11, s_75_12, s_75_15, s_75_16, s_75_19, s_75_20, s_75_23, s_75_24, s_75_27, va_rf_s, pk_mul, nI_add, not_false_eq_true, and_self, true_and, Option.toList_some, Option.toList_none, List.append_nil, List.cons_append, List.nil_append, nI_01, nI_11, vh_K_wI, vh_R_wI, vh_Z_wI, vh_wI_sI, vh_K_sI, vh_R_sI, vh_Z_sI, vh_sI_sI, vh_I_sI, e1, e2, e3, e4, e5, k48, k1, hc]
  refine k_settle hC (fun h' la fr g q a1 a2 a3 a4 => ?_)
  simp only [va_rf_s, pk_mul, nI_add, not_false_eq_true, and_self, true_and, Option.toList_some, Option.toList_none, List.append_nil, List.cons_append, List.nil_append, nI_01, nI_11, vh_K_wI, vh_R_wI, vh_Z_wI, vh_wI_sI, vh_K_sI, vh_R_sI, vh_Z_sI, vh_sI_sI, vh_I_sI]
  obtain ⟨⟨⟨e1, e2, e3, e4, e5, e6⟩, ⟨d1, d2, d3, d4⟩, hSO, hMO, hW, hR⟩, hV, hc, -⟩ := id a1
  obtain ⟨ci, lv, H, t, rd, h1, h2, h3, h4, h5, h6, h7⟩ := a3
  have s1 := hSO.1
  simp only [s_75_30, s_75_31, s_75_34, s_75_37, s_75_40, va_rf_s, pk_mul, nI_add, not_false_eq_true, and_self, true_and, Option.toList_some, Option.toList_none, List.append_nil, List.cons_append, List.nil_append, nI_01, nI_11, vh_K_wI, vh_R_wI, vh_Z_wI, vh_wI_sI, vh_K_sI, vh_R_sI, vh_Z_sI, vh_sI_sI, vh_I_sI, e1, e4, e5, d1, s1, h2]
  by_cases w : cI ci < 0
  · rw [if_pos w]
    simp only [s_75_45, s_75_46, s_75_48, s_75_49]
    have l := l_kcnt (Q := Q) hn ha hb a1 h4 (fun f' b1 => ?_) c 0 (by omega) (vh_I h') vt_un (fun _ _ _ => rfl)
    · rw [vh_sI_id] at l
      exact l
    · have fin := hQ (vh_sI h' f') ci lv H t rd ⟨la, fr, g, q, CE_c (fun x hx j => b1 x hx.1 j) a1, a2⟩ (FX_trans a4 (FX_sI (fun x x1 x2 j => b1 x (Or.inr (by omega)) j))) ⟨h1, h7⟩
      rw [if_pos w] at fin
      exact fin
  · rw [if_neg w]
    simp only [s_75_43, s_75_44]
    have fin := hQ h' ci lv H t rd ⟨la, fr, g, q, a1, a2⟩ a4 ⟨h1, h7⟩
    rw [if_neg w] at fin
    exact fin
/-- the least code from k on, or NO -/
def RWV (H : Nat → Nat → Nat → Bool) (k : Nat) (v : Int32) : Prop := (∃ x, k ≤ x ∧ x < 16384 ∧ hc H x = true ∧ (∀ y, k ≤ y → y < x → ¬ hc H y = true) ∧ v = nI x) ∨ ((∀ y, k ≤ y → y < 16384 → ¬ hc H y = true) ∧ v = -nI 2)
theorem RWV_uniq {H : Nat → Nat → Nat → Bool} {k : Nat} {v v' : Int32} (h : RWV H k v) (h' : RWV H k v') : v = v' := by
  rcases h with ⟨x, h1, h2, h3, h4, h5⟩ | ⟨h1, h2⟩
  · rcases h' with ⟨x', h1', h2', h3', h4', h5'⟩ | ⟨h1', h2'⟩
    · rcases Nat.lt_trichotomy x x' with q | q | q
      · exact absurd h3 (h4' x h1 q)
      · rw [h5, h5', q]
      · exact absurd h3' (h4 x' h1' q)
    · exact absurd h3 (h1' x h1 h2)
  · rcases h' with ⟨x', h1', h2', h3', h4', h5'⟩ | ⟨h1', h2'⟩
    · exact absurd h3' (h1 x' h1' h2')
    · rw [h2, h2']
theorem hc_bt {f : Nat → Nat → Int32} {s g : Nat} {H : Nat → Nat → Nat → Bool} (hF : FR f s g H) {i b : Nat} (hi : i < 512) (hb : b < 32) : bt (f s i) b = hc H (32 * i + b) := by
  have := (hF (i / 32) (i % 32) b (by omega) (Nat.mod_lt _ (by omega)) hb).1
  rw [show 32 * (i / 32) + i % 32 = i by omega] at this
  rw [this]
  unfold hc
  rw [show (32 * i + b) / 1024 = i / 32 by omega, show (32 * i + b) / 32 % 32 = i % 32 by omega, show (32 * i + b) % 32 = b by omega]
theorem l_code {fc s g k : Nat} {H : Nat → Nat → Nat → Bool} {h : vt_H} {Q : vt_Q} (hT : FT h fc s g) (hF : FR (vh_I h) s g H) (hk : k < 16384) (hQ : ∀ v, RWV H k v → Q (some (.int v)) h) :
    ∀ (m i : Nat), i + m = 512 → k / 32 ≤ i → (∀ y, k ≤ y → y < 32 * i → ¬ hc H y = true) → ∀ y4, Wp 78 7 [.ref fc, .int (nI k), .int (nI (k / 32)), .int (nI i), y4] [] h Q := by
  obtain ⟨t1, t2, t3, t4, t5, t6, t7⟩ := hT
  intro m
  induction m with
  | zero =>
    intro i hi h1 h2 y4
    have : i = 512 := by omega
    subst this
    simp only [s_78_7, s_78_8, s_78_11, if_pos (nI_le (Nat.le_refl 512) (show 512 < 2 ^ 31 by omega))]
    simp only [s_78_65, s_78_67]
    exact hQ _ (Or.inr ⟨fun y y1 y2 => h2 y y1 (by omega), rfl⟩)
  | succ m ih =>
    intro i hi h1 h2 y4
    have hlt : i < 512 := by omega
    simp only [s_78_7, s_78_8, s_78_11, if_neg (nI_ge hlt (show 512 < 2 ^ 31 by omega))]
    have go : ∀ z : Int32, (∀ b, b < 32 → (bt z b = true ↔ k ≤ 32 * i + b ∧ hc H (32 * i + b) = true)) → Wp 78 41 [.ref fc, .int (nI k), .int (nI (k / 32)), .int (nI i), y4] [.int z] h Q := by
      intro z hz
      simp only [s_78_41, s_78_43, s_78_45]
      by_cases w : z = 0
      · rw [if_pos w]
        simp only [s_78_59, s_78_62, va_rf_s, pk_mul, nI_add, not_false_eq_true, and_self, true_and, Option.toList_some, Option.toList_none, List.append_nil, List.cons_append, List.nil_append, nI_01, nI_11, vh_K_wI, vh_R_wI, vh_Z_wI, vh_wI_sI, vh_K_sI, vh_R_sI, vh_Z_sI, vh_sI_sI, vh_I_sI]
        refine ih (i + 1) (by omega) (by omega) (fun y y1 y2 y3 => ?_) _
        by_cases e : y < 32 * i
        · exact h2 y y1 e y3
        · have := (hz (y - 32 * i) (by omega)).mpr ⟨by omega, by rw [show 32 * i + (y - 32 * i) = y by omega]; exact y3⟩
          rw [w, b_0] at this
          cases this
      · rw [if_neg w]
        obtain ⟨b, b1, b2, b3⟩ := bt_ex w
        obtain ⟨b4, b5⟩ := (hz b b1).mp b2
        simp only [s_78_48, s_78_50, s_78_51, s_78_52, s_78_54, s_78_57, s_78_58, va_rf_s, pk_mul, nI_add, not_false_eq_true, and_self, true_and, Option.toList_some, Option.toList_none, List.append_nil, List.cons_append, List.nil_append, nI_01, nI_11, vh_K_wI, vh_R_wI, vh_Z_wI, vh_wI_sI, vh_K_sI, vh_R_sI, vh_Z_sI, vh_sI_sI, vh_I_sI, c_leastOf, jleast_eq b1 b2 b3]
        refine hQ _ (Or.inl ⟨32 * i + b, b4, by omega, b5, fun y y1 y2 y3 => ?_, rfl⟩)
        by_cases e : y < 32 * i
        · exact h2 y y1 e y3
        · have := (hz (y - 32 * i) (by omega)).mpr ⟨by omega, by rw [show 32 * i + (y - 32 * i) = y by omega]; exact y3⟩
          rw [b3 _ (by omega)] at this
          cases this
    simp only [s_78_14, s_78_15, s_78_16]
    by_cases e : i = k / 32
    · rw [if_neg (fun z => z (by rw [e]))]
      simp only [s_78_19, s_78_20, s_78_23, s_78_24, s_78_25, s_78_26, s_78_27, s_78_29, s_78_30, s_78_31, s_78_32, va_rf_s, pk_mul, nI_add, not_false_eq_true, and_self, true_and, Option.toList_some, Option.toList_none, List.append_nil, List.cons_append, List.nil_append, nI_01, nI_11, vh_K_wI, vh_R_wI, vh_Z_wI, vh_wI_sI, vh_K_sI, vh_R_sI, vh_Z_sI, vh_sI_sI, vh_I_sI, t1, t2, t4, t5, cl (show i < 2 ^ 31 by omega), ib hlt (show 512 ≤ 2 ^ 31 by omega), n32_0, pk_div (show k < 2 ^ 31 by omega) (show 0 < 32 by omega) (show 32 < 2 ^ 31 by omega), rem32 (show k < 2 ^ 31 by omega)]
      refine go _ (fun b hb => ?_)
      rw [b_and, b_shl _ (Nat.mod_lt _ (by omega)) _ hb, hc_bt hF hlt hb]
      have : decide (k % 32 ≤ b) = true ↔ k ≤ 32 * i + b := by rw [decide_eq_true_eq]; omega
      rw [Bool.and_eq_true, Bool.and_eq_true, this, bt_neg1 _ (by omega)]
      exact ⟨fun z => ⟨z.2.1, z.1⟩, fun z => ⟨z.2, z.1, rfl⟩⟩
    · rw [if_pos (fun z => e ((nI_eq (by omega) (by omega)).mp z))]
      simp only [s_78_35, s_78_36, s_78_39, s_78_40, va_rf_s, pk_mul, nI_add, not_false_eq_true, and_self, true_and, Option.toList_some, Option.toList_none, List.append_nil, List.cons_append, List.nil_append, nI_01, nI_11, vh_K_wI, vh_R_wI, vh_Z_wI, vh_wI_sI, vh_K_sI, vh_R_sI, vh_Z_sI, vh_sI_sI, vh_I_sI, t1, t2, t4, t5, cl (show i < 2 ^ 31 by omega), ib hlt (show 512 ≤ 2 ^ 31 by omega)]
      refine go _ (fun b hb => ?_)
      rw [hc_bt hF hlt hb]
      exact ⟨fun z => ⟨by omega, z⟩, fun z => z.2⟩
theorem c_codeF {fc s g k : Nat} {H : Nat → Nat → Nat → Bool} {h : vt_H} {Q : vt_Q} (hT : FT h fc s g) (hF : FR (vh_I h) s g H) (hk : k < 16384) (hQ : ∀ v, RWV H k v → Q (some (.int v)) h) : Wp 78 0 [.ref fc, .int (nI k), vt_un, vt_un, vt_un] [] h Q := by
  simp only [s_78_0, s_78_1, s_78_3, s_78_4, s_78_5, s_78_6, n32_0, pk_div (show k < 2 ^ 31 by omega) (show 0 < 32 by omega) (show 32 < 2 ^ 31 by omega), not_false_eq_true]
  exact l_code hT hF hk hQ (512 - k / 32) (k / 32) (by omega) (Nat.le_refl _) (fun y y1 y2 => absurd y2 (by omega)) _
theorem k_row_big {n : Int32} {h : vt_H} {Q : vt_Q} (hb : ¬ n < nI 16383) (hQ : Q (some (.int (-nI 2))) h) : Wp 77 0 [.ref 0, .int n] [] h Q := by
  simp only [s_77_0, s_77_1, s_77_4, s_77_7, s_77_9]
  rw [if_neg hb]
  exact hQ
/-- from where row looks -/
def rwk (n : Int32) : Int32 := if 0 ≤ n then n + nI 1 else nI 0
theorem rwk_n {n : Int32} (h : n < nI 16383) : ∃ k, k < 16384 ∧ rwk n = nI k := by
  unfold rwk
  by_cases w : 0 ≤ n
  · rw [if_pos w]
    obtain ⟨k, k1, k2⟩ := jrng (x := n) (N := 16383) (by omega) (fun z => z.elim (fun y => absurd w (Int32.not_le.mpr y)) (fun y => absurd h (Int32.not_lt.mpr y)))
    exact ⟨k + 1, by omega, by rw [k2, nI_add]⟩
  · rw [if_neg w]
    exact ⟨0, by omega, rfl⟩
theorem k_row {U c k : Nat} {n : Int32} {S : Nat → Nat → Nat → Bool} {h : vt_H} {Q : vt_Q} {ρs : Nat → Nat → Nat} (hb : n < nI 16383) (hk : k < 16384) (ek : rwk n = nI k) (hC : CC h U ρs c S)
    (hQ : ∀ h' ci lv H t rd v, CC h' U ρs c S → FX h h' → MDL ρs c S ci lv H t rd → RWV H k v → Q (some (.int v)) h') : Wp 77 0 [.ref 0, .int n] [] h Q := by
  obtain ⟨⟨e1, e2, e3, e4, e5, e6⟩, k48, hc, c16⟩ := CC_EN hC
  have k1 := e6.1
  simp only [s_77_0, s_77_1, s_77_4]
  rw [if_pos hb]
  simp only [s_77_10, s_77_11, s_77_14, s_77_15, s_77_18, s_77_19, s_77_22, s_77_23, s_77_26, va_rf_s, pk_mul, nI_add, not_false_eq_true, and_self, true_and, Option.toList_some, Option.toList_none, List.append_nil, List.cons_append, List.nil_append, nI_01, nI_11, vh_K_wI, vh_R_wI, vh_Z_wI, vh_wI_sI, vh_K_sI, vh_R_sI, vh_Z_sI, vh_sI_sI, vh_I_sI, e1, e2, e3, e4, e5, k48, k1, hc]
  refine k_settle hC (fun h' la fr g q a1 a2 a3 a4 => ?_)
  simp only [va_rf_s, pk_mul, nI_add, not_false_eq_true, and_self, true_and, Option.toList_some, Option.toList_none, List.append_nil, List.cons_append, List.nil_append, nI_01, nI_11, vh_K_wI, vh_R_wI, vh_Z_wI, vh_wI_sI, vh_K_sI, vh_R_sI, vh_Z_sI, vh_sI_sI, vh_I_sI]
  obtain ⟨⟨⟨e1, e2, e3, e4, e5, e6⟩, ⟨d1, d2, d3, d4⟩, hSO, hMO, hW, hR⟩, hV, hc, -⟩ := id a1
  obtain ⟨ci, lv, H, t, rd, h1, h2, h3, h4, h5, h6, h7⟩ := a3
  obtain ⟨-, m2, -, -, -, m6, -⟩ := hMO
  have m61 := m6.1
  have fin : Wp 77 47 [.ref 0, .int n] [.int (rwk n), .ref 10] h' Q := by
    rw [ek]
    simp only [s_77_47, va_rf_s, pk_mul, nI_add, not_false_eq_true, and_self, true_and, Option.toList_some, Option.toList_none, List.append_nil, List.cons_append, List.nil_append, nI_01, nI_11, vh_K_wI, vh_R_wI, vh_Z_wI, vh_wI_sI, vh_K_sI, vh_R_sI, vh_Z_sI, vh_sI_sI, vh_I_sI, m61]
    refine c_codeF m6 h4 hk (fun v hv => ?_)
    simp only [va_rf_s, pk_mul, nI_add, not_false_eq_true, and_self, true_and, Option.toList_some, Option.toList_none, List.append_nil, List.cons_append, List.nil_append, nI_01, nI_11, vh_K_wI, vh_R_wI, vh_Z_wI, vh_wI_sI, vh_K_sI, vh_R_sI, vh_Z_sI, vh_sI_sI, vh_I_sI]
    simp only [s_77_50]
    exact hQ h' ci lv H t rd v ⟨la, fr, g, q, a1, a2⟩ a4 ⟨h1, h7⟩ hv
  simp only [s_77_29, s_77_30, s_77_33, s_77_36, s_77_37, va_rf_s, pk_mul, nI_add, not_false_eq_true, and_self, true_and, Option.toList_some, Option.toList_none, List.append_nil, List.cons_append, List.nil_append, nI_01, nI_11, vh_K_wI, vh_R_wI, vh_Z_wI, vh_wI_sI, vh_K_sI, vh_R_sI, vh_Z_sI, vh_sI_sI, vh_I_sI, e1, e4, e5, m2]
  by_cases w : 0 ≤ n
  · rw [if_pos w]
    rw [show rwk n = n + nI 1 from if_pos w] at fin
    simp only [s_77_44, s_77_45, s_77_46]
    exact fin
  · rw [if_neg w]
    rw [show rwk n = nI 0 from if_neg w] at fin
    simp only [s_77_40, s_77_41]
    exact fin
theorem sg_32 (f : Nat → Nat) : ∀ m, sg_S f (32 * m) = sg_S (fun i => sg_S (fun b => f (32 * i + b)) 32) m := by
  have ad : ∀ k N, sg_S f (N + k) = sg_S f N + sg_S (fun b => f (N + b)) k := by
    intro k N
    induction k with
    | zero => rfl
    | succ k ih =>
      rw [show N + (k + 1) = (N + k) + 1 by omega, sg_succ, sg_succ, ih]
      omega
  intro m
  induction m with
  | zero => rfl
  | succ m ih =>
    rw [show 32 * (m + 1) = 32 * m + 32 by omega, ad, ih]
    exact (sg_succ (fun i => sg_S (fun b => f (32 * i + b)) 32) m).symm
theorem l_totF {fc s g : Nat} {H : Nat → Nat → Nat → Bool} {h : vt_H} {Q : vt_Q} (hT : FT h fc s g) (hF : FR (vh_I h) s g H) (hQ : Q (some (.int (nI (cF H)))) h) :
    ∀ (m i : Nat), i + m = 512 → Wp 80 4 [.ref fc, .int (nI (sg_S (fun i => sg_S (fun b => if hc H (32 * i + b) = true then 1 else 0) 32) i)), .int (nI i)] [] h Q := by
  obtain ⟨t1, t2, t3, t4, t5, t6, t7⟩ := hT
  intro m
  induction m with
  | zero =>
    intro i hi
    have : i = 512 := by omega
    subst this
    simp only [s_80_4, s_80_5, s_80_8, if_pos (nI_le (Nat.le_refl 512) (show 512 < 2 ^ 31 by omega))]
    simp only [s_80_29, s_80_30]
    rw [← sg_32 (fun c => if hc H c = true then 1 else 0) 512]
    exact hQ
  | succ m ih =>
    intro i hi
    have hlt : i < 512 := by omega
    simp only [s_80_4, s_80_5, s_80_8, if_neg (nI_ge hlt (show 512 < 2 ^ 31 by omega))]
    have e : jbc (vh_I h s i) = nI (sg_S (fun b => if hc H (32 * i + b) = true then 1 else 0) 32) := by
      rw [jbc_eq]
      exact congrArg nI (sg_congr (fun b hb => by rw [hc_bt hF hlt hb]))
    simp only [s_80_11, s_80_12, s_80_13, s_80_16, s_80_17, s_80_18, s_80_21, s_80_22, s_80_23, s_80_26, va_rf_s, pk_mul, nI_add, not_false_eq_true, and_self, true_and, Option.toList_some, Option.toList_none, List.append_nil, List.cons_append, List.nil_append, nI_01, nI_11, vh_K_wI, vh_R_wI, vh_Z_wI, vh_wI_sI, vh_K_sI, vh_R_sI, vh_Z_sI, vh_sI_sI, vh_I_sI, t1, t2, t4, t5, cl (show i < 2 ^ 31 by omega), ib hlt (show 512 ≤ 2 ^ 31 by omega), c_bitCount, e]
    have := ih (i + 1) (by omega)
    rw [sg_succ (fun i => sg_S (fun b => if hc H (32 * i + b) = true then 1 else 0) 32) i] at this
    exact this
theorem c_sizeT {fc s g : Nat} {H : Nat → Nat → Nat → Bool} {h : vt_H} {Q : vt_Q} (hT : FT h fc s g) (hF : FR (vh_I h) s g H) (hQ : Q (some (.int (nI (cF H)))) h) : Wp 80 0 [.ref fc, vt_un, vt_un] [] h Q := by
  simp only [s_80_0, s_80_1, s_80_2, s_80_3]
  exact l_totF hT hF hQ 512 0 (by omega)
theorem k_size {U c : Nat} {S : Nat → Nat → Nat → Bool} {h : vt_H} {Q : vt_Q} {ρs : Nat → Nat → Nat} (hC : CC h U ρs c S)
    (hQ : ∀ h' ci lv H t rd, CC h' U ρs c S → FX h h' → MDL ρs c S ci lv H t rd → Q (some (.int (nI (cF H)))) h') : Wp 79 0 [.ref 0] [] h Q := by
  obtain ⟨⟨e1, e2, e3, e4, e5, e6⟩, k48, hc, c16⟩ := CC_EN hC
  have k1 := e6.1
  simp only [s_79_0, s_79_1, s_79_4, s_79_5, s_79_8, s_79_9, s_79_12, s_79_13, s_79_16, va_rf_s, pk_mul, nI_add, not_false_eq_true, and_self, true_and, Option.toList_some, Option.toList_none, List.append_nil, List.cons_append, List.nil_append, nI_01, nI_11, vh_K_wI, vh_R_wI, vh_Z_wI, vh_wI_sI, vh_K_sI, vh_R_sI, vh_Z_sI, vh_sI_sI, vh_I_sI, e1, e2, e3, e4, e5, k48, k1, hc]
  refine k_settle hC (fun h' la fr g q a1 a2 a3 a4 => ?_)
  simp only [va_rf_s, pk_mul, nI_add, not_false_eq_true, and_self, true_and, Option.toList_some, Option.toList_none, List.append_nil, List.cons_append, List.nil_append, nI_01, nI_11, vh_K_wI, vh_R_wI, vh_Z_wI, vh_wI_sI, vh_K_sI, vh_R_sI, vh_Z_sI, vh_sI_sI, vh_I_sI]
  obtain ⟨⟨⟨e1, e2, e3, e4, e5, e6⟩, ⟨d1, d2, d3, d4⟩, hSO, hMO, hW, hR⟩, hV, hc, -⟩ := id a1
  obtain ⟨ci, lv, H, t, rd, h1, h2, h3, h4, h5, h6, h7⟩ := a3
  obtain ⟨-, m2, -, -, -, m6, -⟩ := hMO
  have m61 := m6.1
  simp only [s_79_19, s_79_20, s_79_23, s_79_26, va_rf_s, pk_mul, nI_add, not_false_eq_true, and_self, true_and, Option.toList_some, Option.toList_none, List.append_nil, List.cons_append, List.nil_append, nI_01, nI_11, vh_K_wI, vh_R_wI, vh_Z_wI, vh_wI_sI, vh_K_sI, vh_R_sI, vh_Z_sI, vh_sI_sI, vh_I_sI, e1, e4, e5, m2, m61]
  refine c_sizeT m6 h4 ?_
  simp only [va_rf_s, pk_mul, nI_add, not_false_eq_true, and_self, true_and, Option.toList_some, Option.toList_none, List.append_nil, List.cons_append, List.nil_append, nI_01, nI_11, vh_K_wI, vh_R_wI, vh_Z_wI, vh_wI_sI, vh_K_sI, vh_R_sI, vh_Z_sI, vh_sI_sI, vh_I_sI]
  simp only [s_79_29]
  exact hQ h' ci lv H t rd ⟨la, fr, g, q, a1, a2⟩ a4 ⟨h1, h7⟩
