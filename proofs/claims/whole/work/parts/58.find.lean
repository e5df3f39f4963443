-- ===== CASES of the class: firstNumbers, begin, find =====
/-- what load leaves: links, level 0, the asked items -/
def SB (f : Nat → Nat → Int32) (F : Nat → Bool) (G : Nat → Nat → Nat) (kp xi si : Nat) : Prop :=
  (sy (EE f) (AA f) ∧ LV f 0 F 1 G ∧ KP f kp ∧ (∃ es : List Nat, es.length ≤ 5 ∧ ∀ u v, u < 6 → v < 6 → EE f u v = true → pc2 u v ∈ es)) ∧ (f 13 11 = 0 ∧ f 13 12 = jI xi ∧ f 13 13 = jI si) ∧ (xi < 38 ∧ si < 38) ∧ ((32 ≤ xi → F (xi - 32) = true) ∧ (32 ≤ si → F (si - 32) = true)) ∧ ((32 ≤ si ∧ si ≠ xi → kp = si - 32) ∧ (¬ (32 ≤ si ∧ si ≠ xi) → kp = 6))
/-- how many cases have x at the first item and b at the second -/
noncomputable def NX (f : Nat → Nat → Int32) (F : Nat → Bool) (G : Nat → Nat → Nat) (xi si x b : Nat) : Nat := N6 (fun w => iv w xi = x ∧ iv w si = b) F (EE f) (AA f) G
/-- what find leaves as it is -/
def FF (f f' : Nat → Nat → Int32) : Prop := (∀ c, c < 18 ∨ 23 < c → ∀ j, (c ≠ 13 ∨ j ≠ 15) → f' c j = f c j) ∧ (f' 18 0 = f 18 0 ∧ f' 19 0 = f 19 0) ∧ (∀ j, j < 6 → f' 20 j = f 20 j) ∧ (∀ j, j < 192 → f' 21 j = f 21 j)
theorem FF_EE {f g : Nat → Nat → Int32} (h : FF f g) : EE g = EE f := by
  funext u v
  unfold EE
  rw [h.1 15 (by omega) u (by omega)]
theorem FF_AA {f g : Nat → Nat → Int32} (h : FF f g) : AA g = AA f := by
  funext u v n m
  unfold AA
  rw [h.1 14 (by omega) _ (by omega)]
theorem FF_refl (f : Nat → Nat → Int32) : FF f f := ⟨fun _ _ _ _ => rfl, ⟨rfl, rfl⟩, fun _ _ => rfl, fun _ _ => rfl⟩
theorem FF_LF {f g k : Nat → Nat → Int32} {l : Nat} (h : FF f g) (hl : 1 ≤ l) (h2 : LF g k l) : FF f k := ⟨fun c hc j hj => (h2.1 c (by omega) j).trans (h.1 c hc j hj), ⟨((h2.2.1 0 (by omega)).1).trans h.2.1.1, ((h2.2.1 0 (by omega)).2).trans h.2.1.2⟩, fun j hj => (h2.2.2.1 j (by omega)).trans (h.2.2.1 j hj), fun j hj => (h2.2.2.2 j (by omega)).trans (h.2.2.2 j hj)⟩
theorem FF_13 {f g : Nat → Nat → Int32} (h : FF f g) {j : Nat} (hj : j ≠ 15) : g 13 j = f 13 j := h.1 13 (by omega) j (Or.inr hj)
theorem FF_trans {f g k : Nat → Nat → Int32} (h : FF f g) (h2 : FF g k) : FF f k := ⟨fun c hc j hj => (h2.1 c hc j hj).trans (h.1 c hc j hj), ⟨h2.2.1.1.trans h.2.1.1, h2.2.1.2.trans h.2.1.2⟩, fun j hj => (h2.2.2.1 j hj).trans (h.2.2.1 j hj), fun j hj => (h2.2.2.2 j hj).trans (h.2.2.2 j hj)⟩
theorem KP_c {f g : Nat → Nat → Int32} {kp : Nat} (h : KP f kp) (e : g 13 14 = f 13 14) : KP g kp := by
  unfold KP
  rw [e]
  exact h
theorem N6_cut {c : (Nat → Nat) → Prop} {F : Nat → Bool} {E : Nat → Nat → Bool} {A : Nat → Nat → Nat → Nat → Bool} {G G' : Nat → Nat → Nat} (h : ∀ w, (∀ u, u < 6 → w u < 32) → c w → ∀ v, v < 6 → G v (w v) = G' v (w v)) : N6 c F E A G = N6 c F E A G' := by
  unfold N6
  refine S6_congr (fun w hw => ?_)
  by_cases q : c w
  · rw [vl_bi, vl_bi, pz_congr (h w hw q)]
  · rw [bi_f q, Nat.zero_mul, Nat.zero_mul]
theorem N6_nul {c : (Nat → Nat) → Prop} {F : Nat → Bool} {E : Nat → Nat → Bool} {A : Nat → Nat → Nat → Nat → Bool} {G : Nat → Nat → Nat} (h : ∀ w, (∀ u, u < 6 → w u < 32) → c w → ∃ v, v < 6 ∧ G v (w v) = 0) : N6 c F E A G = 0 := by
  unfold N6
  have : S6 (fun w => bi (c w) * vl F E A G w) = S6 (fun _ => 0) := by
    refine S6_congr (fun w hw => ?_)
    by_cases q : c w
    · obtain ⟨v, hv, hz⟩ := h w hw q
      rw [vl_bi, pz_0 hv hz, Nat.mul_zero, Nat.mul_zero]
    · rw [bi_f q, Nat.zero_mul]
  rw [this]
  exact sv_zero _ _
theorem c_firstN {xi : Nat} {h : vt_H} (Q : vt_Q) (hC : CL h) (h1 : vh_I h 13 11 = 0) (h2 : vh_I h 13 12 = jI xi) (hx : xi < 38) : Wp 52 0 [.ref 13] [] h Q ↔ Q (some (.int (if xi < 32 then j1 (nI xi) else vh_I h 20 (xi - 32)))) h := by
  obtain ⟨ck13, cr0, cr1, cr2, cr3, cr4, cr5, cr6, cr7, cr8, cr9, ck14, ck15, ck16, ck17, ck18, ck19, ck20, ck21, ck22, ck23, cz14, cz15, cz16, cz17, cz18, cz19, cz20, cz21, cz22, cz23⟩ := hC
  simp only [s_52_0, s_52_1, s_52_4, s_52_7, s_52_8, s_52_9, s_52_10, ck13, cr0, cr1, cr2, cr3, cr4, cr5, cr6, cr7, cr8, cr9, ck14, ck15, ck16, ck17, ck18, ck19, ck20, ck21, ck22, ck23, cz14, cz15, cz16, cz17, cz18, cz19, cz20, cz21, cz22, cz23, va_rf_s, pk_mul, nI_add, not_false_eq_true, and_self, true_and, Option.toList_some, Option.toList_none, List.append_nil, List.cons_append, List.nil_append, nI_01, nI_11, vh_K_wI, vh_R_wI, vh_Z_wI, vh_wI_sI, vh_K_sI, vh_R_sI, vh_Z_sI, vh_sI_sI, vh_I_sI, h1, h2, nI_00, if_true, s_52_13]
  by_cases q : xi < 32
  · rw [if_pos ((jI_le xi hx).mpr q), if_pos q]
    simp only [s_52_31, s_52_32, s_52_33, s_52_36, s_52_37, ck13, cr0, cr1, cr2, cr3, cr4, cr5, cr6, cr7, cr8, cr9, ck14, ck15, ck16, ck17, ck18, ck19, ck20, ck21, ck22, ck23, cz14, cz15, cz16, cz17, cz18, cz19, cz20, cz21, cz22, cz23, va_rf_s, pk_mul, nI_add, not_false_eq_true, and_self, true_and, Option.toList_some, Option.toList_none, List.append_nil, List.cons_append, List.nil_append, nI_01, nI_11, vh_K_wI, vh_R_wI, vh_Z_wI, vh_wI_sI, vh_K_sI, vh_R_sI, vh_Z_sI, vh_sI_sI, vh_I_sI, h2, jI_n q]
    exact Iff.rfl
  · rw [if_neg (fun z => q ((jI_le xi hx).mp z)), if_neg q]
    have b1 : xi - 32 < 18 := by omega
    simp only [s_52_16, s_52_17, s_52_20, s_52_21, s_52_24, s_52_27, s_52_28, s_52_37, ck13, cr0, cr1, cr2, cr3, cr4, cr5, cr6, cr7, cr8, cr9, ck14, ck15, ck16, ck17, ck18, ck19, ck20, ck21, ck22, ck23, cz14, cz15, cz16, cz17, cz18, cz19, cz20, cz21, cz22, cz23, va_rf_s, pk_mul, nI_add, not_false_eq_true, and_self, true_and, Option.toList_some, Option.toList_none, List.append_nil, List.cons_append, List.nil_append, nI_01, nI_11, vh_K_wI, vh_R_wI, vh_Z_wI, vh_wI_sI, vh_K_sI, vh_R_sI, vh_Z_sI, vh_sI_sI, vh_I_sI, h2, c_variableOf, jI_var xi hx (by omega), cl (show xi - 32 < 2 ^ 31 by omega), ib b1 (show 18 ≤ 2 ^ 31 by omega)]
theorem c_firstI {h : vt_H} (Q : vt_Q) (hC : CL h) (h1 : ¬ vh_I h 13 11 = 0) : Wp 52 0 [.ref 13] [] h Q ↔ Q (some (.int (nI 0))) h := by
  obtain ⟨ck13, cr0, cr1, cr2, cr3, cr4, cr5, cr6, cr7, cr8, cr9, ck14, ck15, ck16, ck17, ck18, ck19, ck20, ck21, ck22, ck23, cz14, cz15, cz16, cz17, cz18, cz19, cz20, cz21, cz22, cz23⟩ := hC
  simp only [s_52_0, s_52_1, s_52_4, s_52_7, s_52_8, ck13, cr0, cr1, cr2, cr3, cr4, cr5, cr6, cr7, cr8, cr9, ck14, ck15, ck16, ck17, ck18, ck19, ck20, ck21, ck22, ck23, cz14, cz15, cz16, cz17, cz18, cz19, cz20, cz21, cz22, cz23, va_rf_s, pk_mul, nI_add, not_false_eq_true, and_self, true_and, Option.toList_some, Option.toList_none, List.append_nil, List.cons_append, List.nil_append, nI_01, nI_11, vh_K_wI, vh_R_wI, vh_Z_wI, vh_wI_sI, vh_K_sI, vh_R_sI, vh_Z_sI, vh_sI_sI, vh_I_sI, if_neg h1]
/-- the end of begin -/
theorem l_begin {x kp xi si : Nat} {wt : Int32} {h : vt_H} {Q : vt_Q} {F : Nat → Bool} {T : Nat} {G : Nat → Nat → Nat} {N : Nat → Nat} (hC : CL h) (hx : x < 32) (hk : KP (vh_I h) kp) (hL : LV (vh_I h) 1 F T G) (h13 : vh_I h 13 13 = jI si) (hsi : si < 38) (hFk : kp < 6 → F kp = true) (hkn : ¬ kp < 6 → si < 32 ∨ si = xi)
    (hN : ∀ b, b < 32 → N b = T * N6 (cB kp (if si < 32 then si else x) b) F (EE (vh_I h)) (AA (vh_I h)) G) (ht : ∀ b, b < 32 → vh_I h 23 b = nI 0)
    (hQ0 : ∀ f', FF (vh_I h) f' → (∀ b, b < 32 → bt wt b = true → N b = 0) → Q (some (.int (nI 0))) (vh_sI h f'))
    (hQ1 : ∀ f' G', FF (vh_I h) f' → LV f' 1 F T G' → (¬ kp < 6 → f' 13 15 = nI (if si < 32 then si else x)) → (∀ b, b < 32 → f' 23 b = nI 0) → (∀ b, b < 32 → bt wt b = true → N b = T * N6 (cB kp (if si < 32 then si else x) b) F (EE (vh_I h)) (AA (vh_I h)) G') → (∀ b, b < 32 → ¬ bt wt b = true → N6 (cB kp (if si < 32 then si else x) b) F (EE (vh_I h)) (AA (vh_I h)) G' = 0) → Q (some (.int (nI 1))) (vh_sI h f')) :
    Wp 54 51 [.ref 13, .int (nI x), .int wt] [] h Q := by
  have hC' := hC
  obtain ⟨ck13, cr0, cr1, cr2, cr3, cr4, cr5, cr6, cr7, cr8, cr9, ck14, ck15, ck16, ck17, ck18, ck19, ck20, ck21, ck22, ck23, cz14, cz15, cz16, cz17, cz18, cz19, cz20, cz21, cz22, cz23⟩ := hC
  simp only [s_54_51, s_54_52, ck13, cr0, cr1, cr2, cr3, cr4, cr5, cr6, cr7, cr8, cr9, ck14, ck15, ck16, ck17, ck18, ck19, ck20, ck21, ck22, ck23, cz14, cz15, cz16, cz17, cz18, cz19, cz20, cz21, cz22, cz23, va_rf_s, pk_mul, nI_add, not_false_eq_true, and_self, true_and, Option.toList_some, Option.toList_none, List.append_nil, List.cons_append, List.nil_append, nI_01, nI_11, vh_K_wI, vh_R_wI, vh_Z_wI, vh_wI_sI, vh_K_sI, vh_R_sI, vh_Z_sI, vh_sI_sI, vh_I_sI, s_54_55]
  rcases hk with ⟨k1, k2⟩ | ⟨k1, k2⟩
  · rw [k2, if_neg (nI_pos (by omega))]
    have b1 : 6 + kp < 18 := by omega
    have e20 : ∀ z : Int32, up2 (vh_I h) 20 (6 + kp) z 13 14 = nI kp := fun z => by rw [up2_a _ _ _ (by decide), k2]
    simp only [s_54_58, s_54_59, s_54_62, s_54_64, s_54_65, s_54_68, s_54_69, s_54_70, s_54_71, s_54_72, s_54_73, s_54_74, s_54_75, s_54_78, s_54_80, s_54_81, s_54_84, s_54_85, ck13, cr0, cr1, cr2, cr3, cr4, cr5, cr6, cr7, cr8, cr9, ck14, ck15, ck16, ck17, ck18, ck19, ck20, ck21, ck22, ck23, cz14, cz15, cz16, cz17, cz18, cz19, cz20, cz21, cz22, cz23, va_rf_s, pk_mul, nI_add, not_false_eq_true, and_self, true_and, Option.toList_some, Option.toList_none, List.append_nil, List.cons_append, List.nil_append, nI_01, nI_11, vh_K_wI, vh_R_wI, vh_Z_wI, vh_wI_sI, vh_K_sI, vh_R_sI, vh_Z_sI, vh_sI_sI, vh_I_sI, k2, cl (show 6 + kp < 2 ^ 31 by omega), ib b1 (show 18 ≤ 2 ^ 31 by omega), e20, up2_s, s_54_86]
    have ff : FF (vh_I h) (up2 (vh_I h) 20 (6 + kp) (vh_I h 20 (6 + kp) &&& wt)) := ⟨fun c hc j _ => up2_a _ _ _ (by omega) j, ⟨up2_a _ _ _ (by decide) _, up2_a _ _ _ (by decide) _⟩, fun j hj => up2_i _ _ _ _ (by omega), fun j _ => up2_a _ _ _ (by decide) j⟩
    have hr : ∀ m, m < 32 → (bt (vh_I h 20 (6 + kp)) m = true ↔ G kp m ≠ 0) := fun m hm => by
      have := hL.2.2.1 kp m k1 hm (hFk k1)
      rw [show 1 * 6 + kp = 6 + kp by omega] at this
      exact this
    by_cases q : vh_I h 20 (6 + kp) &&& wt = 0
    · rw [if_pos q]
      simp only [s_54_93, s_54_94, va_rf_s, pk_mul, nI_add, not_false_eq_true, and_self, true_and, Option.toList_some, Option.toList_none, List.append_nil, List.cons_append, List.nil_append, nI_01, nI_11, vh_K_wI, vh_R_wI, vh_Z_wI, vh_wI_sI, vh_K_sI, vh_R_sI, vh_Z_sI, vh_sI_sI, vh_I_sI]
      refine hQ0 _ ff (fun b hb hw => ?_)
      have hz : G kp b = 0 := by
        refine Classical.byContradiction (fun z => ?_)
        have : bt (vh_I h 20 (6 + kp) &&& wt) b = true := by rw [b_and, (hr b hb).mpr z, hw]; rfl
        rw [q, b_0] at this
        cases this
      rw [hN b hb, N6_nul, Nat.mul_zero]
      intro w _ hc
      refine ⟨kp, k1, ?_⟩
      rcases hc with hc | hc
      · rw [hc.2]; exact hz
      · exact absurd k1 hc.1
    · rw [if_neg q]
      simp only [s_54_89, s_54_90, s_54_94, va_rf_s, pk_mul, nI_add, not_false_eq_true, and_self, true_and, Option.toList_some, Option.toList_none, List.append_nil, List.cons_append, List.nil_append, nI_01, nI_11, vh_K_wI, vh_R_wI, vh_Z_wI, vh_wI_sI, vh_K_sI, vh_R_sI, vh_Z_sI, vh_sI_sI, vh_I_sI]
      refine hQ1 _ (fun t m => if t = kp then (if bt wt m = true then G kp m else 0) else G t m) ff ?_ (fun z => absurd k1 z) (fun b hb => ?_) (fun b hb hw => ?_) (fun b hb hw => ?_)
      · have := LV_range (u := kp) (x := vh_I h 20 (6 + kp) &&& wt) (G' := fun t m => if t = kp then (if bt wt m = true then G kp m else 0) else G t m) hL k1 (fun _ m hm => ?_) (fun m hm hne => ?_) (fun v n hv hne => if_neg hne) (fun z => by rw [hFk k1] at z; cases z)
        · rw [show 1 * 6 + kp = 6 + kp by omega] at this
          exact this
        · show _ ↔ (if kp = kp then (if bt wt m = true then G kp m else 0) else G kp m) ≠ 0
          rw [if_pos rfl, b_and, Bool.and_eq_true, hr m hm]
          by_cases z : bt wt m = true
          · rw [if_pos z]; exact ⟨fun y => y.1, fun y => ⟨y, z⟩⟩
          · rw [if_neg z]; exact ⟨fun y => absurd y.2 z, fun y => absurd rfl y⟩
        · have hne : (if kp = kp then (if bt wt m = true then G kp m else 0) else G kp m) ≠ 0 := hne
          show (if kp = kp then (if bt wt m = true then G kp m else 0) else G kp m) = G kp m
          rw [if_pos rfl] at hne ⊢
          by_cases z : bt wt m = true
          · rw [if_pos z]
          · rw [if_neg z] at hne; exact absurd rfl hne
      · rw [up2_a _ _ _ (by decide)]; exact ht b hb
      · rw [hN b hb]
        refine congrArg (fun z => T * z) (N6_cut (fun w _ hc v hv => ?_))
        by_cases e : v = kp
        · subst e
          show _ = if v = v then (if bt wt (w v) = true then G v (w v) else 0) else G v (w v)
          rcases hc with hc | hc
          · rw [if_pos rfl, hc.2, if_pos hw]
          · exact absurd k1 hc.1
        · show _ = if v = kp then _ else G v (w v)
          rw [if_neg e]
      · refine N6_nul (fun w _ hc => ⟨kp, k1, ?_⟩)
        show (if kp = kp then (if bt wt (w kp) = true then G kp (w kp) else 0) else G kp (w kp)) = 0
        rcases hc with hc | hc
        · rw [if_pos rfl, hc.2, if_neg hw]
        · exact absurd k1 hc.1
  · have k3 : ¬ kp < 6 := by omega
    rw [k2, if_pos (by decide)]
    have kn32 : (if si < 32 then si else x) < 32 := by split <;> omega
    have fin : Wp 54 114 [.ref 13, .int (nI x), .int wt] [] (vh_sI h (up2 (vh_I h) 13 15 (nI (if si < 32 then si else x)))) Q := by
      have ff : FF (vh_I h) (up2 (vh_I h) 13 15 (nI (if si < 32 then si else x))) := ⟨fun c hc j hj => by unfold up2; rw [if_neg (by omega)], ⟨up2_a _ _ _ (by decide) _, up2_a _ _ _ (by decide) _⟩, fun j hj => up2_a _ _ _ (by decide) j, fun j _ => up2_a _ _ _ (by decide) j⟩
      simp only [s_54_114, s_54_115, s_54_116, s_54_119, s_54_122, ck13, cr0, cr1, cr2, cr3, cr4, cr5, cr6, cr7, cr8, cr9, ck14, ck15, ck16, ck17, ck18, ck19, ck20, ck21, ck22, ck23, cz14, cz15, cz16, cz17, cz18, cz19, cz20, cz21, cz22, cz23, va_rf_s, pk_mul, nI_add, not_false_eq_true, and_self, true_and, Option.toList_some, Option.toList_none, List.append_nil, List.cons_append, List.nil_append, nI_01, nI_11, vh_K_wI, vh_R_wI, vh_Z_wI, vh_wI_sI, vh_K_sI, vh_R_sI, vh_Z_sI, vh_sI_sI, vh_I_sI, up2_s, c_isIn, jbit_bt _ kn32]
      refine ⟨jb_01, ?_⟩
      by_cases q : bt wt (if si < 32 then si else x) = true
      · rw [jb_t q]
        refine hQ1 _ G ff (LV_copy hL ?_ ?_ ?_ (fun v _ => ?_) (fun _ v n _ _ => ?_)) (fun _ => up2_s _ _ _ _) (fun b hb => ?_) (fun b hb _ => hN b hb) (fun b hb hw => N6_nul (fun w _ hc => ?_))
        · rw [up2_i _ _ _ _ (by decide)]
        · rw [up2_a _ _ _ (by decide)]
        · rw [up2_a _ _ _ (by decide)]
        · rw [up2_a _ _ _ (by decide)]
        · rw [up2_a _ _ _ (by decide)]
        · rw [up2_a _ _ _ (by decide)]; exact ht b hb
        · rcases hc with hc | hc
          · exact absurd hc.1 k3
          · rw [hc.2] at hw; exact absurd q hw
      · rw [jb_f q]
        refine hQ0 _ ff (fun b hb hw => ?_)
        rw [hN b hb, N6_nul, Nat.mul_zero]
        intro w _ hc
        rcases hc with hc | hc
        · exact absurd hc.1 k3
        · rw [hc.2] at hw; exact absurd hw q
    simp only [s_54_95, s_54_96, s_54_97, ck13, cr0, cr1, cr2, cr3, cr4, cr5, cr6, cr7, cr8, cr9, ck14, ck15, ck16, ck17, ck18, ck19, ck20, ck21, ck22, ck23, cz14, cz15, cz16, cz17, cz18, cz19, cz20, cz21, cz22, cz23, va_rf_s, pk_mul, nI_add, not_false_eq_true, and_self, true_and, Option.toList_some, Option.toList_none, List.append_nil, List.cons_append, List.nil_append, nI_01, nI_11, vh_K_wI, vh_R_wI, vh_Z_wI, vh_wI_sI, vh_K_sI, vh_R_sI, vh_Z_sI, vh_sI_sI, vh_I_sI, h13, s_54_100]
    by_cases q : si < 32
    · rw [if_neg (fun z => by have := (jI_lt si hsi).mp z; omega)]
      simp only [s_54_103, s_54_104, s_54_107, s_54_110, s_54_111, ck13, cr0, cr1, cr2, cr3, cr4, cr5, cr6, cr7, cr8, cr9, ck14, ck15, ck16, ck17, ck18, ck19, ck20, ck21, ck22, ck23, cz14, cz15, cz16, cz17, cz18, cz19, cz20, cz21, cz22, cz23, va_rf_s, pk_mul, nI_add, not_false_eq_true, and_self, true_and, Option.toList_some, Option.toList_none, List.append_nil, List.cons_append, List.nil_append, nI_01, nI_11, vh_K_wI, vh_R_wI, vh_Z_wI, vh_wI_sI, vh_K_sI, vh_R_sI, vh_Z_sI, vh_sI_sI, vh_I_sI, h13, jI_n q]
      rw [if_pos q] at fin
      exact fin
    · rw [if_pos ((jI_lt si hsi).mpr (by omega))]
      simp only [s_54_110, s_54_111, ck13, cr0, cr1, cr2, cr3, cr4, cr5, cr6, cr7, cr8, cr9, ck14, ck15, ck16, ck17, ck18, ck19, ck20, ck21, ck22, ck23, cz14, cz15, cz16, cz17, cz18, cz19, cz20, cz21, cz22, cz23, va_rf_s, pk_mul, nI_add, not_false_eq_true, and_self, true_and, Option.toList_some, Option.toList_none, List.append_nil, List.cons_append, List.nil_append, nI_01, nI_11, vh_K_wI, vh_R_wI, vh_Z_wI, vh_wI_sI, vh_K_sI, vh_R_sI, vh_Z_sI, vh_sI_sI, vh_I_sI]
      rw [if_neg q] at fin
      exact fin
theorem c_begin {x kp xi si : Nat} {wt : Int32} {h : vt_H} {Q : vt_Q} {F : Nat → Bool} {G : Nat → Nat → Nat} (hC : CL h) (hx : x < 32) (hS : SB (vh_I h) F G kp xi si)
    (hQ0 : ∀ f', FF (vh_I h) f' → (∀ b, b < 32 → bt wt b = true → NX (vh_I h) F G xi si x b = 0) → Q (some (.int (nI 0))) (vh_sI h f'))
    (hQ1 : ∀ f' F1 T1 G1 kn, FF (vh_I h) f' → LV f' 1 F1 T1 G1 → (kp < 6 → F1 kp = true) → (¬ kp < 6 → kn < 32 ∧ f' 13 15 = nI kn) → (∀ b, b < 32 → f' 23 b = nI 0) → (∀ b, b < 32 → bt wt b = true → NX (vh_I h) F G xi si x b = T1 * N6 (cB kp kn b) F1 (EE (vh_I h)) (AA (vh_I h)) G1) → (∀ b, b < 32 → ¬ bt wt b = true → N6 (cB kp kn b) F1 (EE (vh_I h)) (AA (vh_I h)) G1 = 0) → Q (some (.int (nI 1))) (vh_sI h f')) :
    Wp 54 0 [.ref 13, .int (nI x), .int wt] [] h Q := by
  have hC' := hC
  obtain ⟨ck13, cr0, cr1, cr2, cr3, cr4, cr5, cr6, cr7, cr8, cr9, ck14, ck15, ck16, ck17, ck18, ck19, ck20, ck21, ck22, ck23, cz14, cz15, cz16, cz17, cz18, cz19, cz20, cz21, cz22, cz23⟩ := hC
  obtain ⟨⟨hs, hL, hk, -⟩, ⟨h11, h12, h13⟩, ⟨hxi, hsi⟩, ⟨hfx, hfs⟩, hkp1, hkp2⟩ := hS
  have kn32 : (if si < 32 then si else x) < 32 := by split <;> omega
  have hkk : ¬ kp < 6 → si < 32 ∨ si = xi := by
    intro z
    rcases Nat.lt_or_ge si 32 with q | q
    · exact Or.inl q
    · exact Or.inr (Classical.byContradiction (fun y => z (by rw [hkp1 ⟨q, y⟩]; omega)))
  have hk6 : kp < 6 → 32 ≤ si ∧ si ≠ xi ∧ kp = si - 32 := by
    intro z
    refine Classical.byContradiction (fun y => ?_)
    by_cases q : 32 ≤ si ∧ si ≠ xi
    · exact y ⟨q.1, q.2, hkp1 q⟩
    · have := hkp2 q; omega
  simp only [s_54_0, s_54_1, ck13, cr0, cr1, cr2, cr3, cr4, cr5, cr6, cr7, cr8, cr9, ck14, ck15, ck16, ck17, ck18, ck19, ck20, ck21, ck22, ck23, cz14, cz15, cz16, cz17, cz18, cz19, cz20, cz21, cz22, cz23, va_rf_s, pk_mul, nI_add, not_false_eq_true, and_self, true_and, Option.toList_some, Option.toList_none, List.append_nil, List.cons_append, List.nil_append, nI_01, nI_11, vh_K_wI, vh_R_wI, vh_Z_wI, vh_wI_sI, vh_K_sI, vh_R_sI, vh_Z_sI, vh_sI_sI, vh_I_sI, c_firstN _ hC' h11 h12 hxi, s_54_4, s_54_5, c_isIn, jbit_bt _ hx, jb_0, s_54_8]
  by_cases qf : bt (if xi < 32 then j1 (nI xi) else vh_I h 20 (xi - 32)) x = true
  · rw [if_pos (fun z => z qf)]
    simp only [s_54_13, s_54_14, s_54_17, s_54_18, s_54_21, s_54_22, s_54_23, ck13, cr0, cr1, cr2, cr3, cr4, cr5, cr6, cr7, cr8, cr9, ck14, ck15, ck16, ck17, ck18, ck19, ck20, ck21, ck22, ck23, cz14, cz15, cz16, cz17, cz18, cz19, cz20, cz21, cz22, cz23, va_rf_s, pk_mul, nI_add, not_false_eq_true, and_self, true_and, Option.toList_some, Option.toList_none, List.append_nil, List.cons_append, List.nil_append, nI_01, nI_11, vh_K_wI, vh_R_wI, vh_Z_wI, vh_wI_sI, vh_K_sI, vh_R_sI, vh_Z_sI, vh_sI_sI, vh_I_sI, c_fill _ ck23 cz23 (show 32 < 2 ^ 31 by omega)]
    have e23 : ∀ c, c ≠ 23 → ∀ j, fl2 (vh_I h) 23 32 (nI 0) c j = vh_I h c j := fun c hc j => if_neg (fun z => hc z.1)
    have hL1 : LV (fl2 (vh_I h) 23 32 (nI 0)) 0 F 1 G := LV_copy hL (e23 _ (by decide) _) (e23 _ (by decide) _) (e23 _ (by decide) _) (fun v _ => e23 _ (by decide) _) (fun _ v n _ _ => e23 _ (by decide) _)
    refine c_copyLevel (l := 0) hC' (by omega) hL1 (fun f2 hf2 hL2 => ?_)
    have hf2 : LF (fl2 (vh_I h) 23 32 (nI 0)) f2 1 := hf2
    have hL2 : LV f2 1 F 1 G := hL2
    have ff2 : FF (vh_I h) f2 := by
      refine FF_LF ⟨fun c hc j _ => e23 c (by omega) j, ⟨e23 _ (by decide) _, e23 _ (by decide) _⟩, fun j _ => e23 _ (by decide) _, fun j _ => e23 _ (by decide) _⟩ (Nat.le_refl 1) hf2
    have ht2 : ∀ b, b < 32 → f2 23 b = nI 0 := fun b hb => by rw [hf2.1 23 (by omega) b]; exact if_pos ⟨rfl, hb⟩
    have eE : EE f2 = EE (vh_I h) := FF_EE ff2
    have eA : AA f2 = AA (vh_I h) := FF_AA ff2
    simp only [s_54_26, s_54_27, ck13, cr0, cr1, cr2, cr3, cr4, cr5, cr6, cr7, cr8, cr9, ck14, ck15, ck16, ck17, ck18, ck19, ck20, ck21, ck22, ck23, cz14, cz15, cz16, cz17, cz18, cz19, cz20, cz21, cz22, cz23, va_rf_s, pk_mul, nI_add, not_false_eq_true, and_self, true_and, Option.toList_some, Option.toList_none, List.append_nil, List.cons_append, List.nil_append, nI_01, nI_11, vh_K_wI, vh_R_wI, vh_Z_wI, vh_wI_sI, vh_K_sI, vh_R_sI, vh_Z_sI, vh_sI_sI, vh_I_sI, s_54_30]
    rw [FF_13 ff2 (by decide), h12]
    by_cases q : xi < 32
    · rw [if_pos ((jI_le xi hxi).mpr q)]
      rw [if_pos q, bt_j1 q hx] at qf
      have qf : x = xi := by simpa using qf
      have := l_begin (Q := Q) (xi := xi) (h := vh_sI h f2) (x := x) (si := si) (wt := wt) (N := fun b => NX (vh_I h) F G xi si x b) hC' hx (KP_c hk (FF_13 ff2 (by decide))) hL2 ((FF_13 ff2 (by decide)).trans h13) hsi (fun z => by obtain ⟨a, _, c⟩ := hk6 z; rw [c]; exact hfs a) hkk (fun b hb => ?_) ht2 (fun f' z1 z2 => ?_) (fun f' G' z1 z2 z3 z4 z5 z6 => ?_)
      · exact this
      · rw [Nat.one_mul, vh_I_sI, eE, eA]
        refine N6_congr (fun w _ => ?_) (fun _ _ => rfl) (fun _ _ _ _ => rfl)
        unfold iv cB
        rw [if_pos q]
        rcases Nat.lt_or_ge si 32 with q2 | q2
        · rw [if_pos q2, if_pos q2]
          have k3 : ¬ kp < 6 := fun z => by have := (hk6 z).1; omega
          constructor
          · intro z; exact Or.inr ⟨k3, z.2.symm⟩
          · intro z
            rcases z with z | z
            · exact absurd z.1 k3
            · exact ⟨qf.symm, z.2.symm⟩
        · have k4 := hkp1 ⟨q2, by omega⟩
          rw [if_neg (by omega), ← k4]
          constructor
          · intro z; exact Or.inl ⟨by omega, z.2⟩
          · intro z
            rcases z with z | z
            · exact ⟨qf.symm, z.2⟩
            · exact absurd (by omega) z.1
      · rw [vh_sI_sI]
        exact hQ0 f' (FF_trans ff2 z1) z2
      · rw [vh_sI_sI]
        rw [vh_I_sI, eE, eA] at z5 z6
        exact hQ1 f' F 1 G' (if si < 32 then si else x) (FF_trans ff2 z1) z2 (fun z => by obtain ⟨a, _, c⟩ := hk6 z; rw [c]; exact hfs a) (fun z => ⟨kn32, z3 z⟩) z4 z5 z6
    · rw [if_neg (fun z => q ((jI_le xi hxi).mp z))]
      rw [if_neg q] at qf
      have hv : xi - 32 < 6 := by omega
      have hFv := hfx (by omega)
      have hGv : G (xi - 32) x ≠ 0 := (hL.2.2.1 (xi - 32) x hv hx hFv).mp (by rw [show 0 * 6 + (xi - 32) = xi - 32 by omega]; exact qf)
      have e12 : f2 13 12 = jI xi := (FF_13 ff2 (by decide)).trans h12
      simp only [s_54_33, s_54_34, s_54_35, s_54_36, s_54_39, s_54_42, s_54_43, ck13, cr0, cr1, cr2, cr3, cr4, cr5, cr6, cr7, cr8, cr9, ck14, ck15, ck16, ck17, ck18, ck19, ck20, ck21, ck22, ck23, cz14, cz15, cz16, cz17, cz18, cz19, cz20, cz21, cz22, cz23, va_rf_s, pk_mul, nI_add, not_false_eq_true, and_self, true_and, Option.toList_some, Option.toList_none, List.append_nil, List.cons_append, List.nil_append, nI_01, nI_11, vh_K_wI, vh_R_wI, vh_Z_wI, vh_wI_sI, vh_K_sI, vh_R_sI, vh_Z_sI, vh_sI_sI, vh_I_sI, e12, c_variableOf, jI_var xi hxi (by omega)]
      have hC2 : CL (vh_sI h f2) := hC'
      have hvk : xi - 32 ≠ kp := by
        intro z
        have := hk6 (by omega)
        omega
      have base : ∀ b, b < 32 → NX (vh_I h) F G xi si x b = G (xi - 32) x * N6 (cB kp (if si < 32 then si else x) b) (fo F (xi - 32)) (EE (vh_I h)) (AA (vh_I h)) (gX F (EE (vh_I h)) (AA (vh_I h)) G (xi - 32) x) := by
        intro b hb
        rw [← N6_at hs hv hx hFv (cB_ik kp (if si < 32 then si else x) b (xi - 32) hv hvk)]
        refine N6_congr (fun w _ => ?_) (fun _ _ => rfl) (fun _ _ _ _ => rfl)
        unfold iv cB
        rw [if_neg q]
        rcases Nat.lt_or_ge si 32 with q2 | q2
        · rw [if_pos q2, if_pos q2]
          have k3 : ¬ kp < 6 := fun z => by have := (hk6 z).1; omega
          constructor
          · intro z; exact ⟨Or.inr ⟨k3, z.2.symm⟩, z.1⟩
          · rintro ⟨z, y⟩
            rcases z with z | z
            · exact absurd z.1 k3
            · exact ⟨y, z.2.symm⟩
        · rw [if_neg (by omega), if_neg (by omega)]
          by_cases q3 : si = xi
          · have k3 : ¬ kp < 6 := fun z => (hk6 z).2.1 q3
            rw [q3]
            constructor
            · rintro ⟨z1, z2⟩; exact ⟨Or.inr ⟨k3, by omega⟩, z1⟩
            · rintro ⟨z, y⟩
              rcases z with z | z
              · exact absurd z.1 k3
              · exact ⟨y, by omega⟩
          · have k4 := hkp1 ⟨q2, q3⟩
            rw [← k4]
            constructor
            · intro z; exact ⟨Or.inl ⟨by omega, z.2⟩, z.1⟩
            · rintro ⟨z, y⟩
              rcases z with z | z
              · exact ⟨y, z.2⟩
              · exact absurd (by omega) z.1
      refine c_fix hC2 (by omega) hv hx hFv hGv hL2 (fun f3 h1 h2 => ?_) (fun f3 h1 h2 => ?_)
      · simp only [va_rf_s, pk_mul, nI_add, not_false_eq_true, and_self, true_and, Option.toList_some, Option.toList_none, List.append_nil, List.cons_append, List.nil_append, nI_01, nI_11, vh_K_wI, vh_R_wI, vh_Z_wI, vh_wI_sI, vh_K_sI, vh_R_sI, vh_Z_sI, vh_sI_sI, vh_I_sI, s_54_46]
        rw [if_neg (fun z => z nI_00)]
        simp only [s_54_49, s_54_50, va_rf_s, pk_mul, nI_add, not_false_eq_true, and_self, true_and, Option.toList_some, Option.toList_none, List.append_nil, List.cons_append, List.nil_append, nI_01, nI_11, vh_K_wI, vh_R_wI, vh_Z_wI, vh_wI_sI, vh_K_sI, vh_R_sI, vh_Z_sI, vh_sI_sI, vh_I_sI]
        rw [vh_I_sI, eE, eA] at h2
        obtain ⟨u, hu, hz⟩ := h2
        refine hQ0 f3 (FF_LF ff2 (Nat.le_refl 1) h1) (fun b hb _ => ?_)
        rw [base b hb, N6_0 hu hz, Nat.mul_zero]
      · simp only [va_rf_s, pk_mul, nI_add, not_false_eq_true, and_self, true_and, Option.toList_some, Option.toList_none, List.append_nil, List.cons_append, List.nil_append, nI_01, nI_11, vh_K_wI, vh_R_wI, vh_Z_wI, vh_wI_sI, vh_K_sI, vh_R_sI, vh_Z_sI, vh_sI_sI, vh_I_sI, s_54_46]
        rw [if_pos nI_10]
        rw [vh_I_sI, eE, eA] at h2
        have ff3 : FF (vh_I h) f3 := FF_LF ff2 (Nat.le_refl 1) h1
        have hfk : kp < 6 → fo F (xi - 32) kp = true := fun z => by
          obtain ⟨a, _, c⟩ := hk6 z
          exact fo_t.mpr ⟨by rw [c]; exact hfs a, fun y => hvk y.symm⟩
        have := l_begin (Q := Q) (xi := xi) (h := vh_sI h f3) (x := x) (si := si) (wt := wt) (N := fun b => NX (vh_I h) F G xi si x b) hC' hx (KP_c hk (FF_13 ff3 (by decide))) h2 ((FF_13 ff3 (by decide)).trans h13) hsi hfk hkk (fun b hb => ?_) (fun b hb => by rw [vh_I_sI, h1.1 23 (by omega)]; exact ht2 b hb) (fun f' z1 z2 => ?_) (fun f' G' z1 z2 z3 z4 z5 z6 => ?_)
        · exact this
        · rw [Nat.one_mul, vh_I_sI, FF_EE ff3, FF_AA ff3]
          exact base b hb
        · rw [vh_sI_sI]
          exact hQ0 f' (FF_trans ff3 z1) z2
        · rw [vh_sI_sI]
          rw [vh_I_sI, FF_EE ff3, FF_AA ff3] at z5 z6
          exact hQ1 f' _ _ G' (if si < 32 then si else x) (FF_trans ff3 z1) z2 hfk (fun z => ⟨kn32, z3 z⟩) z4 z5 z6
  · rw [if_neg (fun z => z qf)]
    simp only [s_54_11, s_54_12, va_rf_s, pk_mul, nI_add, not_false_eq_true, and_self, true_and, Option.toList_some, Option.toList_none, List.append_nil, List.cons_append, List.nil_append, nI_01, nI_11, vh_K_wI, vh_R_wI, vh_Z_wI, vh_wI_sI, vh_K_sI, vh_R_sI, vh_Z_sI, vh_sI_sI, vh_I_sI]
    have := hQ0 (vh_I h) (FF_refl _) (fun b hb _ => ?_)
    · rw [vh_sI_id] at this
      exact this
    · unfold NX
      refine N6_nul (fun w _ hc => ?_)
      by_cases q : xi < 32
      · rw [if_pos q, bt_j1 q hx] at qf
        have e := hc.1
        unfold iv at e
        rw [if_pos q] at e
        exact absurd (by simp [e]) qf
      · rw [if_neg q] at qf
        have e := hc.1
        unfold iv at e
        rw [if_neg q] at e
        refine ⟨xi - 32, by omega, ?_⟩
        rw [e]
        refine Classical.byContradiction (fun z => qf ?_)
        have := (hL.2.2.1 (xi - 32) x (by omega) hx (hfx (by omega))).mpr z
        rw [show 0 * 6 + (xi - 32) = xi - 32 by omega] at this
        exact this
