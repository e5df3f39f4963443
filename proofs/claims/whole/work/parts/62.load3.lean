-- ===== CASES of the class: load =====
/-- a kind: 0 none, 1 count, 2 sum, 3 least, 4 greatest -/
def kI (k : Nat) : Int32 := if k = 0 then -nI 1 else nI (k - 1)
theorem kI_eq : ∀ a, a < 5 → ∀ b, b < 5 → (kI a = kI b ↔ a = b) := by decide +kernel
/-- the rule r of the class is rho: name 0, items 1 2, kind 3, variable 4, size 5, then does, name, items of each part from 10 on -/
def RV (f : Nat → Nat → Int32) (r d n x y : Nat) (ρ : Nat → Nat) : Prop :=
  (f r 0 = nI (ρ 0) ∧ ρ 0 < 16) ∧ (f r 1 = jI (ρ 1) ∧ ρ 1 < 38) ∧ (f r 2 = jI (ρ 2) ∧ ρ 2 < 38) ∧ (f r 3 = kI (ρ 3) ∧ ρ 3 < 5) ∧ (ρ 3 ≠ 0 → f r 4 = jI (ρ 4) ∧ 32 ≤ ρ 4 ∧ ρ 4 < 38) ∧ (f r 5 = nI (ρ 5) ∧ ρ 5 ≤ 5) ∧ ∀ i, i < ρ 5 → (f d i = nI (ρ (10 + 4 * i)) ∧ ρ (10 + 4 * i) < 5) ∧ (f n i = nI (ρ (11 + 4 * i)) ∧ ρ (11 + 4 * i) < 16) ∧ (f x i = jI (ρ (12 + 4 * i)) ∧ ρ (12 + 4 * i) < 38) ∧ (f y i = jI (ρ (13 + 4 * i)) ∧ ρ (13 + 4 * i) < 38)
/-- the item that is asked for beside the first -/
def sec (ρ : Nat → Nat) : Nat := if ρ 3 = 0 then ρ 2 else ρ 4
/-- what a part says of two numbers -/
def pA (H : Nat → Nat → Nat → Bool) (d n a b : Nat) : Bool := if d = 3 then H n a b else if d = 4 then !H n a b else pF d a b
/-- the variables of the first k parts -/
def oc (ρ : Nat → Nat) : Nat → Nat → Bool
  | 0 => fun _ => false
  | k + 1 => f2i (oc ρ k) (ρ (12 + 4 * k)) (ρ (13 + 4 * k))
/-- the first k parts hold; part i looks at the facts Hs i -/
def ph (Hs : Nat → Nat → Nat → Nat → Bool) (ρ : Nat → Nat) : Nat → (Nat → Nat) → Prop
  | 0 => fun _ => True
  | k + 1 => fun w => ph Hs ρ k w ∧ pA (Hs k) (ρ (10 + 4 * k)) (ρ (11 + 4 * k)) (iv w (ρ (12 + 4 * k))) (iv w (ρ (13 + 4 * k))) = true
/-- what the rule's cells and the facts' cells have to do with those of Cases: nothing -/
def aw (c : Nat) : Prop := c < 13 ∨ 23 < c
theorem LO_aw {f g : Nat → Nat → Int32} (h : LO f g) {c : Nat} (hc : aw c) (j : Nat) : g c j = f c j := by
  refine h.1 c ?_ j
  unfold aw at hc
  omega
theorem l_load {r d n x y fh sh gh fl sl gl : Nat} {lp t : Int32} {h : vt_H} {Q : vt_Q} {ρ : Nat → Nat} {P L : Nat → Nat → Nat → Bool} (hC : CL h) (hR : RL h r d n x y) (hV : RV (vh_I h) r d n x y ρ) (ha : aw r ∧ aw d ∧ aw n ∧ aw x ∧ aw y) (hT : FT h fh sh gh) (hP : FR (vh_I h) sh gh P) (hTl : FT h fl sl gl) (hPl : FR (vh_I h) sl gl L) (hb : aw sh ∧ aw gh ∧ aw sl ∧ aw gl)
    (hQ : ∀ f', LO (vh_I h) f' → LI f' (oc ρ (ρ 5)) (ph (fun i => if nI i = lp then L else P) ρ (ρ 5)) (ρ 5) → Q none (vh_sI h f')) :
    ∀ (k i : Nat), i + k = ρ 5 → ∀ f0, LO (vh_I h) f0 → LI f0 (oc ρ i) (ph (fun i => if nI i = lp then L else P) ρ i) i → Wp 45 124 [.ref 13, .ref r, .ref fh, .ref fl, .int lp, .int t, .int (nI i)] [] (vh_sI h f0) Q := by
  have hC' := hC
  obtain ⟨ck13, cr0, cr1, cr2, cr3, cr4, cr5, cr6, cr7, cr8, cr9, ck14, ck15, ck16, ck17, ck18, ck19, ck20, ck21, ck22, ck23, cz14, cz15, cz16, cz17, cz18, cz19, cz20, cz21, cz22, cz23⟩ := hC
  obtain ⟨h1, h2, h3, h4, h5, ⟨h6, h7⟩, ⟨h8, h9⟩, ⟨h10, h11⟩, ⟨h12, h13⟩⟩ := hR
  obtain ⟨-, -, -, -, -, ⟨hz, hz5⟩, hp⟩ := hV
  obtain ⟨ar, ad, an, ax, ay⟩ := ha
  obtain ⟨bs, bg, bs', bg'⟩ := hb
  intro k
  induction k with
  | zero =>
    intro i hi f0 hf hI
    have : i = ρ 5 := by omega
    subst this
    simp only [s_45_124, s_45_126, s_45_127, va_rf_s, pk_mul, nI_add, not_false_eq_true, and_self, true_and, Option.toList_some, Option.toList_none, List.append_nil, List.cons_append, List.nil_append, nI_01, nI_11, vh_K_wI, vh_R_wI, vh_Z_wI, vh_wI_sI, vh_K_sI, vh_R_sI, vh_Z_sI, vh_sI_sI, vh_I_sI, h1, LO_aw hf ar, hz, s_45_130, if_pos (nI_le (Nat.le_refl (ρ 5)) (show ρ 5 < 2 ^ 31 by omega))]
    simp only [s_45_232]
    exact hQ f0 hf hI
  | succ k ih =>
    intro i hi f0 hf hI
    have hlt : i < ρ 5 := by omega
    have hi5 : i < 5 := by omega
    obtain ⟨⟨d1, d2⟩, ⟨n1, n2⟩, ⟨x1, x2⟩, ⟨y1, y2⟩⟩ := hp i hlt
    simp only [s_45_124, s_45_126, s_45_127, va_rf_s, pk_mul, nI_add, not_false_eq_true, and_self, true_and, Option.toList_some, Option.toList_none, List.append_nil, List.cons_append, List.nil_append, nI_01, nI_11, vh_K_wI, vh_R_wI, vh_Z_wI, vh_wI_sI, vh_K_sI, vh_R_sI, vh_Z_sI, vh_sI_sI, vh_I_sI, h1, LO_aw hf ar, hz, s_45_130, if_neg (nI_ge hlt (show ρ 5 < 2 ^ 31 by omega))]
    have ed : f0 d i = nI (ρ (10 + 4 * i)) := (LO_aw hf ad i).trans d1
    have en : f0 n i = nI (ρ (11 + 4 * i)) := (LO_aw hf an i).trans n1
    have cont : ∀ (A : Nat → Nat → Bool) (f1 : Nat → Nat → Int32), PR f1 A → (∀ c, c ≠ 16 → c ≠ 17 → ∀ j, f1 c j = f0 c j) → (∀ a b, A a b = pA (if nI i = lp then L else P) (ρ (10 + 4 * i)) (ρ (11 + 4 * i)) a b) → Wp 45 208 [.ref 13, .ref r, .ref fh, .ref fl, .int lp, .int t, .int (nI i)] [] (vh_sI h f1) Q := by
      intro A f1 hA hf1 he
      have lo1 : LO (vh_I h) f1 := by
        refine LO_trans hf ⟨fun c hc j => hf1 c (by omega) (by omega) j, fun j _ => hf1 13 (by decide) (by decide) j, fun j => hf1 19 (by decide) (by decide) j, fun j => hf1 21 (by decide) (by decide) j⟩
      have li1 : LI f1 (oc ρ i) (ph (fun i => if nI i = lp then L else P) ρ i) i := by
        obtain ⟨⟨a1, a2⟩, ⟨a3, a4⟩, a5, a6, a7, a8⟩ := hI
        have eE : EE f1 = EE f0 := by funext u v; unfold EE; rw [hf1 15 (by decide) (by decide)]
        have eA : AA f1 = AA f0 := by funext u v a b; unfold AA; rw [hf1 14 (by decide) (by decide)]
        have e18 : f1 18 0 = f0 18 0 := hf1 18 (by decide) (by decide) 0
        have e20 : ∀ v, f1 20 v = f0 20 v := fun v => hf1 20 (by decide) (by decide) v
        have e13 : f1 13 11 = f0 13 11 := hf1 13 (by decide) (by decide) 11
        refine ⟨⟨by rw [eE, eA]; exact a1, by rw [eE]; exact a2⟩, ⟨by rw [e18]; exact a3, by rw [e18]; exact a4⟩, fun v n => by rw [e20]; exact a5 v n, by rw [eE]; exact a6, fun z w hw => ?_, fun z w hw => a8 (by rw [← e13]; exact z) w hw⟩
        rw [a7 (by rw [← e13]; exact z) w hw]
        have r1 : RG f1 w ↔ RG f0 w := by unfold RG; exact ⟨fun q v hv => by rw [← e20]; exact q v hv, fun q v hv => by rw [e20]; exact q v hv⟩
        have r2 : LK f1 w ↔ LK f0 w := by unfold LK; rw [eE, eA]
        rw [r1, r2]
      have ex : f1 x i = jI (ρ (12 + 4 * i)) := (LO_aw lo1 ax i).trans x1
      have ey : f1 y i = jI (ρ (13 + 4 * i)) := (LO_aw lo1 ay i).trans y1
      have hC1 : CL (vh_sI h f1) := hC'
      simp only [s_45_208, s_45_209, s_45_210, s_45_213, s_45_215, s_45_216, s_45_217, s_45_220, s_45_222, s_45_223, ck13, cr0, cr1, cr2, cr3, cr4, cr5, cr6, cr7, cr8, cr9, ck14, ck15, ck16, ck17, ck18, ck19, ck20, ck21, ck22, ck23, cz14, cz15, cz16, cz17, cz18, cz19, cz20, cz21, cz22, cz23, va_rf_s, pk_mul, nI_add, not_false_eq_true, and_self, true_and, Option.toList_some, Option.toList_none, List.append_nil, List.cons_append, List.nil_append, nI_01, nI_11, vh_K_wI, vh_R_wI, vh_Z_wI, vh_wI_sI, vh_K_sI, vh_R_sI, vh_Z_sI, vh_sI_sI, vh_I_sI, h1, h4, h5, h10, h11, h12, h13, cl (show i < 2 ^ 31 by omega), ib hi5 (show 5 ≤ 2 ^ 31 by omega), ex, ey]
      refine c_join (A := A) hC1 hA x2 y2 li1 (fun f2 lo2 li2 => ?_)
      simp only [va_rf_s, pk_mul, nI_add, not_false_eq_true, and_self, true_and, Option.toList_some, Option.toList_none, List.append_nil, List.cons_append, List.nil_append, nI_01, nI_11, vh_K_wI, vh_R_wI, vh_Z_wI, vh_wI_sI, vh_K_sI, vh_R_sI, vh_Z_sI, vh_sI_sI, vh_I_sI]
      simp only [s_45_226, s_45_229, va_rf_s, pk_mul, nI_add, not_false_eq_true, and_self, true_and, Option.toList_some, Option.toList_none, List.append_nil, List.cons_append, List.nil_append, nI_01, nI_11, vh_K_wI, vh_R_wI, vh_Z_wI, vh_wI_sI, vh_K_sI, vh_R_sI, vh_Z_sI, vh_sI_sI, vh_I_sI]
      refine ih (i + 1) (by omega) f2 (LO_trans lo1 lo2) ?_
      have e : (fun w => ph (fun i => if nI i = lp then L else P) ρ i w ∧ A (iv w (ρ (12 + 4 * i))) (iv w (ρ (13 + 4 * i))) = true) = ph (fun i => if nI i = lp then L else P) ρ (i + 1) := by
        funext w
        rw [he]
        rfl
      rw [e] at li2
      exact li2
    simp only [s_45_133, s_45_134, s_45_137, s_45_139, s_45_140, va_rf_s, pk_mul, nI_add, not_false_eq_true, and_self, true_and, Option.toList_some, Option.toList_none, List.append_nil, List.cons_append, List.nil_append, nI_01, nI_11, vh_K_wI, vh_R_wI, vh_Z_wI, vh_wI_sI, vh_K_sI, vh_R_sI, vh_Z_sI, vh_sI_sI, vh_I_sI, h1, h2, h6, h7, cl (show i < 2 ^ 31 by omega), ib hi5 (show 5 ≤ 2 ^ 31 by omega), ed, s_45_141]
    have hC0 : CL (vh_sI h f0) := hC'
    have hT0 : FT (vh_sI h f0) fh sh gh := hT
    have hTl0 : FT (vh_sI h f0) fl sl gl := hTl
    have fr0 : FR (vh_I (vh_sI h f0)) sh gh P := fun a b c ha hb hc => by rw [vh_I_sI, LO_aw hf bs, LO_aw hf bg]; exact hP a b c ha hb hc
    have frl0 : FR (vh_I (vh_sI h f0)) sl gl L := fun a b c ha hb hc => by rw [vh_I_sI, LO_aw hf bs', LO_aw hf bg']; exact hPl a b c ha hb hc
    have gh16 : gh ≠ 16 := by unfold aw at bg; omega
    have gl16 : gl ≠ 16 := by unfold aw at bg'; omega
    have facts : (ρ (10 + 4 * i) = 3 ∨ ρ (10 + 4 * i) = 4) → Wp 45 155 [.ref 13, .ref r, .ref fh, .ref fl, .int lp, .int t, .int (nI i)] [] (vh_sI h f0) Q := by
      intro hd
      have tt : ∀ fa (H : Nat → Nat → Nat → Bool) sa ga, FT (vh_sI h f0) fa sa ga → FR (vh_I (vh_sI h f0)) sa ga H → ga ≠ 16 → (if nI i = lp then L else P) = H → Wp 45 168 [.ref 13, .ref r, .ref fh, .ref fl, .int lp, .int t, .int (nI i)] [.ref fa, .ref 13] (vh_sI h f0) Q := by
        intro fa H sa ga q1 q2 q3 q4
        simp only [s_45_168, s_45_169, s_45_172, s_45_174, s_45_175, s_45_176, s_45_179, s_45_181, s_45_182, ck13, cr0, cr1, cr2, cr3, cr4, cr5, cr6, cr7, cr8, cr9, ck14, ck15, ck16, ck17, ck18, ck19, ck20, ck21, ck22, ck23, cz14, cz15, cz16, cz17, cz18, cz19, cz20, cz21, cz22, cz23, va_rf_s, pk_mul, nI_add, not_false_eq_true, and_self, true_and, Option.toList_some, Option.toList_none, List.append_nil, List.cons_append, List.nil_append, nI_01, nI_11, vh_K_wI, vh_R_wI, vh_Z_wI, vh_wI_sI, vh_K_sI, vh_R_sI, vh_Z_sI, vh_sI_sI, vh_I_sI, h1, h2, h3, h6, h7, h8, h9, cl (show i < 2 ^ 31 by omega), ib hi5 (show 5 ≤ 2 ^ 31 by omega), ed, en, s_45_183]
        rcases hd with hd | hd
        · rw [hd, if_pos (by decide)]
          simp only [s_45_190, s_45_191, ck13, cr0, cr1, cr2, cr3, cr4, cr5, cr6, cr7, cr8, cr9, ck14, ck15, ck16, ck17, ck18, ck19, ck20, ck21, ck22, ck23, cz14, cz15, cz16, cz17, cz18, cz19, cz20, cz21, cz22, cz23, va_rf_s, pk_mul, nI_add, not_false_eq_true, and_self, true_and, Option.toList_some, Option.toList_none, List.append_nil, List.cons_append, List.nil_append, nI_01, nI_11, vh_K_wI, vh_R_wI, vh_Z_wI, vh_wI_sI, vh_K_sI, vh_R_sI, vh_Z_sI, vh_sI_sI, vh_I_sI]
          refine c_readFacts (t := 0) hC0 q1 q2 n2 q3 (Or.inl rfl) (fun f1 z1 z2 => ?_)
          simp only [va_rf_s, pk_mul, nI_add, not_false_eq_true, and_self, true_and, Option.toList_some, Option.toList_none, List.append_nil, List.cons_append, List.nil_append, nI_01, nI_11, vh_K_wI, vh_R_wI, vh_Z_wI, vh_wI_sI, vh_K_sI, vh_R_sI, vh_Z_sI, vh_sI_sI, vh_I_sI]
          simp only [s_45_194]
          refine cont _ f1 z1 z2 (fun a b => ?_)
          rw [hd, q4]
          unfold pA
          rw [if_pos rfl]
          simp
        · rw [hd, if_neg (by simp)]
          simp only [s_45_186, s_45_187, s_45_191, ck13, cr0, cr1, cr2, cr3, cr4, cr5, cr6, cr7, cr8, cr9, ck14, ck15, ck16, ck17, ck18, ck19, ck20, ck21, ck22, ck23, cz14, cz15, cz16, cz17, cz18, cz19, cz20, cz21, cz22, cz23, va_rf_s, pk_mul, nI_add, not_false_eq_true, and_self, true_and, Option.toList_some, Option.toList_none, List.append_nil, List.cons_append, List.nil_append, nI_01, nI_11, vh_K_wI, vh_R_wI, vh_Z_wI, vh_wI_sI, vh_K_sI, vh_R_sI, vh_Z_sI, vh_sI_sI, vh_I_sI]
          refine c_readFacts (t := 1) hC0 q1 q2 n2 q3 (Or.inr rfl) (fun f1 z1 z2 => ?_)
          simp only [va_rf_s, pk_mul, nI_add, not_false_eq_true, and_self, true_and, Option.toList_some, Option.toList_none, List.append_nil, List.cons_append, List.nil_append, nI_01, nI_11, vh_K_wI, vh_R_wI, vh_Z_wI, vh_wI_sI, vh_K_sI, vh_R_sI, vh_Z_sI, vh_sI_sI, vh_I_sI]
          simp only [s_45_194]
          refine cont _ f1 z1 z2 (fun a b => ?_)
          rw [hd, q4]
          unfold pA
          rw [if_neg (by decide), if_pos rfl]
          simp
      simp only [s_45_155, s_45_156, s_45_158, s_45_160, va_rf_s, pk_mul, nI_add, not_false_eq_true, and_self, true_and, Option.toList_some, Option.toList_none, List.append_nil, List.cons_append, List.nil_append, nI_01, nI_11, vh_K_wI, vh_R_wI, vh_Z_wI, vh_wI_sI, vh_K_sI, vh_R_sI, vh_Z_sI, vh_sI_sI, vh_I_sI]
      by_cases q : nI i = lp
      · rw [if_neg (fun z => z q)]
        simp only [s_45_163, s_45_164]
        exact tt fl L sl gl hTl0 frl0 gl16 (if_pos q)
      · rw [if_pos q]
        simp only [s_45_167]
        exact tt fh P sh gh hT0 fr0 gh16 (if_neg q)
    have e34 : ∀ a, a < 5 → ∀ b, b < 5 → (nI a = nI b ↔ a = b) := fun a ha b hb => nI_eq (by omega) (by omega)
    by_cases q3 : ρ (10 + 4 * i) = 3
    · rw [if_pos (by rw [q3])]
      exact facts (Or.inl q3)
    · rw [if_neg (fun z => q3 ((e34 _ d2 3 (by omega)).mp z))]
      simp only [s_45_144, s_45_145, s_45_148, s_45_150, s_45_151, va_rf_s, pk_mul, nI_add, not_false_eq_true, and_self, true_and, Option.toList_some, Option.toList_none, List.append_nil, List.cons_append, List.nil_append, nI_01, nI_11, vh_K_wI, vh_R_wI, vh_Z_wI, vh_wI_sI, vh_K_sI, vh_R_sI, vh_Z_sI, vh_sI_sI, vh_I_sI, h1, h2, h6, h7, cl (show i < 2 ^ 31 by omega), ib hi5 (show 5 ≤ 2 ^ 31 by omega), ed, s_45_152]
      by_cases q4 : ρ (10 + 4 * i) = 4
      · rw [if_neg (fun z => z (by rw [q4]))]
        exact facts (Or.inr q4)
      · rw [if_pos (fun z => q4 ((e34 _ d2 4 (by omega)).mp z))]
        simp only [s_45_197, s_45_198, s_45_199, s_45_202, s_45_204, s_45_205, ck13, cr0, cr1, cr2, cr3, cr4, cr5, cr6, cr7, cr8, cr9, ck14, ck15, ck16, ck17, ck18, ck19, ck20, ck21, ck22, ck23, cz14, cz15, cz16, cz17, cz18, cz19, cz20, cz21, cz22, cz23, va_rf_s, pk_mul, nI_add, not_false_eq_true, and_self, true_and, Option.toList_some, Option.toList_none, List.append_nil, List.cons_append, List.nil_append, nI_01, nI_11, vh_K_wI, vh_R_wI, vh_Z_wI, vh_wI_sI, vh_K_sI, vh_R_sI, vh_Z_sI, vh_sI_sI, vh_I_sI, h1, h2, h6, h7, cl (show i < 2 ^ 31 by omega), ib hi5 (show 5 ≤ 2 ^ 31 by omega), ed]
        refine c_readFilter hC0 (by omega) (fun f1 z1 z2 => ?_)
        simp only [va_rf_s, pk_mul, nI_add, not_false_eq_true, and_self, true_and, Option.toList_some, Option.toList_none, List.append_nil, List.cons_append, List.nil_append, nI_01, nI_11, vh_K_wI, vh_R_wI, vh_Z_wI, vh_wI_sI, vh_K_sI, vh_R_sI, vh_Z_sI, vh_sI_sI, vh_I_sI]
        refine cont _ f1 z1 z2 (fun a b => ?_)
        unfold pA
        rw [if_neg q3, if_neg q4]
theorem l_loadR {r fh fl : Nat} {lp t : Int32} {h : vt_H} {Q : vt_Q} (hC : CL h) (hQ : ∀ y, Wp 45 106 [.ref 13, .ref r, .ref fh, .ref fl, .int lp, .int t, y] [] (vh_sI h (fl2 (vh_I h) 20 6 (-nI 1))) Q) : ∀ (k i : Nat), i + k = 6 → Wp 45 85 [.ref 13, .ref r, .ref fh, .ref fl, .int lp, .int t, .int (nI i)] [] (vh_sI h (fl2 (vh_I h) 20 i (-nI 1))) Q := by
  obtain ⟨ck13, cr0, cr1, cr2, cr3, cr4, cr5, cr6, cr7, cr8, cr9, ck14, ck15, ck16, ck17, ck18, ck19, ck20, ck21, ck22, ck23, cz14, cz15, cz16, cz17, cz18, cz19, cz20, cz21, cz22, cz23⟩ := hC
  intro k
  induction k with
  | zero =>
    intro i hi
    have : i = 6 := by omega
    subst this
    simp only [s_45_85, s_45_87, s_45_89, if_pos (nI_le (Nat.le_refl 6) (show 6 < 2 ^ 31 by omega))]
    exact hQ _
  | succ k ih =>
    intro i hi
    have hlt : i < 6 := by omega
    simp only [s_45_85, s_45_87, s_45_89, if_neg (nI_ge hlt (show 6 < 2 ^ 31 by omega))]
    simp only [s_45_92, s_45_93, s_45_96, s_45_98, s_45_99, s_45_100, s_45_103, ck13, cr0, cr1, cr2, cr3, cr4, cr5, cr6, cr7, cr8, cr9, ck14, ck15, ck16, ck17, ck18, ck19, ck20, ck21, ck22, ck23, cz14, cz15, cz16, cz17, cz18, cz19, cz20, cz21, cz22, cz23, va_rf_s, pk_mul, nI_add, not_false_eq_true, and_self, true_and, Option.toList_some, Option.toList_none, List.append_nil, List.cons_append, List.nil_append, nI_01, nI_11, vh_K_wI, vh_R_wI, vh_Z_wI, vh_wI_sI, vh_K_sI, vh_R_sI, vh_Z_sI, vh_sI_sI, vh_I_sI, cl (show i < 2 ^ 31 by omega), ib (show i < 18 by omega) (show 18 ≤ 2 ^ 31 by omega), fl2_s]
    exact ih (i + 1) (by omega)
/-- what load leaves -/
def LD (f f' : Nat → Nat → Int32) (ρ : Nat → Nat) (Hs : Nat → Nat → Nat → Nat → Bool) (t : Int32) : Prop :=
  (∀ c, aw c → ∀ j, f' c j = f c j) ∧ LI f' (oc ρ (ρ 5)) (ph Hs ρ (ρ 5)) (ρ 5) ∧ (f' 13 10 = t ∧ f' 13 12 = jI (ρ 1) ∧ f' 13 13 = jI (sec ρ) ∧ f' 13 14 = if 32 ≤ sec ρ ∧ sec ρ ≠ ρ 1 then nI (sec ρ - 32) else -nI 1) ∧ f' 19 0 = nI 1 ∧ (¬ t = 0 → ∀ j, j < 192 → f' 21 j = nI 1)
theorem sec_38 {f : Nat → Nat → Int32} {r d n x y : Nat} {ρ : Nat → Nat} (hV : RV f r d n x y ρ) : sec ρ < 38 := by
  unfold sec
  by_cases q : ρ 3 = 0
  · rw [if_pos q]; exact hV.2.2.1.2
  · rw [if_neg q]; exact (hV.2.2.2.2.1 q).2.2
theorem sec_eq {f : Nat → Nat → Int32} {r d n x y : Nat} {ρ : Nat → Nat} (hV : RV f r d n x y ρ) : (if f r 3 = -nI 1 then f r 2 else f r 4) = jI (sec ρ) := by
  obtain ⟨-, -, ⟨h2, -⟩, ⟨h3, h3'⟩, h4, -⟩ := hV
  unfold sec
  have e : f r 3 = -nI 1 ↔ ρ 3 = 0 := by
    rw [h3]
    have := kI_eq (ρ 3) h3' 0 (by omega)
    exact this
  by_cases q : ρ 3 = 0
  · rw [if_pos (e.mpr q), if_pos q, h2]
  · rw [if_neg (fun z => q (e.mp z)), if_neg q, (h4 q).1]
theorem c_fillS {a Z : Nat} {x : Int32} {h : vt_H} {f : Nat → Nat → Int32} (Q : vt_Q) (hK : vh_K h a = 1) (hZ : vh_Z h a = Z) (hz : Z < 2 ^ 31) : Wp 35 0 [.ref a, .int x, vt_un, vt_un] [] (vh_sI h f) Q ↔ Q none (vh_sI h (fl2 f a Z x)) := c_fill (h := vh_sI h f) Q hK hZ hz
theorem RV_c {f f' : Nat → Nat → Int32} {r d n x y : Nat} {ρ : Nat → Nat} (h : RV f r d n x y ρ) (er : ∀ j, f' r j = f r j) (ed : ∀ j, f' d j = f d j) (en : ∀ j, f' n j = f n j) (ex : ∀ j, f' x j = f x j) (ey : ∀ j, f' y j = f y j) : RV f' r d n x y ρ := by
  unfold RV at h ⊢
  simp only [er, ed, en, ex, ey]
  exact h
theorem c_load {r d n x y fh sh gh fl sl gl : Nat} {lp t : Int32} {h : vt_H} {Q : vt_Q} {ρ : Nat → Nat} {P L : Nat → Nat → Nat → Bool} (hC : CL h) (hR : RL h r d n x y) (hV : RV (vh_I h) r d n x y ρ) (ha : aw r ∧ aw d ∧ aw n ∧ aw x ∧ aw y) (hT : FT h fh sh gh) (hP : FR (vh_I h) sh gh P) (hTl : FT h fl sl gl) (hPl : FR (vh_I h) sl gl L) (hb : aw sh ∧ aw gh ∧ aw sl ∧ aw gl) (ht : t = 0 ∨ t = 1)
    (hQ : ∀ f', LD (vh_I h) f' ρ (fun i => if nI i = lp then L else P) t → Q none (vh_sI h f')) : Wp 45 0 [.ref 13, .ref r, .ref fh, .ref fl, .int lp, .int t, vt_un] [] h Q := by
  have hC' := hC
  obtain ⟨ck13, cr0, cr1, cr2, cr3, cr4, cr5, cr6, cr7, cr8, cr9, ck14, ck15, ck16, ck17, ck18, ck19, ck20, ck21, ck22, ck23, cz14, cz15, cz16, cz17, cz18, cz19, cz20, cz21, cz22, cz23⟩ := hC
  have hR' := hR
  have hV' := hV
  obtain ⟨h1, h2, h3, h4, h5, ⟨h6, h7⟩, ⟨h8, h9⟩, ⟨h10, h11⟩, ⟨h12, h13⟩⟩ := hR
  have a13 : r ≠ 13 := by have := ha.1; unfold aw at this; omega
  have s38 := sec_38 hV
  have seq := sec_eq hV
  have x1 := hV.2.1.1
  have x38 := hV.2.1.2
  have main : ∀ f1 : Nat → Nat → Int32, (∀ c, aw c → ∀ j, f1 c j = vh_I h c j) → (f1 13 10 = t ∧ f1 13 11 = 0 ∧ f1 13 12 = jI (ρ 1) ∧ f1 13 13 = jI (sec ρ) ∧ f1 13 14 = if 32 ≤ sec ρ ∧ sec ρ ≠ ρ 1 then nI (sec ρ - 32) else -nI 1) → Wp 45 60 [.ref 13, .ref r, .ref fh, .ref fl, .int lp, .int t, vt_un] [] (vh_sI h f1) Q := by
    intro f1 hf1 h13'
    have hC1 : CL (vh_sI h f1) := hC'
    simp only [s_45_60, s_45_61, s_45_64, s_45_65, s_45_66, s_45_67, s_45_68, s_45_71, s_45_72, s_45_73, s_45_74, s_45_75, s_45_78, s_45_79, s_45_82, s_45_83, ck13, cr0, cr1, cr2, cr3, cr4, cr5, cr6, cr7, cr8, cr9, ck14, ck15, ck16, ck17, ck18, ck19, ck20, ck21, ck22, ck23, cz14, cz15, cz16, cz17, cz18, cz19, cz20, cz21, cz22, cz23, va_rf_s, pk_mul, nI_add, not_false_eq_true, and_self, true_and, Option.toList_some, Option.toList_none, List.append_nil, List.cons_append, List.nil_append, nI_01, nI_11, vh_K_wI, vh_R_wI, vh_Z_wI, vh_wI_sI, vh_K_sI, vh_R_sI, vh_Z_sI, vh_sI_sI, vh_I_sI, cl (show 0 < 2 ^ 31 by omega), ib (show 0 < 3 by omega) (show 3 ≤ 2 ^ 31 by omega), c_fillS _ ck15 cz15 (show 6 < 2 ^ 31 by omega)]
    generalize hf2 : fl2 (up2 (up2 f1 18 0 (nI 0)) 19 0 (nI 1)) 15 6 (nI 0) = f2
    have b1 : ∀ c, c ≠ 15 → c ≠ 18 → c ≠ 19 → ∀ j, f2 c j = f1 c j := fun c q1 q2 q3 j => by
      rw [← hf2]
      unfold fl2
      rw [if_neg (fun z => q1 z.1), up2_a _ _ _ q3, up2_a _ _ _ q2]
    have b15 : ∀ j, j < 6 → f2 15 j = nI 0 := fun j hj => by rw [← hf2]; unfold fl2; rw [if_pos ⟨rfl, hj⟩]
    have b18 : f2 18 0 = nI 0 := by rw [← hf2]; unfold fl2; rw [if_neg (by omega), up2_a _ _ _ (by decide), up2_s]
    have b19 : f2 19 0 = nI 1 := by rw [← hf2]; unfold fl2; rw [if_neg (by omega), up2_s]
    have hC2 : CL (vh_sI h f2) := hC'
    have l := l_loadR (h := vh_sI h f2) (Q := Q) (r := r) (fh := fh) (fl := fl) (lp := lp) (t := t) hC2 (fun y => ?_) 6 0 (by omega)
    · rw [vh_I_sI, fl2_0, vh_sI_sI] at l
      exact l
    · rw [vh_I_sI, vh_sI_sI]
      generalize hf3 : fl2 f2 20 6 (-nI 1) = f3
      have c1 : ∀ c, c ≠ 20 → ∀ j, f3 c j = f2 c j := fun c q j => by rw [← hf3]; unfold fl2; rw [if_neg (fun z => q z.1)]
      have c20 : ∀ j, j < 6 → f3 20 j = -nI 1 := fun j hj => by rw [← hf3]; unfold fl2; rw [if_pos ⟨rfl, hj⟩]
      have fin : ∀ f4 : Nat → Nat → Int32, (∀ c, c ≠ 21 → ∀ j, f4 c j = f3 c j) → (¬ t = 0 → ∀ j, j < 576 → f4 21 j = nI 1) → ∀ y, Wp 45 121 [.ref 13, .ref r, .ref fh, .ref fl, .int lp, .int t, y] [] (vh_sI h f4) Q := by
        intro f4 q1 q2 y
        have hC4 : CL (vh_sI h f4) := hC'
        have aw4 : ∀ c, aw c → ∀ j, f4 c j = vh_I h c j := fun c hc j => by
          have hc' := hc
          unfold aw at hc'
          rw [q1 c (by omega), c1 c (by omega), b1 c (by omega) (by omega) (by omega), hf1 c hc]
        have e13 : ∀ j, f4 13 j = f1 13 j := fun j => by rw [q1 13 (by decide), c1 13 (by decide), b1 13 (by decide) (by decide) (by decide)]
        have e15 : ∀ u v, u < 6 → EE f4 u v = false := fun u v hu => by
          unfold EE
          rw [q1 15 (by decide), c1 15 (by decide), b15 u hu]
          exact b_0 v
        have li0 : LI f4 (oc ρ 0) (ph (fun i => if nI i = lp then L else P) ρ 0) 0 := by
          refine ⟨⟨fun u v hu _ hE => ?_, fun u v hu _ hE => ?_⟩, ⟨fun v hv => ?_, fun v _ hv => ?_⟩, fun v n hv hn _ => ?_, ⟨[], Nat.le_refl _, fun u v hu _ hE => ?_⟩, fun _ w hw => ⟨fun _ => ⟨fun v hv => ?_, fun u v hu _ hE => ?_⟩, fun _ => trivial⟩, fun z => ?_⟩
          · rw [e15 u v hu] at hE; cases hE
          · rw [e15 u v hu] at hE; cases hE
          · rw [q1 18 (by decide), c1 18 (by decide), b18]; exact b_0 v
          · rw [q1 18 (by decide), c1 18 (by decide), b18]; exact b_0 v
          · rw [q1 20 (by decide), c20 v hv]; exact bt_neg1 n hn
          · rw [e15 u v hu] at hE; cases hE
          · rw [q1 20 (by decide), c20 v hv]; exact bt_neg1 _ (hw v hv)
          · rw [e15 u v hu] at hE; cases hE
          · exact absurd ((e13 11).trans h13'.2.1) z
        have hV4 := RV_c hV' (fun j => aw4 r ha.1 j) (fun j => aw4 d ha.2.1 j) (fun j => aw4 n ha.2.2.1 j) (fun j => aw4 _ ha.2.2.2.1 j) (fun j => aw4 _ ha.2.2.2.2 j)
        simp only [s_45_121, s_45_122]
        have l2 := l_load (h := vh_sI h f4) (Q := Q) (lp := lp) (t := t) hC4 hR' hV4 ha hT (P := P) (L := L) (fun a b c ha' hb' hc' => by rw [vh_I_sI, aw4 sh hb.1, aw4 gh hb.2.1]; exact hP a b c ha' hb' hc') hTl (fun a b c ha' hb' hc' => by rw [vh_I_sI, aw4 sl hb.2.2.1, aw4 gl hb.2.2.2]; exact hPl a b c ha' hb' hc') hb (fun f' z1 z2 => ?_) (ρ 5) 0 (by omega) f4 (LO_refl _) li0
        · exact l2
        · rw [vh_sI_sI]
          refine hQ f' ⟨fun c hc j => by rw [LO_aw z1 hc]; exact aw4 c hc j, z2, ⟨?_, ?_, ?_, ?_⟩, ?_, fun hne j hj => ?_⟩
          · rw [z1.2.1 10 (by decide), vh_I_sI, e13]; exact h13'.1
          · rw [z1.2.1 12 (by decide), vh_I_sI, e13]; exact h13'.2.2.1
          · rw [z1.2.1 13 (by decide), vh_I_sI, e13]; exact h13'.2.2.2.1
          · rw [z1.2.1 14 (by decide), vh_I_sI, e13]; exact h13'.2.2.2.2
          · rw [z1.2.2.1, vh_I_sI, q1 19 (by decide), c1 19 (by decide), b19]
          · rw [z1.2.2.2, vh_I_sI]; exact q2 hne j (by omega)
      have e10 : f3 13 10 = t := by rw [c1 13 (by decide), b1 13 (by decide) (by decide) (by decide)]; exact h13'.1
      simp only [s_45_106, s_45_107, ck13, cr0, cr1, cr2, cr3, cr4, cr5, cr6, cr7, cr8, cr9, ck14, ck15, ck16, ck17, ck18, ck19, ck20, ck21, ck22, ck23, cz14, cz15, cz16, cz17, cz18, cz19, cz20, cz21, cz22, cz23, va_rf_s, pk_mul, nI_add, not_false_eq_true, and_self, true_and, Option.toList_some, Option.toList_none, List.append_nil, List.cons_append, List.nil_append, nI_01, nI_11, vh_K_wI, vh_R_wI, vh_Z_wI, vh_wI_sI, vh_K_sI, vh_R_sI, vh_Z_sI, vh_sI_sI, vh_I_sI, e10, s_45_110]
      by_cases q : t = 0
      · rw [if_pos q]
        exact fin f3 (fun _ _ _ => rfl) (fun z => absurd q z) _
      · rw [if_neg q]
        simp only [s_45_113, s_45_114, s_45_117, s_45_118, ck13, cr0, cr1, cr2, cr3, cr4, cr5, cr6, cr7, cr8, cr9, ck14, ck15, ck16, ck17, ck18, ck19, ck20, ck21, ck22, ck23, cz14, cz15, cz16, cz17, cz18, cz19, cz20, cz21, cz22, cz23, va_rf_s, pk_mul, nI_add, not_false_eq_true, and_self, true_and, Option.toList_some, Option.toList_none, List.append_nil, List.cons_append, List.nil_append, nI_01, nI_11, vh_K_wI, vh_R_wI, vh_Z_wI, vh_wI_sI, vh_K_sI, vh_R_sI, vh_Z_sI, vh_sI_sI, vh_I_sI, c_fillS _ ck21 cz21 (show 576 < 2 ^ 31 by omega)]
        refine fin _ (fun c hc j => ?_) (fun _ j hj => ?_) _
        · unfold fl2; rw [if_neg (fun z => hc z.1)]
        · unfold fl2; rw [if_pos ⟨rfl, hj⟩]
  have seq' : ∀ f1 : Nat → Nat → Int32, (∀ j, f1 r j = vh_I h r j) → (if f1 r 3 = -nI 1 then f1 r 2 else f1 r 4) = jI (sec ρ) := fun f1 e => by rw [e, e, e]; exact seq
  have er : ∀ a b, (∀ j, up2 (up2 (vh_I h) 13 10 a) 13 11 b r j = vh_I h r j) := fun a b j => by rw [up2_a _ _ _ a13, up2_a _ _ _ a13]
  have ht' : (t = 0 ∨ t = 1) = True := eq_true ht
  simp only [s_45_0, s_45_1, s_45_3, s_45_6, s_45_7, s_45_8, s_45_11, s_45_12, s_45_13, s_45_16, ck13, cr0, cr1, cr2, cr3, cr4, cr5, cr6, cr7, cr8, cr9, ck14, ck15, ck16, ck17, ck18, ck19, ck20, ck21, ck22, ck23, cz14, cz15, cz16, cz17, cz18, cz19, cz20, cz21, cz22, cz23, va_rf_s, pk_mul, nI_add, not_false_eq_true, and_self, true_and, Option.toList_some, Option.toList_none, List.append_nil, List.cons_append, List.nil_append, nI_01, nI_11, vh_K_wI, vh_R_wI, vh_Z_wI, vh_wI_sI, vh_K_sI, vh_R_sI, vh_Z_sI, vh_sI_sI, vh_I_sI, h1, er, x1, ht', and_true]
  generalize hf1 : up2 (up2 (up2 (vh_I h) 13 10 t) 13 11 (nI 0)) 13 12 (jI (ρ 1)) = f1
  have d1 : ∀ c, c ≠ 13 → ∀ j, f1 c j = vh_I h c j := fun c hc j => by rw [← hf1, up2_a _ _ _ hc, up2_a _ _ _ hc, up2_a _ _ _ hc]
  have d10 : f1 13 10 = t := by rw [← hf1, up2_i _ _ _ _ (by decide), up2_i _ _ _ _ (by decide), up2_s]
  have d11 : f1 13 11 = 0 := by rw [← hf1, up2_i _ _ _ _ (by decide), up2_s]; rfl
  have d12 : f1 13 12 = jI (ρ 1) := by rw [← hf1, up2_s]
  have hR1 : RL (vh_sI h f1) r d n x y := hR'
  have c2 : ∀ Q : vt_Q, Wp 27 0 [.ref r] [] (vh_sI h f1) Q ↔ Q (some (.int (jI (sec ρ)))) (vh_sI h f1) := fun Q => by
    rw [c_secondItem Q hR1, show (if vh_I (vh_sI h f1) r 3 = -nI 1 then vh_I (vh_sI h f1) r 2 else vh_I (vh_sI h f1) r 4) = jI (sec ρ) from seq' f1 (d1 r a13)]
  simp only [s_45_19, s_45_20, s_45_21, s_45_24, s_45_27, s_45_28, s_45_29, ck13, cr0, cr1, cr2, cr3, cr4, cr5, cr6, cr7, cr8, cr9, ck14, ck15, ck16, ck17, ck18, ck19, ck20, ck21, ck22, ck23, cz14, cz15, cz16, cz17, cz18, cz19, cz20, cz21, cz22, cz23, va_rf_s, pk_mul, nI_add, not_false_eq_true, and_self, true_and, Option.toList_some, Option.toList_none, List.append_nil, List.cons_append, List.nil_append, nI_01, nI_11, vh_K_wI, vh_R_wI, vh_Z_wI, vh_wI_sI, vh_K_sI, vh_R_sI, vh_Z_sI, vh_sI_sI, vh_I_sI, h1, c2, up2_s, s_45_32]
  generalize hf2 : up2 f1 13 13 (jI (sec ρ)) = f2
  have g1 : ∀ c, c ≠ 13 → ∀ j, f2 c j = vh_I h c j := fun c hc j => by rw [← hf2, up2_a _ _ _ hc]; exact d1 c hc j
  have g10 : f2 13 10 = t := by rw [← hf2, up2_i _ _ _ _ (by decide)]; exact d10
  have g11 : f2 13 11 = 0 := by rw [← hf2, up2_i _ _ _ _ (by decide)]; exact d11
  have g12 : f2 13 12 = jI (ρ 1) := by rw [← hf2, up2_i _ _ _ _ (by decide)]; exact d12
  have g13 : f2 13 13 = jI (sec ρ) := by rw [← hf2, up2_s]
  have last : ∀ z : Int32, (z = if 32 ≤ sec ρ ∧ sec ρ ≠ ρ 1 then nI (sec ρ - 32) else -nI 1) → Wp 45 57 [.ref 13, .ref r, .ref fh, .ref fl, .int lp, .int t, vt_un] [.int z, .ref 13] (vh_sI h f2) Q := by
    intro z hz
    simp only [s_45_57, ck13, cr0, cr1, cr2, cr3, cr4, cr5, cr6, cr7, cr8, cr9, ck14, ck15, ck16, ck17, ck18, ck19, ck20, ck21, ck22, ck23, cz14, cz15, cz16, cz17, cz18, cz19, cz20, cz21, cz22, cz23, va_rf_s, pk_mul, nI_add, not_false_eq_true, and_self, true_and, Option.toList_some, Option.toList_none, List.append_nil, List.cons_append, List.nil_append, nI_01, nI_11, vh_K_wI, vh_R_wI, vh_Z_wI, vh_wI_sI, vh_K_sI, vh_R_sI, vh_Z_sI, vh_sI_sI, vh_I_sI]
    refine main _ (fun c hc j => ?_) ⟨?_, ?_, ?_, ?_, ?_⟩
    · have c13 : c ≠ 13 := by unfold aw at hc; omega
      rw [up2_a _ _ _ c13]; exact g1 c c13 j
    · rw [up2_i _ _ _ _ (by decide)]; exact g10
    · rw [up2_i _ _ _ _ (by decide)]; exact g11
    · rw [up2_i _ _ _ _ (by decide)]; exact g12
    · rw [up2_i _ _ _ _ (by decide)]; exact g13
    · rw [up2_s]; exact hz
  by_cases q : sec ρ < 32
  · rw [if_pos ((jI_le _ s38).mpr q)]
    simp only [s_45_56]
    exact last _ (by rw [if_neg (by omega)])
  · rw [if_neg (fun z => q ((jI_le _ s38).mp z))]
    simp only [s_45_35, s_45_36, s_45_39, s_45_40, ck13, cr0, cr1, cr2, cr3, cr4, cr5, cr6, cr7, cr8, cr9, ck14, ck15, ck16, ck17, ck18, ck19, ck20, ck21, ck22, ck23, cz14, cz15, cz16, cz17, cz18, cz19, cz20, cz21, cz22, cz23, va_rf_s, pk_mul, nI_add, not_false_eq_true, and_self, true_and, Option.toList_some, Option.toList_none, List.append_nil, List.cons_append, List.nil_append, nI_01, nI_11, vh_K_wI, vh_R_wI, vh_Z_wI, vh_wI_sI, vh_K_sI, vh_R_sI, vh_Z_sI, vh_sI_sI, vh_I_sI, g12, g13, s_45_43]
    by_cases q2 : sec ρ = ρ 1
    · rw [if_pos ((jI_inj _ s38 _ x38).mpr q2)]
      simp only [s_45_56]
      exact last _ (by rw [if_neg (fun z => z.2 q2)])
    · rw [if_neg (fun z => q2 ((jI_inj _ s38 _ x38).mp z))]
      simp only [s_45_46, s_45_47, s_45_50, s_45_53, ck13, cr0, cr1, cr2, cr3, cr4, cr5, cr6, cr7, cr8, cr9, ck14, ck15, ck16, ck17, ck18, ck19, ck20, ck21, ck22, ck23, cz14, cz15, cz16, cz17, cz18, cz19, cz20, cz21, cz22, cz23, va_rf_s, pk_mul, nI_add, not_false_eq_true, and_self, true_and, Option.toList_some, Option.toList_none, List.append_nil, List.cons_append, List.nil_append, nI_01, nI_11, vh_K_wI, vh_R_wI, vh_Z_wI, vh_wI_sI, vh_K_sI, vh_R_sI, vh_Z_sI, vh_sI_sI, vh_I_sI, g13, c_variableOf, jI_var _ s38 (by omega)]
      exact last _ (by rw [if_pos ⟨by omega, q2⟩])
