-- ===== how many cases a rule has =====
noncomputable def CT (Hs : Nat → Nat → Nat → Nat → Bool) (ρ : Nat → Nat) (x b : Nat) : Nat := S6 (fun w => bi ((ph Hs ρ (ρ 5) w ∧ ∀ v, v < 6 → oc ρ (ρ 5) v = false → w v = 0) ∧ (iv w (ρ 1) = x ∧ iv w (sec ρ) = b)))
/-- the weights that load leaves -/
def gL (f : Nat → Nat → Int32) (F : Nat → Bool) : Nat → Nat → Nat := fun v n => if F v = true then (if bt (f 20 v) n = true then 1 else 0) else g0 n
theorem pz_bi {G : Nat → Nat → Nat} {w : Nat → Nat} {p : Nat → Prop} : ∀ {k : Nat}, (∀ v, v < k → G v (w v) = bi (p v)) → pz G w k = bi (∀ v, v < k → p v)
  | 0, _ => by rw [bi_t (fun v hv => absurd hv (by omega))]; rfl
  | k + 1, h => by
    show pz G w k * G k (w k) = _
    rw [pz_bi (k := k) (fun v hv => h v (by omega)), h k (by omega), ← bi_and]
    refine bi_c ⟨fun z v hv => ?_, fun z => ⟨fun v hv => z v (by omega), z k (by omega)⟩⟩
    rcases Nat.lt_or_ge v k with q | q
    · exact z.1 v q
    · rw [show v = k by omega]; exact z.2
theorem NX_CT {f : Nat → Nat → Int32} {F : Nat → Bool} {φ : (Nat → Nat) → Prop} {i xi si x b : Nat} (hI : LI f F φ i) (h0 : f 13 11 = 0) : NX f F (gL f F) xi si x b = S6 (fun w => bi ((φ w ∧ ∀ v, v < 6 → F v = false → w v = 0) ∧ (iv w xi = x ∧ iv w si = b))) := by
  obtain ⟨⟨a1, a2⟩, ⟨a3, a4⟩, a5, a6, a7, a8⟩ := hI
  unfold NX N6
  refine S6_congr (fun w hw => ?_)
  rw [vl_bi, pz_bi (p := fun v => (F v = true → bt (f 20 v) (w v) = true) ∧ (F v = false → w v = 0)) (fun v hv => ?_), ← bi_and, ← bi_and]
  · refine bi_c ⟨fun z => ⟨⟨(a7 h0 w hw).mpr ⟨fun v hv => ?_, fun u v hu hv hE => ?_⟩, fun v hv hF => (z.2.2 v hv).2 hF⟩, z.1⟩, fun z => ⟨z.2, fun u v hu hv _ _ hE => ?_, fun v hv => ⟨fun _ => ?_, fun hF => z.1.2 v hv hF⟩⟩⟩
    · cases hF : F v with
      | true => exact (z.2.2 v hv).1 hF
      | false => exact a5 v _ hv (hw v hv) hF
    · have := a2 u v hu hv hE
      exact z.2.1 u v hu hv this.1 this.2 hE
    · exact ((a7 h0 w hw).mp z.1.1).2 u v hu hv hE
    · exact ((a7 h0 w hw).mp z.1.1).1 v hv
  · unfold gL
    cases hF : F v with
    | true =>
      rw [if_pos rfl]
      by_cases q : bt (f 20 v) (w v) = true
      · rw [if_pos q, bi_t ⟨fun _ => q, fun z => by cases z⟩]
      · rw [if_neg q, bi_f (fun z => q (z.1 rfl))]
    | false =>
      rw [if_neg (by decide)]
      unfold g0
      by_cases q : w v = 0
      · rw [if_pos q, bi_t ⟨fun z => (by cases z), fun _ => q⟩]
      · rw [if_neg q, bi_f (fun z => q (z.2 rfl))]
theorem CT_imp {f : Nat → Nat → Int32} {Hs : Nat → Nat → Nat → Nat → Bool} {ρ : Nat → Nat} (hI : LI f (oc ρ (ρ 5)) (ph Hs ρ (ρ 5)) (ρ 5)) (h0 : ¬ f 13 11 = 0) (x b : Nat) : CT Hs ρ x b = 0 := by
  have e : CT Hs ρ x b = S6 (fun _ => 0) := S6_congr (fun w hw => bi_f (fun z => hI.2.2.2.2.2 h0 w hw z.1.1))
  rw [e]
  exact sv_zero _ _
theorem LD_FF {f f1 f2 : Nat → Nat → Int32} {ρ : Nat → Nat} {Hs : Nat → Nat → Nat → Nat → Bool} {t : Int32} (h : LD f f1 ρ Hs t) (hf : FF f1 f2) : LD f f2 ρ Hs t := by
  obtain ⟨h1, ⟨⟨a1, a2⟩, ⟨a3, a4⟩, a5, a6, a7, a8⟩, ⟨c1, c2, c3, c4⟩, h5, h6⟩ := h
  have eE := FF_EE hf
  have eA := FF_AA hf
  have e18 : f2 18 0 = f1 18 0 := hf.2.1.1
  have e20 : ∀ v, v < 6 → f2 20 v = f1 20 v := hf.2.2.1
  have e13 : f2 13 11 = f1 13 11 := FF_13 hf (by decide)
  refine ⟨fun c hc j => ?_, ⟨⟨by rw [eE, eA]; exact a1, by rw [eE]; exact a2⟩, ⟨by rw [e18]; exact a3, by rw [e18]; exact a4⟩, fun v n hv => by rw [e20 v hv]; exact a5 v n hv, by rw [eE]; exact a6, fun z w hw => ?_, fun z w hw => a8 (by rw [← e13]; exact z) w hw⟩, ⟨?_, ?_, ?_, ?_⟩, ?_, fun z j hj => ?_⟩
  · have hc' := hc
    unfold aw at hc'
    rw [hf.1 c (by omega) j (by omega)]
    exact h1 c hc j
  · rw [a7 (by rw [← e13]; exact z) w hw]
    have r1 : RG f2 w ↔ RG f1 w := by unfold RG; exact ⟨fun q v hv => by rw [← e20 v hv]; exact q v hv, fun q v hv => by rw [e20 v hv]; exact q v hv⟩
    have r2 : LK f2 w ↔ LK f1 w := by unfold LK; rw [eE, eA]
    rw [r1, r2]
  · rw [FF_13 hf (by decide)]; exact c1
  · rw [FF_13 hf (by decide)]; exact c2
  · rw [FF_13 hf (by decide)]; exact c3
  · rw [FF_13 hf (by decide)]; exact c4
  · rw [hf.2.1.2]; exact h5
  · rw [hf.2.2.2 j hj]; exact h6 z j hj
/-- each variable of the head is one of a part -/
def hs2 (ρ : Nat → Nat) : Prop := (32 ≤ ρ 1 → oc ρ (ρ 5) (ρ 1 - 32) = true) ∧ (32 ≤ sec ρ → oc ρ (ρ 5) (sec ρ - 32) = true)
theorem LD_SB {f f1 : Nat → Nat → Int32} {ρ : Nat → Nat} {Hs : Nat → Nat → Nat → Nat → Bool} {t : Int32} (h : LD f f1 ρ Hs t) (h0 : f1 13 11 = 0) (hx : ρ 1 < 38) (hs : sec ρ < 38) (h5 : ρ 5 ≤ 5) (h2 : hs2 ρ) : SB f1 (oc ρ (ρ 5)) (gL f1 (oc ρ (ρ 5))) (if 32 ≤ sec ρ ∧ sec ρ ≠ ρ 1 then sec ρ - 32 else 6) (ρ 1) (sec ρ) := by
  obtain ⟨h1, ⟨⟨a1, a2⟩, ⟨a3, a4⟩, a5, ⟨es, e1, e2⟩, a7, a8⟩, ⟨c1, c2, c3, c4⟩, h5', h6⟩ := h
  refine ⟨⟨a1, ⟨a3, a4, fun v n hv hn hF => ?_, fun hc => ⟨h5', fun v n hv hn hF hG => ?_⟩, fun v n hv hF => ?_, by omega⟩, ?_, es, by omega, e2⟩, ⟨h0, c2, c3⟩, ⟨hx, hs⟩, h2, fun z => if_pos z, fun z => if_neg z⟩
  · unfold gL
    rw [if_pos hF, show 0 * 6 + v = v by omega]
    by_cases q : bt (f1 20 v) n = true
    · rw [if_pos q]; exact ⟨fun _ => by omega, fun _ => q⟩
    · rw [if_neg q]; exact ⟨fun z => absurd z q, fun z => absurd rfl z⟩
  · unfold gL at hG ⊢
    rw [if_pos hF] at hG ⊢
    by_cases q : bt (f1 20 v) n = true
    · rw [if_pos q, h6 (by rw [← c1]; exact hc) _ (by omega)]
    · rw [if_neg q] at hG; exact absurd rfl hG
  · unfold gL
    rw [if_neg (by rw [hF]; decide)]
  · unfold KP
    rw [c4]
    by_cases q : 32 ≤ sec ρ ∧ sec ρ ≠ ρ 1
    · rw [if_pos q, if_pos q]; exact Or.inl ⟨by omega, rfl⟩
    · rw [if_neg q, if_neg q]; exact Or.inr ⟨rfl, rfl⟩
/-- find after load -/
theorem c_findL {x : Nat} {wt t : Int32} {h : vt_H} {Q : vt_Q} {f : Nat → Nat → Int32} {ρ : Nat → Nat} {Hs : Nat → Nat → Nat → Nat → Bool} (hC : CL h) (hx : x < 32) (hD : LD f (vh_I h) ρ Hs t) (hx1 : ρ 1 < 38) (hs : sec ρ < 38) (h5 : ρ 5 ≤ 5) (h2 : hs2 ρ)
    (hQ : ∀ f' fd, LD f f' ρ Hs t → (∀ b, b < 32 → (bt fd b = true ↔ bt wt b = true ∧ CT Hs ρ x b ≠ 0)) → (¬ t = 0 → ¬ fd = 0 → ∀ b, b < 32 → bt wt b = true → f' 23 b = nI (CT Hs ρ x b)) → Q (some (.int fd)) (vh_sI h f')) :
    Wp 53 0 [.ref 13, .int (nI x), .int wt, vt_un, vt_un, vt_un, vt_un, vt_un] [] h Q := by
  by_cases h0 : vh_I h 13 11 = 0
  · have sb := LD_SB hD h0 hx1 hs h5 h2
    have e : ∀ b, NX (vh_I h) (oc ρ (ρ 5)) (gL (vh_I h) (oc ρ (ρ 5))) (ρ 1) (sec ρ) x b = CT Hs ρ x b := fun b => NX_CT hD.2.1 h0
    refine c_find hC hx sb (fun f' fd q1 q2 q3 => hQ f' fd (LD_FF hD q1) (fun b hb => ?_) (fun z y b hb hw => ?_))
    · rw [q2 b hb, e]
    · rw [q3 (by rw [hD.2.2.1.1]; exact z) y b hb hw, e]
  · have hC' := hC
    obtain ⟨ck13, cr0, cr1, cr2, cr3, cr4, cr5, cr6, cr7, cr8, cr9, ck14, ck15, ck16, ck17, ck18, ck19, ck20, ck21, ck22, ck23, cz14, cz15, cz16, cz17, cz18, cz19, cz20, cz21, cz22, cz23⟩ := hC
    have z0 := hQ (vh_I h) (nI 0) hD (fun b hb => by
      have n0 : bt (nI 0) b = false := b_0 b
      rw [n0, CT_imp hD.2.1 h0]
      exact ⟨fun z => (by cases z), fun z => absurd rfl z.2⟩) (fun _ z => absurd rfl z)
    rw [vh_sI_id] at z0
    have n0 : bt (nI 0) x = false := b_0 x
    simp only [s_53_0, s_53_1, s_53_2, s_53_3, ck13, cr0, cr1, cr2, cr3, cr4, cr5, cr6, cr7, cr8, cr9, ck14, ck15, ck16, ck17, ck18, ck19, ck20, ck21, ck22, ck23, cz14, cz15, cz16, cz17, cz18, cz19, cz20, cz21, cz22, cz23, va_rf_s, pk_mul, nI_add, not_false_eq_true, and_self, true_and, Option.toList_some, Option.toList_none, List.append_nil, List.cons_append, List.nil_append, nI_01, nI_11, vh_K_wI, vh_R_wI, vh_Z_wI, vh_wI_sI, vh_K_sI, vh_R_sI, vh_Z_sI, vh_sI_sI, vh_I_sI, s_54_0, s_54_1, c_firstI _ hC' h0, s_54_4, s_54_5, c_isIn, jbit_bt _ hx, jb_0, s_54_8, n0]
    rw [if_neg (by simp)]
    simp only [s_54_11, s_54_12, s_53_6, va_rf_s, pk_mul, nI_add, not_false_eq_true, and_self, true_and, Option.toList_some, Option.toList_none, List.append_nil, List.cons_append, List.nil_append, nI_01, nI_11, vh_K_wI, vh_R_wI, vh_Z_wI, vh_wI_sI, vh_K_sI, vh_R_sI, vh_Z_sI, vh_sI_sI, vh_I_sI]
    rw [if_pos nI_00]
    simp only [s_53_17, s_53_18]
    exact z0
/-- the first numbers after load: none is missing -/
theorem c_firstL {t : Int32} {h : vt_H} {Q : vt_Q} {f : Nat → Nat → Int32} {ρ : Nat → Nat} {Hs : Nat → Nat → Nat → Nat → Bool} (hC : CL h) (hD : LD f (vh_I h) ρ Hs t) (hx1 : ρ 1 < 38) (h2 : hs2 ρ)
    (hQ : ∀ fn, (∀ a b, a < 32 → b < 32 → CT Hs ρ a b ≠ 0 → bt fn a = true) → Q (some (.int fn)) h) : Wp 52 0 [.ref 13] [] h Q := by
  by_cases h0 : vh_I h 13 11 = 0
  · rw [c_firstN Q hC h0 hD.2.2.1.2.1 hx1]
    refine hQ _ (fun a b ha hb hne => Classical.byContradiction (fun z => hne ?_))
    have e : CT Hs ρ a b = S6 (fun _ => 0) := by
      refine S6_congr (fun w hw => bi_f (fun y => z ?_))
      have e1 := y.2.1
      unfold iv at e1
      by_cases q : ρ 1 < 32
      · rw [if_pos q] at e1 ⊢
        rw [bt_j1 q ha]
        simp [e1]
      · rw [if_neg q] at e1 ⊢
        have := ((hD.2.1.2.2.2.2.1 h0 w hw).mp y.1.1).1 (ρ 1 - 32) (by omega)
        rw [e1] at this
        exact this
    rw [e]
    exact sv_zero _ _
  · rw [c_firstI Q hC h0]
    exact hQ _ (fun a b _ _ hne => absurd (CT_imp hD.2.1 h0 a b) hne)
