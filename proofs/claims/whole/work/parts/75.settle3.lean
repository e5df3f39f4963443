-- ===== MODEL of the class: settle =====
/-- what comes out in the end -/
def FIN (ρs : Nat → Nat → Nat) (c ci : Nat) (lv : Nat → Nat) (S H : Nat → Nat → Nat → Bool) (t : Nat) (rd : Nat → Nat → Nat → Nat) : Prop := (ci = 16 ∧ ∃ j, 16 ≤ (itr ρs c lv S j).1.1 ∧ H = (itr ρs c lv S j).2.1 ∧ t = (itr ρs c lv S j).1.2.2 ∧ rd = (itr ρs c lv S j).2.2) ∨ (ci < 16 ∧ H = S ∧ t = 0 ∧ rd = fun _ _ _ => 0)
theorem bNEW_lv {ρs : Nat → Nat → Nat} {c s : Nat} {lv lv' : Nat → Nat} {H : Nat → Nat → Nat → Bool} (hn : ∀ i, i < c → ρs i 0 < 16) (e : ∀ n, n < 16 → lv n = lv' n) : bNEW ρs c lv H s = bNEW ρs c lv' H s := by
  funext n a b
  refine beq2 (bNEW_t.trans (Iff.trans ?_ bNEW_t.symm))
  constructor
  · rintro ⟨i, z1, z2, z3, z4, z5⟩
    exact ⟨i, z1, z2, z3, by rw [← e n (by rw [← z3]; exact hn i z1)]; exact z4, z5⟩
  · rintro ⟨i, z1, z2, z3, z4, z5⟩
    exact ⟨i, z1, z2, z3, by rw [e n (by rw [← z3]; exact hn i z1)]; exact z4, z5⟩
theorem itr_lv {ρs : Nat → Nat → Nat} {c : Nat} {lv lv' : Nat → Nat} {S : Nat → Nat → Nat → Bool} (hn : ∀ i, i < c → ρs i 0 < 16) (e : ∀ n, n < 16 → lv n = lv' n) : ∀ j, itr ρs c lv S j = itr ρs c lv' S j
  | 0 => rfl
  | j + 1 => by
    show nxt ρs c lv (itr ρs c lv S j) = nxt ρs c lv' (itr ρs c lv' S j)
    rw [itr_lv hn e j]
    unfold nxt
    rw [bNEW_lv hn e]
theorem SX_uniq {ρs : Nat → Nat → Nat} {c ci ci' : Nat} {lv lv' : Nat → Nat} (h : SX ρs c ci lv) (h' : SX ρs c ci' lv') : ci = ci' ∧ ∀ n, n < 16 → lv n = lv' n := by
  have e := CI_uniq h.1 h'.1
  refine ⟨e, fun n hn => ?_⟩
  by_cases q : ci = 16
  · exact lfp_uniq (h.2.1 q).1 (h'.2.1 (e ▸ q)).1 hn
  · have q' : ci < 16 := by rcases h.1 with w | w <;> omega
    rw [h.2.2 q' n hn, h'.2.2 (by omega) n hn]
theorem FIN_uniq {ρs : Nat → Nat → Nat} {c ci ci' : Nat} {lv lv' : Nat → Nat} {S H H' : Nat → Nat → Nat → Bool} {t t' : Nat} {rd rd' : Nat → Nat → Nat → Nat} (hn : ∀ i, i < c → ρs i 0 < 16) (h : SX ρs c ci lv) (h' : SX ρs c ci' lv') (f : FIN ρs c ci lv S H t rd) (f' : FIN ρs c ci' lv' S H' t' rd') : H = H' ∧ t = t' ∧ rd = rd' := by
  obtain ⟨e1, e2⟩ := SX_uniq h h'
  subst e1
  rcases f with ⟨a1, j, a2, a3, a4, a5⟩ | ⟨a1, a2, a3, a4⟩ <;> rcases f' with ⟨b1, j', b2, b3, b4, b5⟩ | ⟨b1, b2, b3, b4⟩
  · rw [← itr_lv hn e2 j'] at b2 b3 b4 b5
    have := itr_same a2 b2
    rw [← this] at b3 b4 b5
    exact ⟨a3.trans b3.symm, a4.trans b4.symm, a5.trans b5.symm⟩
  · omega
  · omega
  · exact ⟨a2.trans b2.symm, a3.trans b3.symm, a4.trans b4.symm⟩
/-- the class's model is up to date -/
def STL (h : vt_H) (g : Nat → Nat) (ρs : Nat → Nat → Nat) (c : Nat) (S : Nat → Nat → Nat → Bool) : Prop := ∃ ci lv H t rd, SX ρs c ci lv ∧ vh_I h 5 4 = cI ci ∧ (∀ n, n < 16 → vh_I h 9 n = nI (lv n)) ∧ FR (vh_I h) 11 12 H ∧ vh_I h 4 1 = nI t ∧ RR h g (fun n a b => H n a b && !S n a b) (fun n a b => nI (rd n a b)) ∧ FIN ρs c ci lv S H t rd
/-- the whole class: its objects, rules rho (c of them), said facts S; nothing is left over of an earlier round -/
def CE (h : vt_H) (la fr : Nat) (g : Nat → Nat) (U : Nat) (q : Nat → Nat) (ρs : Nat → Nat → Nat) (c : Nat) (S : Nat → Nat → Nat → Bool) : Prop := EG h la fr g U q ∧ RVs (vh_I h) q ρs c ∧ vh_I h 0 3 = nI c ∧ FR (vh_I h) 2 3 S ∧ (FR (vh_I h) (la + 1) (la + 2) (fun _ _ _ => false) ∧ FR (vh_I h) (fr + 1) (fr + 2) (fun _ _ _ => false) ∧ FN (vh_I h 4 9) (fun _ _ _ => false) ∧ FN (vh_I h 4 10) (fun _ _ _ => false)) ∧ (vh_I h 4 0 = 0 → STL h g ρs c S)
theorem c_settle {la fr U c : Nat} {g q : Nat → Nat} {S : Nat → Nat → Nat → Bool} {h : vt_H} {Q : vt_Q} {ρs : Nat → Nat → Nat} (hE : CE h la fr g U q ρs c S)
    (hQ : ∀ h' la' fr' g', HS h h' → CE h' la' fr' g' U q ρs c S → vh_I h' 4 0 = 0 → (∀ x, x < 149 → (x < 4 ∨ 47 < x) → ∀ j, vh_I h' x j = vh_I h x j) → Q none h') :
    Wp 31 0 [.ref 4, .ref 1, .ref 48, .int (nI c), vt_un, vt_un, vt_un, vt_un, vt_un, vt_un] [] h Q := by
  have hE' := hE
  obtain ⟨hG, hV, hc, hS, ⟨r1, r2, r3, r4⟩, hst⟩ := hE
  have hG' := hG
  obtain ⟨⟨e1, e2, e3, e4, e5, e6⟩, ⟨d1, d2, d3, d4⟩, hSO, hM, hW, hR⟩ := hG
  have m1 := hM.1
  have hlf := hM.2.2.2.2.2.2.2.2.2
  simp only [s_31_0, s_31_1, va_rf_s, pk_mul, nI_add, not_false_eq_true, and_self, true_and, Option.toList_some, Option.toList_none, List.append_nil, List.cons_append, List.nil_append, nI_01, nI_11, vh_K_wI, vh_R_wI, vh_Z_wI, vh_wI_sI, vh_K_sI, vh_R_sI, vh_Z_sI, vh_sI_sI, vh_I_sI, m1, s_31_4]
  by_cases q0 : vh_I h 4 0 = 0
  · rw [if_neg (fun z => z q0)]
    simp only [s_31_7]
    exact hQ h la fr g (HS_refl h) hE' q0 (fun _ _ _ _ => rfl)
  · rw [if_pos q0]
    have k48 := hR.1.1
    have f1k := e6.1
    simp only [s_31_8, s_31_9, s_31_10, s_31_13, s_31_14, s_31_15, s_31_16, s_31_17, va_rf_s, pk_mul, nI_add, not_false_eq_true, and_self, true_and, Option.toList_some, Option.toList_none, List.append_nil, List.cons_append, List.nil_append, nI_01, nI_11, vh_K_wI, vh_R_wI, vh_Z_wI, vh_wI_sI, vh_K_sI, vh_R_sI, vh_Z_sI, vh_sI_sI, vh_I_sI, m1, k48, f1k]
    generalize hf0 : up2 (vh_I h) 4 0 (nI 0) = f0
    have o4 : ∀ x, x ≠ 4 → ∀ j, f0 x j = vh_I h x j := fun x hx j => by rw [← hf0, up2_a _ _ _ hx]
    have o40 : f0 4 0 = nI 0 := by rw [← hf0, up2_s]
    have o4j : ∀ j, j ≠ 0 → f0 4 j = vh_I h 4 j := fun j hj => by rw [← hf0, up2_i _ _ _ _ hj]
    have hSO0 : SO (vh_sI h f0) := hSO
    have hR0 : RS (vh_sI h f0) q := hR
    have hV0 : RVs (vh_I (vh_sI h f0)) q ρs c := RVs_c hR hV (fun x x1 x2 j => o4 x (by omega) j)
    have hSf : FR (vh_I (vh_sI h f0)) 2 3 S := fun n a b z1 z2 z3 => by rw [vh_I_sI, o4 2 (by decide), o4 3 (by decide)]; exact hS n a b z1 z2 z3
    refine c_startL (h := vh_sI h f0) (P := S) ⟨m1, d1, d2, d3, d4⟩ hM.2.1 hM.2.2.2.2.2.1 e6 hSf hSO0 hR0 hV0 (fun f1 ci lv L hX a1 a2 a3 a4 a5 a6 a7 a8 a9 => ?_)
    rw [vh_I_sI] at a8 a9
    simp only [va_rf_s, pk_mul, nI_add, not_false_eq_true, and_self, true_and, Option.toList_some, Option.toList_none, List.append_nil, List.cons_append, List.nil_append, nI_01, nI_11, vh_K_wI, vh_R_wI, vh_Z_wI, vh_wI_sI, vh_K_sI, vh_R_sI, vh_Z_sI, vh_sI_sI, vh_I_sI]
    simp only [s_31_20, s_31_22, s_31_23, s_31_25, s_31_26, s_31_28, s_31_29]
    have ci16 : ci ≤ 16 := by rcases hX.1 with w | w <;> omega
    have ff : ∀ x, x < 4 ∨ 47 < x → ∀ j, f1 x j = vh_I h x j := fun x hx j => by
      rw [a9 x (by omega)]; exact o4 x (by omega) j
    have f10 : f1 4 0 = 0 := by rw [a8 0 (by decide), o40]; rfl
    have rla1 : FR f1 (la + 1) (la + 2) (fun _ _ _ => false) := fun n a b z1 z2 z3 => by rw [a9 _ (by omega), a9 _ (by omega), o4 _ (by omega), o4 _ (by omega)]; exact r1 n a b z1 z2 z3
    have rfr1 : FR f1 (fr + 1) (fr + 2) (fun _ _ _ => false) := fun n a b z1 z2 z3 => by rw [a9 _ (by omega), a9 _ (by omega), o4 _ (by omega), o4 _ (by omega)]; exact r2 n a b z1 z2 z3
    have n9 : FN (f1 4 9) (fun _ _ _ => false) := by rw [a8 9 (by decide), o4j 9 (by decide)]; exact r3
    have n10 : FN (f1 4 10) (fun _ _ _ => false) := by rw [a8 10 (by decide), o4j 10 (by decide)]; exact r4
    have hG1 : EG (vh_sI h f1) la fr g U q := hG'
    have hV1 : RVs f1 q ρs c := RVs_c hR hV (fun x x1 x2 j => ff x (by omega) j)
    by_cases ec : ci = 16
    · rw [if_pos ec]
      obtain ⟨hlf2, h15⟩ := hX.2.1 ec
      have l := l_settle (h := vh_sI h f1) (Q := Q) (S := S) (U := U) (lv := lv) hR0 (by rw [vh_I_sI]; exact hV1) a5 hW.2.2.2.1 a3 h15 hlf2.1 (fun h' la' fr' g' j b1 b2 b3 b4 b5 b6 b7 b8 b9 b10 b11 => ?_) 16400 0 (by omega) (vh_sI h f1) la fr g (fun _ _ _ => false) vt_un vt_un (HS_refl _) hG1 ⟨fun _ _ _ _ => rfl, rfl⟩ (Nat.zero_le _) a6 a7 (fun n a b _ _ _ hd => ?_) rla1 n9 rfr1 n10 (Or.inl ⟨rfl, fun _ _ _ _ _ _ => rfl⟩) (Nat.zero_le _) (Nat.le_refl _) (fun _ _ _ _ _ _ z => z)
      · exact l
      · have bs : HS h h' := b1
        obtain ⟨u1, u2, u3⟩ := itr_up (S := S) (j := j) a4 (by omega) (itr_s j) (16 - L) (by omega)
        have ffr : ∀ x, x < 149 → (x < 4 ∨ 47 < x) → ∀ jj, vh_I h' x jj = vh_I h x jj := fun x x1 x2 jj => by
          rw [b3.1 x x1 (by omega), vh_I_sI]; exact ff x x2 jj
        have e45 : vh_I h' 4 0 = 0 := by rw [b3.2, vh_I_sI]; exact f10
        refine hQ h' la' fr' g' bs ⟨b2, RVs_c hR hV (fun x x1 x2 jj => ffr x (by omega) (by omega) jj), ?_, fun n a b z1 z2 z3 => ?_, ⟨b8, b9, b10, b11⟩, fun _ => ⟨ci, lv, _, _, _, hX, ?_, fun n hn => ?_, b5, b6, b7, Or.inl ⟨ec, j + (16 - L), by omega, by rw [u3], by rw [u2], by rw [u3]⟩⟩⟩ e45 ffr
        · rw [ffr 0 (by omega) (by omega)]; exact hc
        · rw [ffr 2 (by omega) (by omega), ffr 3 (by omega) (by omega)]; exact hS n a b z1 z2 z3
        · rw [b3.1 5 (by omega) (by omega), vh_I_sI]; exact a1
        · rw [b3.1 9 (by omega) (by omega), vh_I_sI]; exact a2 n hn
      · have hd : (S n a b && !S n a b) = true := hd
        cases hs : S n a b <;> rw [hs] at hd <;> cases hd
    · rw [if_neg ec]
      have fr' : ∀ x, x < 149 → (x < 4 ∨ 47 < x) → ∀ jj, f1 x jj = vh_I h x jj := fun x _ x2 jj => ff x x2 jj
      simp only [s_31_31, s_31_33, s_31_35, s_31_156]
      rw [if_pos (nI_le (Nat.le_refl 0) (by omega))]
      refine hQ (vh_sI h f1) la fr g (HS_refl h) ⟨hG1, hV1, ?_, fun n a b z1 z2 z3 => ?_, ⟨rla1, rfr1, n9, n10⟩, fun _ => ⟨ci, lv, S, 0, fun _ _ _ => 0, hX, a1, a2, a6, a7, fun n a b _ _ _ hd => ?_, Or.inr ⟨by omega, rfl, rfl, rfl⟩⟩⟩ f10 fr'
      · rw [vh_I_sI, ff 0 (by omega)]; exact hc
      · rw [vh_I_sI, ff 2 (by omega), ff 3 (by omega)]; exact hS n a b z1 z2 z3
      · have hd : (S n a b && !S n a b) = true := hd
        cases hs : S n a b <;> rw [hs] at hd <;> cases hd
