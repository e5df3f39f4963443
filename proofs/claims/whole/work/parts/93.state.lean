-- ===== what holds between calls; the questions =====
/-- the rules' cells: sixteen blocks of five, each used once -/
def QD (q : Nat → Nat) : Prop := (∀ i, i < 16 → ∃ k, k < 16 ∧ q i = 49 + 5 * k) ∧ ∀ i j, i < 16 → j < 16 → q i = q j → i = j
def CC (h : vt_H) (U : Nat) (ρs : Nat → Nat → Nat) (c : Nat) (S : Nat → Nat → Nat → Bool) : Prop := ∃ la fr g q, CE h la fr g U q ρs c S ∧ QD q
def MM (h : vt_H) (ρs : Nat → Nat → Nat) (c : Nat) (S : Nat → Nat → Nat → Bool) : Prop := MZ h ∧ ME (vh_I h) ρs c S
/-- the reference's cells and the script stay -/
def FX (h h' : vt_H) : Prop := (∀ a, 129 ≤ a → a < 149 → vh_K h' a = vh_K h a ∧ vh_Z h' a = vh_Z h a ∧ (∀ j, vh_R h' a j = vh_R h a j) ∧ ∀ j, vh_I h' a j = vh_I h a j) ∧ vh_X h' = vh_X h ∧ vh_L h' = vh_L h
theorem FX_refl (h : vt_H) : FX h h := ⟨fun _ _ _ => ⟨rfl, rfl, fun _ => rfl, fun _ => rfl⟩, rfl, rfl⟩
theorem FX_trans {h h' h'' : vt_H} (a : FX h h') (b : FX h' h'') : FX h h'' := ⟨fun x x1 x2 => ⟨(b.1 x x1 x2).1.trans (a.1 x x1 x2).1, (b.1 x x1 x2).2.1.trans (a.1 x x1 x2).2.1, fun j => ((b.1 x x1 x2).2.2.1 j).trans ((a.1 x x1 x2).2.2.1 j), fun j => ((b.1 x x1 x2).2.2.2 j).trans ((a.1 x x1 x2).2.2.2 j)⟩, b.2.1.trans a.2.1, b.2.2.trans a.2.2⟩
theorem FX_sI {h : vt_H} {f : Nat → Nat → Int32} (e : ∀ x, 129 ≤ x → x < 149 → ∀ j, f x j = vh_I h x j) : FX h (vh_sI h f) := ⟨fun x x1 x2 => ⟨rfl, rfl, fun _ => rfl, fun j => e x x1 x2 j⟩, rfl, rfl⟩
theorem FX_HS {h h' : vt_H} (a : HS h h') (n : 149 ≤ vh_n h) (e : ∀ x, x < 149 → (x < 4 ∨ 47 < x) → ∀ j, vh_I h' x j = vh_I h x j) : FX h h' := ⟨fun x x1 x2 => ⟨(a.2.1 x (by omega)).1, (a.2.1 x (by omega)).2, fun j => a.2.2.1 x j (by omega) (by omega) (by omega), fun j => e x x2 (by omega) j⟩, a.2.2.2.1, a.2.2.2.2⟩
theorem MZ_FX {h h' : vt_H} (hM : MZ h) (a : FX h h') : MZ h' := by
  obtain ⟨mk, ⟨mr0, mk0, mz0⟩, ⟨mr1, mk1, mz1⟩, ⟨mr2, mk2, mz2⟩, ⟨mr3, mk3, mz3⟩, ⟨mr4, mk4, mz4⟩, ⟨mr5, mk5, mz5⟩, ⟨mr6, mk6, mz6⟩, ⟨mr7, mk7, mz7⟩, ⟨mr8, mk8, mz8⟩, ⟨mr9, mk9, mz9⟩, ⟨mr10, mk10, mz10⟩, ⟨mr11, mk11, mz11⟩, ⟨mr12, mk12, mz12⟩, ⟨mr13, mk13, mz13⟩, ⟨mr14, mk14, mz14⟩, ⟨mr15, mk15, mz15⟩, ⟨mr16, mk16, mz16⟩, ⟨mr17, mk17, mz17⟩, ⟨mr18, mk18, mz18⟩⟩ := hM
  have e := a.1
  exact ⟨(e 129 (by decide) (by decide)).1.trans mk, ⟨((e 129 (by decide) (by decide)).2.2.1 0).trans mr0, (e 130 (by decide) (by decide)).1.trans mk0, (e 130 (by decide) (by decide)).2.1.trans mz0⟩, ⟨((e 129 (by decide) (by decide)).2.2.1 1).trans mr1, (e 131 (by decide) (by decide)).1.trans mk1, (e 131 (by decide) (by decide)).2.1.trans mz1⟩, ⟨((e 129 (by decide) (by decide)).2.2.1 2).trans mr2, (e 132 (by decide) (by decide)).1.trans mk2, (e 132 (by decide) (by decide)).2.1.trans mz2⟩, ⟨((e 129 (by decide) (by decide)).2.2.1 3).trans mr3, (e 133 (by decide) (by decide)).1.trans mk3, (e 133 (by decide) (by decide)).2.1.trans mz3⟩, ⟨((e 129 (by decide) (by decide)).2.2.1 4).trans mr4, (e 134 (by decide) (by decide)).1.trans mk4, (e 134 (by decide) (by decide)).2.1.trans mz4⟩, ⟨((e 129 (by decide) (by decide)).2.2.1 5).trans mr5, (e 135 (by decide) (by decide)).1.trans mk5, (e 135 (by decide) (by decide)).2.1.trans mz5⟩, ⟨((e 129 (by decide) (by decide)).2.2.1 8).trans mr6, (e 136 (by decide) (by decide)).1.trans mk6, (e 136 (by decide) (by decide)).2.1.trans mz6⟩, ⟨((e 129 (by decide) (by decide)).2.2.1 9).trans mr7, (e 137 (by decide) (by decide)).1.trans mk7, (e 137 (by decide) (by decide)).2.1.trans mz7⟩, ⟨((e 129 (by decide) (by decide)).2.2.1 10).trans mr8, (e 138 (by decide) (by decide)).1.trans mk8, (e 138 (by decide) (by decide)).2.1.trans mz8⟩, ⟨((e 129 (by decide) (by decide)).2.2.1 13).trans mr9, (e 139 (by decide) (by decide)).1.trans mk9, (e 139 (by decide) (by decide)).2.1.trans mz9⟩, ⟨((e 129 (by decide) (by decide)).2.2.1 14).trans mr10, (e 140 (by decide) (by decide)).1.trans mk10, (e 140 (by decide) (by decide)).2.1.trans mz10⟩, ⟨((e 129 (by decide) (by decide)).2.2.1 15).trans mr11, (e 141 (by decide) (by decide)).1.trans mk11, (e 141 (by decide) (by decide)).2.1.trans mz11⟩, ⟨((e 129 (by decide) (by decide)).2.2.1 16).trans mr12, (e 142 (by decide) (by decide)).1.trans mk12, (e 142 (by decide) (by decide)).2.1.trans mz12⟩, ⟨((e 129 (by decide) (by decide)).2.2.1 18).trans mr13, (e 143 (by decide) (by decide)).1.trans mk13, (e 143 (by decide) (by decide)).2.1.trans mz13⟩, ⟨((e 129 (by decide) (by decide)).2.2.1 20).trans mr14, (e 144 (by decide) (by decide)).1.trans mk14, (e 144 (by decide) (by decide)).2.1.trans mz14⟩, ⟨((e 129 (by decide) (by decide)).2.2.1 21).trans mr15, (e 145 (by decide) (by decide)).1.trans mk15, (e 145 (by decide) (by decide)).2.1.trans mz15⟩, ⟨((e 129 (by decide) (by decide)).2.2.1 22).trans mr16, (e 146 (by decide) (by decide)).1.trans mk16, (e 146 (by decide) (by decide)).2.1.trans mz16⟩, ⟨((e 129 (by decide) (by decide)).2.2.1 23).trans mr17, (e 147 (by decide) (by decide)).1.trans mk17, (e 147 (by decide) (by decide)).2.1.trans mz17⟩, ⟨((e 129 (by decide) (by decide)).2.2.1 24).trans mr18, (e 148 (by decide) (by decide)).1.trans mk18, (e 148 (by decide) (by decide)).2.1.trans mz18⟩⟩
theorem MST_c {f f' : Nat → Nat → Int32} {ρs : Nat → Nat → Nat} {c : Nat} {S : Nat → Nat → Nat → Bool} (e : ∀ x, 129 ≤ x → x < 149 → ∀ j, f' x j = f x j) (h : MST f ρs c S) : MST f' ρs c S := by
  obtain ⟨ci, lv, H, t, rd, h1, h2, h3, h4, h5, h6, h7, h8⟩ := h
  exact ⟨ci, lv, H, t, rd, h1, (e 129 (by decide) (by decide) 11).trans h2, fun n hn => (e 138 (by decide) (by decide) n).trans (h3 n hn), fun x hx => (e 136 (by decide) (by decide) x).trans (h4 x hx), h5, (e 129 (by decide) (by decide) 12).trans h6, fun x hx => (e 137 (by decide) (by decide) x).trans (h7 x hx), h8⟩
theorem ME_c {f f' : Nat → Nat → Int32} {ρs : Nat → Nat → Nat} {c : Nat} {S : Nat → Nat → Nat → Bool} (e : ∀ x, 129 ≤ x → x < 149 → ∀ j, f' x j = f x j) (h : ME f ρs c S) : ME f' ρs c S := by
  obtain ⟨h1, h2, h3⟩ := h
  exact ⟨MRs_c h1 (fun x x1 x2 j => e x (by omega) (by omega) j) (e 129 (by decide) (by decide) 6), fun x hx => (e 130 (by decide) (by decide) x).trans (h2 x hx), fun z => MST_c e (h3 (by rw [← e 129 (by decide) (by decide) 7]; exact z))⟩
theorem MM_FX {h h' : vt_H} {ρs : Nat → Nat → Nat} {c : Nat} {S : Nat → Nat → Nat → Bool} (hM : MM h ρs c S) (a : FX h h') : MM h' ρs c S := ⟨MZ_FX hM.1 a, ME_c (fun x x1 x2 j => (a.1 x x1 x2).2.2.2 j) hM.2⟩
/-- cells that the class's state does not speak of -/
def awc (x : Nat) : Prop := (x < 13 ∨ 23 < x) ∧ (x < 129 ∨ 148 < x)
theorem STL_c {h : vt_H} {f' : Nat → Nat → Int32} {g : Nat → Nat} {U : Nat} {ρs : Nat → Nat → Nat} {c : Nat} {S : Nat → Nat → Nat → Bool} (hW : RW h g U) (e : ∀ x, awc x → ∀ j, f' x j = vh_I h x j) (hS : STL h g ρs c S) : STL (vh_sI h f') g ρs c S := by
  obtain ⟨ci, lv, H, t, rd, h1, h2, h3, h4, h5, h6, h7⟩ := hS
  refine ⟨ci, lv, H, t, rd, h1, (e 5 ⟨by omega, by omega⟩ 4).trans h2, fun n hn => (e 9 ⟨by omega, by omega⟩ n).trans (h3 n hn), fun n a b z1 z2 z3 => ?_, (e 4 ⟨by omega, by omega⟩ 1).trans h5, fun n a b z1 z2 z3 z4 => ⟨(h6 n a b z1 z2 z3 z4).1, ?_⟩, h7⟩
  · rw [vh_I_sI, e 11 ⟨by omega, by omega⟩, e 12 ⟨by omega, by omega⟩]; exact h4 n a b z1 z2 z3
  · have w := (hW.2.1 n z1).2.2
    rw [vh_I_sI, e (g n) ⟨by omega, by omega⟩]
    exact (h6 n a b z1 z2 z3 z4).2
theorem CE_c {h : vt_H} {f' : Nat → Nat → Int32} {la fr U c : Nat} {g q : Nat → Nat} {ρs : Nat → Nat → Nat} {S : Nat → Nat → Nat → Bool} (e : ∀ x, awc x → ∀ j, f' x j = vh_I h x j) (hE : CE h la fr g U q ρs c S) : CE (vh_sI h f') la fr g U q ρs c S := by
  obtain ⟨hG, hV, hc, hS, ⟨r1, r2, r3, r4⟩, hst⟩ := hE
  have hlf := hG.2.2.2.1.2.2.2.2.2.2.2.2.2
  refine ⟨hG, RVs_c hG.2.2.2.2.2 hV (fun x x1 x2 j => e x ⟨by omega, by omega⟩ j), (e 0 ⟨by omega, by omega⟩ 3).trans hc, fun n a b z1 z2 z3 => ?_, ⟨fun n a b z1 z2 z3 => ?_, fun n a b z1 z2 z3 => ?_, ?_, ?_⟩, fun z => STL_c hG.2.2.2.2.1 e (hst ?_)⟩
  · rw [vh_I_sI, e 2 ⟨by omega, by omega⟩, e 3 ⟨by omega, by omega⟩]; exact hS n a b z1 z2 z3
  · rw [vh_I_sI, e (la + 1) ⟨by omega, by omega⟩, e (la + 2) ⟨by omega, by omega⟩]; exact r1 n a b z1 z2 z3
  · rw [vh_I_sI, e (fr + 1) ⟨by omega, by omega⟩, e (fr + 2) ⟨by omega, by omega⟩]; exact r2 n a b z1 z2 z3
  · rw [vh_I_sI, e 4 ⟨by omega, by omega⟩]; exact r3
  · rw [vh_I_sI, e 4 ⟨by omega, by omega⟩]; exact r4
  · rw [vh_I_sI, e 4 ⟨by omega, by omega⟩] at z; exact z
theorem CC_out {h : vt_H} {f' : Nat → Nat → Int32} {U c : Nat} {ρs : Nat → Nat → Nat} {S : Nat → Nat → Nat → Bool} (hC : CC h U ρs c S) (e : ∀ x, x < 129 ∨ 148 < x → ∀ j, f' x j = vh_I h x j) : CC (vh_sI h f') U ρs c S := by
  obtain ⟨la, fr, g, q, h1, h2⟩ := hC
  exact ⟨la, fr, g, q, CE_c (fun x hx j => e x hx.2 j) h1, h2⟩
/-- settle, as the questions use it -/
theorem k_settle {U c : Nat} {S : Nat → Nat → Nat → Bool} {h : vt_H} {Q : vt_Q} {ρs : Nat → Nat → Nat} (hC : CC h U ρs c S)
    (hQ : ∀ h' la fr g q, CE h' la fr g U q ρs c S → QD q → STL h' g ρs c S → FX h h' → Q none h') :
    Wp 31 0 [.ref 4, .ref 1, .ref 48, .int (nI c), vt_un, vt_un, vt_un, vt_un, vt_un, vt_un] [] h Q := by
  obtain ⟨la, fr, g, q, h1, h2⟩ := hC
  exact c_settle h1 (fun h' la' fr' g' a1 a2 a3 a4 => hQ h' la' fr' g' q a2 h2 (a2.2.2.2.2.2 a3) (FX_HS a1 h1.1.2.2.2.2.1.2.2.2.1 a4))
theorem CC_EN {h : vt_H} {U c : Nat} {ρs : Nat → Nat → Nat} {S : Nat → Nat → Nat → Bool} (hC : CC h U ρs c S) : EN h ∧ vh_K h 48 = 2 ∧ vh_I h 0 3 = nI c ∧ c ≤ 16 := by
  obtain ⟨la, fr, g, q, h1, h2⟩ := hC
  exact ⟨h1.1.1, h1.1.2.2.2.2.2.1.1, h1.2.2.1, h1.2.1.1⟩
/-- the questions' models -/
def MDL (ρs : Nat → Nat → Nat) (c : Nat) (S : Nat → Nat → Nat → Bool) (ci : Nat) (lv : Nat → Nat) (H : Nat → Nat → Nat → Bool) (t : Nat) (rd : Nat → Nat → Nat → Nat) : Prop := SX ρs c ci lv ∧ FIN ρs c ci lv S H t rd
theorem k_run {U c : Nat} {S : Nat → Nat → Nat → Bool} {h : vt_H} {Q : vt_Q} {ρs : Nat → Nat → Nat} (hC : CC h U ρs c S)
    (hQ : ∀ h' ci lv H t rd, CC h' U ρs c S → FX h h' → MDL ρs c S ci lv H t rd → Q (some (.int (if cI ci < 0 then nI t else -nI 10 - cI ci))) h') : Wp 30 0 [.ref 0, vt_un] [] h Q := by
  obtain ⟨⟨e1, e2, e3, e4, e5, e6⟩, k48, hc, c16⟩ := CC_EN hC
  have k1 := e6.1
  simp only [s_30_0, s_30_1, s_30_4, s_30_5, s_30_8, s_30_9, s_30_12, s_30_13, s_30_16, va_rf_s, pk_mul, nI_add, not_false_eq_true, and_self, true_and, Option.toList_some, Option.toList_none, List.append_nil, List.cons_append, List.nil_append, nI_01, nI_11, vh_K_wI, vh_R_wI, vh_Z_wI, vh_wI_sI, vh_K_sI, vh_R_sI, vh_Z_sI, vh_sI_sI, vh_I_sI, e1, e2, e3, e4, e5, k48, k1, hc]
  refine k_settle hC (fun h' la fr g q a1 a2 a3 a4 => ?_)
  simp only [va_rf_s, pk_mul, nI_add, not_false_eq_true, and_self, true_and, Option.toList_some, Option.toList_none, List.append_nil, List.cons_append, List.nil_append, nI_01, nI_11, vh_K_wI, vh_R_wI, vh_Z_wI, vh_wI_sI, vh_K_sI, vh_R_sI, vh_Z_sI, vh_sI_sI, vh_I_sI]
  obtain ⟨⟨⟨e1, e2, e3, e4, e5, e6⟩, ⟨d1, d2, d3, d4⟩, hSO, hMO, hW, hR⟩, hV, hc, -⟩ := id a1
  obtain ⟨ci, lv, H, t, rd, h1, h2, h3, h4, h5, h6, h7⟩ := a3
  have s1 := hSO.1
  have fin := hQ h' ci lv H t rd ⟨la, fr, g, q, a1, a2⟩ a4 ⟨h1, h7⟩
  simp only [s_30_19, s_30_20, s_30_23, s_30_26, s_30_29, s_30_30, s_30_31, va_rf_s, pk_mul, nI_add, not_false_eq_true, and_self, true_and, Option.toList_some, Option.toList_none, List.append_nil, List.cons_append, List.nil_append, nI_01, nI_11, vh_K_wI, vh_R_wI, vh_Z_wI, vh_wI_sI, vh_K_sI, vh_R_sI, vh_Z_sI, vh_sI_sI, vh_I_sI, e1, e4, e5, d1, s1, h2]
  by_cases w : cI ci < 0
  · rw [if_pos w] at fin ⊢
    simp only [s_30_41, s_30_42, s_30_45, s_30_48, va_rf_s, pk_mul, nI_add, not_false_eq_true, and_self, true_and, Option.toList_some, Option.toList_none, List.append_nil, List.cons_append, List.nil_append, nI_01, nI_11, vh_K_wI, vh_R_wI, vh_Z_wI, vh_wI_sI, vh_K_sI, vh_R_sI, vh_Z_sI, vh_sI_sI, vh_I_sI, e1, e4, e5, h5]
    exact fin
  · rw [if_neg w] at fin ⊢
    simp only [s_30_34, s_30_36, s_30_37, s_30_38, s_30_48, va_rf_s, pk_mul, nI_add, not_false_eq_true, and_self, true_and, Option.toList_some, Option.toList_none, List.append_nil, List.cons_append, List.nil_append, nI_01, nI_11, vh_K_wI, vh_R_wI, vh_Z_wI, vh_wI_sI, vh_K_sI, vh_R_sI, vh_Z_sI, vh_sI_sI, vh_I_sI]
    exact fin
theorem k_stratum_bad {n : Int32} {h : vt_H} {Q : vt_Q} (hb : n < 0 ∨ nI 16 ≤ n) (hQ : Q (some (.int (-nI 1))) h) : Wp 71 0 [.ref 0, .int n] [] h Q := by
  simp only [s_71_0, s_71_1, s_71_4, s_71_7, s_71_8, va_rf_s, pk_mul, nI_add, not_false_eq_true, and_self, true_and, Option.toList_some, Option.toList_none, List.append_nil, List.cons_append, List.nil_append, nI_01, nI_11, vh_K_wI, vh_R_wI, vh_Z_wI, vh_wI_sI, vh_K_sI, vh_R_sI, vh_Z_sI, vh_sI_sI, vh_I_sI, c_isBadName, jb_0]
  rw [if_neg (fun z => z hb)]
  exact hQ
theorem k_stratum {n U c : Nat} {S : Nat → Nat → Nat → Bool} {h : vt_H} {Q : vt_Q} {ρs : Nat → Nat → Nat} (hn : n < 16) (hC : CC h U ρs c S)
    (hQ : ∀ h' ci lv H t rd, CC h' U ρs c S → FX h h' → MDL ρs c S ci lv H t rd → Q (some (.int (if cI ci < 0 then nI (lv n) else -nI 2))) h') : Wp 71 0 [.ref 0, .int (nI n)] [] h Q := by
  obtain ⟨⟨e1, e2, e3, e4, e5, e6⟩, k48, hc, c16⟩ := CC_EN hC
  have k1 := e6.1
  simp only [s_71_0, s_71_1, s_71_4, va_rf_s, pk_mul, nI_add, not_false_eq_true, and_self, true_and, Option.toList_some, Option.toList_none, List.append_nil, List.cons_append, List.nil_append, nI_01, nI_11, vh_K_wI, vh_R_wI, vh_Z_wI, vh_wI_sI, vh_K_sI, vh_R_sI, vh_Z_sI, vh_sI_sI, vh_I_sI, c_isBadName, jb_0]
  rw [if_pos (fun z => z.elim (nI_pos (by omega)) (nI_ge hn (by omega)))]
  simp only [s_71_9, s_71_10, s_71_13, s_71_14, s_71_17, s_71_18, s_71_21, s_71_22, s_71_25, va_rf_s, pk_mul, nI_add, not_false_eq_true, and_self, true_and, Option.toList_some, Option.toList_none, List.append_nil, List.cons_append, List.nil_append, nI_01, nI_11, vh_K_wI, vh_R_wI, vh_Z_wI, vh_wI_sI, vh_K_sI, vh_R_sI, vh_Z_sI, vh_sI_sI, vh_I_sI, e1, e2, e3, e4, e5, k48, k1, hc]
  refine k_settle hC (fun h' la fr g q a1 a2 a3 a4 => ?_)
  simp only [va_rf_s, pk_mul, nI_add, not_false_eq_true, and_self, true_and, Option.toList_some, Option.toList_none, List.append_nil, List.cons_append, List.nil_append, nI_01, nI_11, vh_K_wI, vh_R_wI, vh_Z_wI, vh_wI_sI, vh_K_sI, vh_R_sI, vh_Z_sI, vh_sI_sI, vh_I_sI]
  obtain ⟨⟨⟨e1, e2, e3, e4, e5, e6⟩, ⟨d1, d2, d3, d4⟩, hSO, hMO, hW, hR⟩, hV, hc, -⟩ := id a1
  obtain ⟨ci, lv, H, t, rd, h1, h2, h3, h4, h5, h6, h7⟩ := a3
  obtain ⟨s1, -, -, -, s5, -, -, -, s9, s9'⟩ := hSO
  have fin := hQ h' ci lv H t rd ⟨la, fr, g, q, a1, a2⟩ a4 ⟨h1, h7⟩
  simp only [s_71_28, s_71_29, s_71_32, s_71_35, s_71_38, va_rf_s, pk_mul, nI_add, not_false_eq_true, and_self, true_and, Option.toList_some, Option.toList_none, List.append_nil, List.cons_append, List.nil_append, nI_01, nI_11, vh_K_wI, vh_R_wI, vh_Z_wI, vh_wI_sI, vh_K_sI, vh_R_sI, vh_Z_sI, vh_sI_sI, vh_I_sI, e1, e4, e5, d1, s1, h2]
  by_cases w : cI ci < 0
  · rw [if_pos w] at fin ⊢
    simp only [s_71_46, s_71_47, s_71_50, s_71_53, s_71_56, s_71_57, s_71_58, va_rf_s, pk_mul, nI_add, not_false_eq_true, and_self, true_and, Option.toList_some, Option.toList_none, List.append_nil, List.cons_append, List.nil_append, nI_01, nI_11, vh_K_wI, vh_R_wI, vh_Z_wI, vh_wI_sI, vh_K_sI, vh_R_sI, vh_Z_sI, vh_sI_sI, vh_I_sI, e1, e4, e5, d1, s1, s5, s9, s9', cl (show n < 2 ^ 31 by omega), ib hn (show 16 ≤ 2 ^ 31 by omega), h3 n hn]
    exact fin
  · rw [if_neg w] at fin ⊢
    simp only [s_71_41, s_71_43, s_71_58, va_rf_s, pk_mul, nI_add, not_false_eq_true, and_self, true_and, Option.toList_some, Option.toList_none, List.append_nil, List.cons_append, List.nil_append, nI_01, nI_11, vh_K_wI, vh_R_wI, vh_Z_wI, vh_wI_sI, vh_K_sI, vh_R_sI, vh_Z_sI, vh_sI_sI, vh_I_sI]
    exact fin
theorem k_holds_bad {n a b : Int32} {h : vt_H} {Q : vt_Q} (hb : jbad n a b) (hQ : Q (some (.int (-nI 1))) h) : Wp 72 0 [.ref 0, .int n, .int a, .int b] [] h Q := by
  unfold jbad at hb
  simp only [s_72_0, s_72_1, s_72_2, s_72_3, s_72_6, s_72_9, s_72_10, va_rf_s, pk_mul, nI_add, not_false_eq_true, and_self, true_and, Option.toList_some, Option.toList_none, List.append_nil, List.cons_append, List.nil_append, nI_01, nI_11, vh_K_wI, vh_R_wI, vh_Z_wI, vh_wI_sI, vh_K_sI, vh_R_sI, vh_Z_sI, vh_sI_sI, vh_I_sI, c_isBadFact, jb_0]
  rw [if_neg (fun z => z hb)]
  exact hQ
theorem k_holds {n a b U c : Nat} {S : Nat → Nat → Nat → Bool} {h : vt_H} {Q : vt_Q} {ρs : Nat → Nat → Nat} (hn : n < 16) (ha : a < 32) (hb : b < 32) (hC : CC h U ρs c S) (hQ0 : S n a b = true → Q (some (.int (nI 1))) h)
    (hQ : ∀ h' ci lv H t rd, ¬ S n a b = true → CC h' U ρs c S → FX h h' → MDL ρs c S ci lv H t rd → Q (some (.int (if H n a b = true then nI 2 else nI 0))) h') : Wp 72 0 [.ref 0, .int (nI n), .int (nI a), .int (nI b)] [] h Q := by
  obtain ⟨⟨e1, e2, e3, e4, e5, e6⟩, k48, hc, c16⟩ := CC_EN hC
  have k1 := e6.1
  have hSf : bt (vh_I h 2 (32 * n + a)) b = S n a b := by
    obtain ⟨la, fr, g, q, h1, h2⟩ := hC
    exact (h1.2.2.2.1 n a b hn ha hb).1
  simp only [s_72_0, s_72_1, s_72_2, s_72_3, s_72_6, va_rf_s, pk_mul, nI_add, not_false_eq_true, and_self, true_and, Option.toList_some, Option.toList_none, List.append_nil, List.cons_append, List.nil_append, nI_01, nI_11, vh_K_wI, vh_R_wI, vh_Z_wI, vh_wI_sI, vh_K_sI, vh_R_sI, vh_Z_sI, vh_sI_sI, vh_I_sI, c_isBadFact, jb_0]
  rw [if_pos (jnbad hn ha hb)]
  simp only [s_72_11, s_72_12, s_72_15, s_72_16, s_72_17, s_72_18, s_72_21, va_rf_s, pk_mul, nI_add, not_false_eq_true, and_self, true_and, Option.toList_some, Option.toList_none, List.append_nil, List.cons_append, List.nil_append, nI_01, nI_11, vh_K_wI, vh_R_wI, vh_Z_wI, vh_wI_sI, vh_K_sI, vh_R_sI, vh_Z_sI, vh_sI_sI, vh_I_sI, e1, e2, k1, c_has _ e6 hn ha, jbit_bt _ hb, jb_0, hSf]
  by_cases w : S n a b = true
  · rw [if_neg (fun z => z w)]
    simp only [s_72_24, s_72_25]
    exact hQ0 w
  · rw [if_pos w]
    simp only [s_72_26, s_72_27, s_72_30, s_72_31, s_72_34, s_72_35, s_72_38, s_72_39, s_72_42, va_rf_s, pk_mul, nI_add, not_false_eq_true, and_self, true_and, Option.toList_some, Option.toList_none, List.append_nil, List.cons_append, List.nil_append, nI_01, nI_11, vh_K_wI, vh_R_wI, vh_Z_wI, vh_wI_sI, vh_K_sI, vh_R_sI, vh_Z_sI, vh_sI_sI, vh_I_sI, e1, e2, e3, e4, e5, k48, k1, hc]
    refine k_settle hC (fun h' la fr g q a1 a2 a3 a4 => ?_)
    simp only [va_rf_s, pk_mul, nI_add, not_false_eq_true, and_self, true_and, Option.toList_some, Option.toList_none, List.append_nil, List.cons_append, List.nil_append, nI_01, nI_11, vh_K_wI, vh_R_wI, vh_Z_wI, vh_wI_sI, vh_K_sI, vh_R_sI, vh_Z_sI, vh_sI_sI, vh_I_sI]
    obtain ⟨⟨⟨e1, e2, e3, e4, e5, e6⟩, ⟨d1, d2, d3, d4⟩, hSO, hMO, hW, hR⟩, hV, hc, -⟩ := id a1
    obtain ⟨ci, lv, H, t, rd, h1, h2, h3, h4, h5, h6, h7⟩ := a3
    obtain ⟨-, m2, -, -, -, m6, -⟩ := hMO
    have m61 := m6.1
    have fin := hQ h' ci lv H t rd w ⟨la, fr, g, q, a1, a2⟩ a4 ⟨h1, h7⟩
    simp only [s_72_45, s_72_46, s_72_49, s_72_52, s_72_53, s_72_54, s_72_55, s_72_58, va_rf_s, pk_mul, nI_add, not_false_eq_true, and_self, true_and, Option.toList_some, Option.toList_none, List.append_nil, List.cons_append, List.nil_append, nI_01, nI_11, vh_K_wI, vh_R_wI, vh_Z_wI, vh_wI_sI, vh_K_sI, vh_R_sI, vh_Z_sI, vh_sI_sI, vh_I_sI, e1, e4, e5, m2, m61, c_has _ m6 hn ha, jbit_bt _ hb, jb_0, (h4 n a b hn ha hb).1]
    by_cases w : H n a b = true
    · rw [if_pos w] at fin
      rw [if_neg (fun z => z w)]
      simp only [s_72_61, s_72_62, s_72_66]
      exact fin
    · rw [if_neg w] at fin
      rw [if_pos w]
      simp only [s_72_65, s_72_66]
      exact fin
theorem k_round_bad {n a b : Int32} {h : vt_H} {Q : vt_Q} (hb : jbad n a b) (hQ : Q (some (.int (-nI 1))) h) : Wp 73 0 [.ref 0, .int n, .int a, .int b] [] h Q := by
  unfold jbad at hb
  simp only [s_73_0, s_73_1, s_73_2, s_73_3, s_73_6, s_73_9, s_73_10, va_rf_s, pk_mul, nI_add, not_false_eq_true, and_self, true_and, Option.toList_some, Option.toList_none, List.append_nil, List.cons_append, List.nil_append, nI_01, nI_11, vh_K_wI, vh_R_wI, vh_Z_wI, vh_wI_sI, vh_K_sI, vh_R_sI, vh_Z_sI, vh_sI_sI, vh_I_sI, c_isBadFact, jb_0]
  rw [if_neg (fun z => z hb)]
  exact hQ
theorem k_round {n a b U c : Nat} {S : Nat → Nat → Nat → Bool} {h : vt_H} {Q : vt_Q} {ρs : Nat → Nat → Nat} (hn : n < 16) (ha : a < 32) (hb : b < 32) (hC : CC h U ρs c S) (hQ0 : S n a b = true → Q (some (.int (nI 0))) h)
    (hQ : ∀ h' ci lv H t rd, ¬ S n a b = true → CC h' U ρs c S → FX h h' → MDL ρs c S ci lv H t rd → Q (some (.int (if H n a b = true then nI (rd n a b) else -nI 2))) h') : Wp 73 0 [.ref 0, .int (nI n), .int (nI a), .int (nI b)] [] h Q := by
  obtain ⟨⟨e1, e2, e3, e4, e5, e6⟩, k48, hc, c16⟩ := CC_EN hC
  have k1 := e6.1
  have hSf : bt (vh_I h 2 (32 * n + a)) b = S n a b := by
    obtain ⟨la, fr, g, q, h1, h2⟩ := hC
    exact (h1.2.2.2.1 n a b hn ha hb).1
  simp only [s_73_0, s_73_1, s_73_2, s_73_3, s_73_6, va_rf_s, pk_mul, nI_add, not_false_eq_true, and_self, true_and, Option.toList_some, Option.toList_none, List.append_nil, List.cons_append, List.nil_append, nI_01, nI_11, vh_K_wI, vh_R_wI, vh_Z_wI, vh_wI_sI, vh_K_sI, vh_R_sI, vh_Z_sI, vh_sI_sI, vh_I_sI, c_isBadFact, jb_0]
  rw [if_pos (jnbad hn ha hb)]
  simp only [s_73_11, s_73_12, s_73_15, s_73_16, s_73_17, s_73_18, s_73_21, va_rf_s, pk_mul, nI_add, not_false_eq_true, and_self, true_and, Option.toList_some, Option.toList_none, List.append_nil, List.cons_append, List.nil_append, nI_01, nI_11, vh_K_wI, vh_R_wI, vh_Z_wI, vh_wI_sI, vh_K_sI, vh_R_sI, vh_Z_sI, vh_sI_sI, vh_I_sI, e1, e2, k1, c_has _ e6 hn ha, jbit_bt _ hb, jb_0, hSf]
  by_cases w : S n a b = true
  · rw [if_neg (fun z => z w)]
    simp only [s_73_24, s_73_25]
    exact hQ0 w
  · rw [if_pos w]
    simp only [s_73_26, s_73_27, s_73_30, s_73_31, s_73_34, s_73_35, s_73_38, s_73_39, s_73_42, va_rf_s, pk_mul, nI_add, not_false_eq_true, and_self, true_and, Option.toList_some, Option.toList_none, List.append_nil, List.cons_append, List.nil_append, nI_01, nI_11, vh_K_wI, vh_R_wI, vh_Z_wI, vh_wI_sI, vh_K_sI, vh_R_sI, vh_Z_sI, vh_sI_sI, vh_I_sI, e1, e2, e3, e4, e5, k48, k1, hc]
    refine k_settle hC (fun h' la fr g q a1 a2 a3 a4 => ?_)
    simp only [va_rf_s, pk_mul, nI_add, not_false_eq_true, and_self, true_and, Option.toList_some, Option.toList_none, List.append_nil, List.cons_append, List.nil_append, nI_01, nI_11, vh_K_wI, vh_R_wI, vh_Z_wI, vh_wI_sI, vh_K_sI, vh_R_sI, vh_Z_sI, vh_sI_sI, vh_I_sI]
    obtain ⟨⟨⟨e1, e2, e3, e4, e5, e6⟩, ⟨d1, d2, d3, d4⟩, hSO, hMO, hW, hR⟩, hV, hc, -⟩ := id a1
    obtain ⟨ci, lv, H, t, rd, h1, h2, h3, h4, h5, h6, h7⟩ := a3
    obtain ⟨-, m2, -, -, -, m6, -⟩ := hMO
    have m61 := m6.1
    have fin := hQ h' ci lv H t rd w ⟨la, fr, g, q, a1, a2⟩ a4 ⟨h1, h7⟩
    simp only [s_73_45, s_73_46, s_73_49, s_73_52, s_73_53, s_73_54, s_73_55, s_73_58, va_rf_s, pk_mul, nI_add, not_false_eq_true, and_self, true_and, Option.toList_some, Option.toList_none, List.append_nil, List.cons_append, List.nil_append, nI_01, nI_11, vh_K_wI, vh_R_wI, vh_Z_wI, vh_wI_sI, vh_K_sI, vh_R_sI, vh_Z_sI, vh_sI_sI, vh_I_sI, e1, e4, e5, m2, m61, c_has _ m6 hn ha, jbit_bt _ hb, jb_0, (h4 n a b hn ha hb).1]
    by_cases w2 : H n a b = true
    · rw [if_pos w2] at fin
      rw [if_neg (fun z => z w2)]
      simp only [s_73_61, s_73_62, s_73_65, s_73_66, s_73_67, s_73_68, s_73_71, s_73_76, va_rf_s, pk_mul, nI_add, not_false_eq_true, and_self, true_and, Option.toList_some, Option.toList_none, List.append_nil, List.cons_append, List.nil_append, nI_01, nI_11, vh_K_wI, vh_R_wI, vh_Z_wI, vh_wI_sI, vh_K_sI, vh_R_sI, vh_Z_sI, vh_sI_sI, vh_I_sI, e1, e4, e5, c_roundOf _ e5 hW h6 hn ha hb (show (H n a b && !S n a b) = true by rw [w2]; cases hs : S n a b with | true => exact absurd hs w | false => rfl)]
      exact fin
    · rw [if_neg w2] at fin
      rw [if_pos w2]
      simp only [s_73_74, s_73_76]
      exact fin
