-- ===== the class's constructors =====
/-- growth: of the old cells only r changes -/
def GW (h h' : vt_H) (r m w : Nat) : Prop := (vh_n h' = vh_n h + m ∧ vh_u h' = vh_u h + w) ∧ (∀ b, b < vh_n h → vh_K h' b = vh_K h b ∧ vh_Z h' b = vh_Z h b) ∧ (∀ b j, b < vh_n h → b ≠ r → vh_I h' b j = vh_I h b j ∧ vh_R h' b j = vh_R h b j) ∧ vh_X h' = vh_X h ∧ vh_L h' = vh_L h
theorem GW_refl (h : vt_H) (r : Nat) : GW h h r 0 0 := ⟨⟨rfl, rfl⟩, fun _ _ => ⟨rfl, rfl⟩, fun _ _ _ _ => ⟨rfl, rfl⟩, rfl, rfl⟩
theorem GW_trans {h h' h'' : vt_H} {r m w m' w' : Nat} (a : GW h h' r m w) (b : GW h' h'' r m' w') : GW h h'' r (m + m') (w + w') := by
  obtain ⟨⟨a1, a2⟩, a3, a4, a5, a6⟩ := a
  obtain ⟨⟨b1, b2⟩, b3, b4, b5, b6⟩ := b
  refine ⟨⟨by omega, by omega⟩, fun x hx => ⟨((b3 x (by omega)).1).trans (a3 x hx).1, ((b3 x (by omega)).2).trans (a3 x hx).2⟩, fun x j hx hr => ⟨((b4 x j (by omega) hr).1).trans (a4 x j hx hr).1, ((b4 x j (by omega) hr).2).trans (a4 x j hx hr).2⟩, b5.trans a5, b6.trans a6⟩
theorem GW_wI {h : vt_H} {r i : Nat} {x : Int32} : GW h (vh_wI h r i x) r 0 0 := ⟨⟨rfl, rfl⟩, fun _ _ => ⟨rfl, rfl⟩, fun b j _ hb => ⟨by rw [vh_I_wI, if_neg (fun z => hb z.1)], rfl⟩, rfl, rfl⟩
theorem GW_wR {h : vt_H} {r i : Nat} {x : Option Nat} : GW h (vh_wR h r i x) r 0 0 := ⟨⟨rfl, rfl⟩, fun _ _ => ⟨rfl, rfl⟩, fun b j _ hb => ⟨rfl, by rw [vh_R_wR, if_neg (fun z => hb z.1)]⟩, rfl, rfl⟩
theorem GW_new {h : vt_H} {r k z w : Nat} : GW h (vh_new h k z w) r 1 w := ⟨⟨rfl, rfl⟩, fun b hb => ⟨by rw [vh_K_new, if_neg (by omega)], by rw [vh_Z_new, if_neg (by omega)]⟩, fun b j hb _ => ⟨by rw [vh_I_new, if_neg (by omega)], by rw [vh_R_new, if_neg (by omega)]⟩, rfl, rfl⟩
/-- growth of a new object is growth of what made it -/
theorem GW_sub {h h' h'' : vt_H} {r m w m' w' : Nat} (a : GW h h' r m w) (b : GW h' h'' (vh_n h) m' w') : GW h h'' r (m + m') (w + w') := by
  obtain ⟨⟨a1, a2⟩, a3, a4, a5, a6⟩ := a
  obtain ⟨⟨b1, b2⟩, b3, b4, b5, b6⟩ := b
  refine ⟨⟨by omega, by omega⟩, fun x hx => ⟨((b3 x (by omega)).1).trans (a3 x hx).1, ((b3 x (by omega)).2).trans (a3 x hx).2⟩, fun x j hx hr => ⟨((b4 x j (by omega) (by omega)).1).trans (a4 x j hx hr).1, ((b4 x j (by omega) (by omega)).2).trans (a4 x j hx hr).2⟩, b5.trans a5, b6.trans a6⟩
theorem FT_GW {h h' : vt_H} {r m w f s g : Nat} (a : GW h h' r m w) (hT : FT h f s g) (h1 : f < vh_n h) (h2 : s < vh_n h) (h3 : g < vh_n h) (hr : f ≠ r) : FT h' f s g := by
  obtain ⟨t1, t2, t3, t4, t5, t6, t7⟩ := hT
  exact ⟨(a.2.1 f h1).1.trans t1, ((a.2.2.1 f 0 h1 hr).2).trans t2, ((a.2.2.1 f 1 h1 hr).2).trans t3, (a.2.1 s h2).1.trans t4, (a.2.1 s h2).2.trans t5, (a.2.1 g h3).1.trans t6, (a.2.1 g h3).2.trans t7⟩
/-- arrays made one after the other, for the fields of r from s0 on -/
def NwL (h h' : vt_H) (r s0 : Nat) (zs : List Nat) : Prop := (vh_n h' = vh_n h + zs.length ∧ vh_u h' = vh_u h + zs.sum) ∧ (∀ b, b < vh_n h → vh_K h' b = vh_K h b ∧ vh_Z h' b = vh_Z h b ∧ ∀ j, vh_I h' b j = vh_I h b j) ∧ (∀ i, i < zs.length → vh_K h' (vh_n h + i) = 1 ∧ vh_Z h' (vh_n h + i) = zs.getD i 0 ∧ (∀ j, vh_I h' (vh_n h + i) j = 0) ∧ vh_R h' r (s0 + i) = some (vh_n h + i)) ∧ (∀ b j, b < vh_n h → (b ≠ r ∨ j < s0 ∨ s0 + zs.length ≤ j) → vh_R h' b j = vh_R h b j) ∧ vh_X h' = vh_X h ∧ vh_L h' = vh_L h
theorem NwL_nil (h : vt_H) (r s0 : Nat) : NwL h h r s0 [] := ⟨⟨rfl, rfl⟩, fun _ _ => ⟨rfl, rfl, fun _ => rfl⟩, fun i hi => absurd hi (Nat.not_lt_zero i), fun _ _ _ _ => rfl, rfl, rfl⟩
theorem gd_last (zs : List Nat) (z : Nat) : (zs ++ [z]).getD zs.length 0 = z := by
  rw [List.getD_eq_getElem?_getD, List.getElem?_append_right (Nat.le_refl _), Nat.sub_self]; rfl
theorem gd_old (zs : List Nat) (z : Nat) {i : Nat} (hi : i < zs.length) : (zs ++ [z]).getD i 0 = zs.getD i 0 := by
  rw [List.getD_eq_getElem?_getD, List.getD_eq_getElem?_getD, List.getElem?_append_left hi]
theorem NwL_snoc {h h1 h2 : vt_H} {r s0 z : Nat} {zs : List Nat} (hr : r < vh_n h) (a : NwL h h1 r s0 zs) (b : Nw h1 h2 1 z r (s0 + zs.length)) : NwL h h2 r s0 (zs ++ [z]) := by
  obtain ⟨⟨a1, a2⟩, a3, a4, a5, a6, a7⟩ := a
  obtain ⟨⟨b1, b2⟩, b3, ⟨b4, b5, b6⟩, ⟨b7, b8⟩, b9, b10⟩ := b
  refine ⟨⟨by rw [List.length_append]; show vh_n h2 = vh_n h + (zs.length + 1); omega, by rw [List.sum_append]; show vh_u h2 = vh_u h + (zs.sum + (z + 0)); omega⟩, fun x hx => ?_, fun i hi => ?_, fun x j hx hj => ?_, b9.trans a6, b10.trans a7⟩
  · have := b3 x (by omega)
    have := a3 x hx
    exact ⟨(b3 x (by omega)).1.trans (a3 x hx).1, (b3 x (by omega)).2.1.trans (a3 x hx).2.1, fun j => ((b3 x (by omega)).2.2 j).trans ((a3 x hx).2.2 j)⟩
  · have hl : (zs ++ [z]).length = zs.length + 1 := by rw [List.length_append]; rfl
    rw [hl] at hi
    by_cases w : i = zs.length
    · have e : vh_n h + i = vh_n h1 := by omega
      rw [e, w, b4, b5, b7, gd_last]
      exact ⟨rfl, rfl, b6, rfl⟩
    · have hi' : i < zs.length := by omega
      obtain ⟨c1, c2, c3, c4⟩ := a4 i hi'
      obtain ⟨d1, d2, d3⟩ := b3 (vh_n h + i) (by omega)
      rw [d1, d2, b8 r (s0 + i) (by omega) (by omega), gd_old _ _ hi']
      exact ⟨c1, c2, fun j => (d3 j).trans (c3 j), c4⟩
  · rw [List.length_append] at hj
    have hj : x ≠ r ∨ j < s0 ∨ s0 + (zs.length + 1) ≤ j := hj
    rw [b8 x j (by omega) (by omega)]
    exact a5 x j hx (by omega)
theorem NwL_GW {h h' : vt_H} {r s0 : Nat} {zs : List Nat} (a : NwL h h' r s0 zs) : GW h h' r zs.length zs.sum := ⟨a.1, fun b hb => ⟨(a.2.1 b hb).1, (a.2.1 b hb).2.1⟩, fun b j hb hr => ⟨(a.2.1 b hb).2.2 j, a.2.2.2.1 b j hb (Or.inl hr)⟩, a.2.2.2.2.1, a.2.2.2.2.2⟩
theorem c_initF {r : Nat} {h : vt_H} {Q : vt_Q} (hK : vh_K h r = 101) (hr : r < vh_n h) (hQ : ∀ h', NwL h h' r 0 [512, 512] → Wp 2 22 [.ref r] [] h' Q) : Wp 2 4 [.ref r] [] h Q := by
  have L0 := NwL_nil h r 0
  have kk0 : vh_K (vh_new h 1 512 512) r = 101 := by
    have := L0.1.1
    rw [vh_K_new, if_neg (by simp only [List.length_append, List.length_cons, List.length_nil] at this; omega)]
    exact hK
  simp only [s_2_4, s_2_5, s_2_8, s_2_10, cl (show 512 < 2 ^ 31 by omega), nI_pos (show 512 < 2 ^ 31 by omega), (show 512 ≤ 100000000 by omega), kk0, not_false_eq_true, and_self, true_and]
  refine Nw_go (P := fun g => Wp 2 13 [.ref r] [] g Q) (fun h1 g0 => ?_)
  have L1 := NwL_snoc hr L0 g0
  have hK1 : vh_K h1 r = 101 := (L1.2.1 r hr).1.trans hK
  have kk1 : vh_K (vh_new h1 1 512 512) r = 101 := by
    have := L1.1.1
    rw [vh_K_new, if_neg (by simp only [List.length_append, List.length_cons, List.length_nil] at this; omega)]
    exact hK1
  simp only [s_2_13, s_2_14, s_2_17, s_2_19, cl (show 512 < 2 ^ 31 by omega), nI_pos (show 512 < 2 ^ 31 by omega), (show 512 ≤ 100000000 by omega), kk1, not_false_eq_true, and_self, true_and]
  refine Nw_go (P := fun g => Wp 2 22 [.ref r] [] g Q) (fun h2 g1 => ?_)
  have L2 := NwL_snoc hr L1 g1
  have hK2 : vh_K h2 r = 101 := (L2.2.1 r hr).1.trans hK
  exact hQ h2 L2
theorem c_initS {r : Nat} {h : vt_H} {Q : vt_Q} (hK : vh_K h r = 104) (hr : r < vh_n h) (hQ : ∀ h', NwL h h' r 0 [16, 16, 16, 16] → Wp 4 36 [.ref r] [] h' Q) : Wp 4 4 [.ref r] [] h Q := by
  have L0 := NwL_nil h r 0
  have kk0 : vh_K (vh_new h 1 16 16) r = 104 := by
    have := L0.1.1
    rw [vh_K_new, if_neg (by simp only [List.length_append, List.length_cons, List.length_nil] at this; omega)]
    exact hK
  simp only [s_4_4, s_4_5, s_4_7, s_4_9, cl (show 16 < 2 ^ 31 by omega), nI_pos (show 16 < 2 ^ 31 by omega), (show 16 ≤ 100000000 by omega), kk0, not_false_eq_true, and_self, true_and]
  refine Nw_go (P := fun g => Wp 4 12 [.ref r] [] g Q) (fun h1 g0 => ?_)
  have L1 := NwL_snoc hr L0 g0
  have hK1 : vh_K h1 r = 104 := (L1.2.1 r hr).1.trans hK
  have kk1 : vh_K (vh_new h1 1 16 16) r = 104 := by
    have := L1.1.1
    rw [vh_K_new, if_neg (by simp only [List.length_append, List.length_cons, List.length_nil] at this; omega)]
    exact hK1
  simp only [s_4_12, s_4_13, s_4_15, s_4_17, cl (show 16 < 2 ^ 31 by omega), nI_pos (show 16 < 2 ^ 31 by omega), (show 16 ≤ 100000000 by omega), kk1, not_false_eq_true, and_self, true_and]
  refine Nw_go (P := fun g => Wp 4 20 [.ref r] [] g Q) (fun h2 g1 => ?_)
  have L2 := NwL_snoc hr L1 g1
  have hK2 : vh_K h2 r = 104 := (L2.2.1 r hr).1.trans hK
  have kk2 : vh_K (vh_new h2 1 16 16) r = 104 := by
    have := L2.1.1
    rw [vh_K_new, if_neg (by simp only [List.length_append, List.length_cons, List.length_nil] at this; omega)]
    exact hK2
  simp only [s_4_20, s_4_21, s_4_23, s_4_25, cl (show 16 < 2 ^ 31 by omega), nI_pos (show 16 < 2 ^ 31 by omega), (show 16 ≤ 100000000 by omega), kk2, not_false_eq_true, and_self, true_and]
  refine Nw_go (P := fun g => Wp 4 28 [.ref r] [] g Q) (fun h3 g2 => ?_)
  have L3 := NwL_snoc hr L2 g2
  have hK3 : vh_K h3 r = 104 := (L3.2.1 r hr).1.trans hK
  have kk3 : vh_K (vh_new h3 1 16 16) r = 104 := by
    have := L3.1.1
    rw [vh_K_new, if_neg (by simp only [List.length_append, List.length_cons, List.length_nil] at this; omega)]
    exact hK3
  simp only [s_4_28, s_4_29, s_4_31, s_4_33, cl (show 16 < 2 ^ 31 by omega), nI_pos (show 16 < 2 ^ 31 by omega), (show 16 ≤ 100000000 by omega), kk3, not_false_eq_true, and_self, true_and]
  refine Nw_go (P := fun g => Wp 4 36 [.ref r] [] g Q) (fun h4 g3 => ?_)
  have L4 := NwL_snoc hr L3 g3
  have hK4 : vh_K h4 r = 104 := (L4.2.1 r hr).1.trans hK
  exact hQ h4 L4
theorem c_initC {r : Nat} {h : vt_H} {Q : vt_Q} (hK : vh_K h r = 100) (hr : r < vh_n h) (hQ : ∀ h', NwL h h' r 0 [1152, 6, 32, 32, 3, 3, 18, 576, 32, 32] → Wp 5 84 [.ref r] [] h' Q) : Wp 5 4 [.ref r] [] h Q := by
  have L0 := NwL_nil h r 0
  have kk0 : vh_K (vh_new h 1 1152 1152) r = 100 := by
    have := L0.1.1
    rw [vh_K_new, if_neg (by simp only [List.length_append, List.length_cons, List.length_nil] at this; omega)]
    exact hK
  simp only [s_5_4, s_5_5, s_5_8, s_5_10, cl (show 1152 < 2 ^ 31 by omega), nI_pos (show 1152 < 2 ^ 31 by omega), (show 1152 ≤ 100000000 by omega), kk0, not_false_eq_true, and_self, true_and]
  refine Nw_go (P := fun g => Wp 5 13 [.ref r] [] g Q) (fun h1 g0 => ?_)
  have L1 := NwL_snoc hr L0 g0
  have hK1 : vh_K h1 r = 100 := (L1.2.1 r hr).1.trans hK
  have kk1 : vh_K (vh_new h1 1 6 6) r = 100 := by
    have := L1.1.1
    rw [vh_K_new, if_neg (by simp only [List.length_append, List.length_cons, List.length_nil] at this; omega)]
    exact hK1
  simp only [s_5_13, s_5_14, s_5_16, s_5_18, cl (show 6 < 2 ^ 31 by omega), nI_pos (show 6 < 2 ^ 31 by omega), (show 6 ≤ 100000000 by omega), kk1, not_false_eq_true, and_self, true_and]
  refine Nw_go (P := fun g => Wp 5 21 [.ref r] [] g Q) (fun h2 g1 => ?_)
  have L2 := NwL_snoc hr L1 g1
  have hK2 : vh_K h2 r = 100 := (L2.2.1 r hr).1.trans hK
  have kk2 : vh_K (vh_new h2 1 32 32) r = 100 := by
    have := L2.1.1
    rw [vh_K_new, if_neg (by simp only [List.length_append, List.length_cons, List.length_nil] at this; omega)]
    exact hK2
  simp only [s_5_21, s_5_22, s_5_24, s_5_26, cl (show 32 < 2 ^ 31 by omega), nI_pos (show 32 < 2 ^ 31 by omega), (show 32 ≤ 100000000 by omega), kk2, not_false_eq_true, and_self, true_and]
  refine Nw_go (P := fun g => Wp 5 29 [.ref r] [] g Q) (fun h3 g2 => ?_)
  have L3 := NwL_snoc hr L2 g2
  have hK3 : vh_K h3 r = 100 := (L3.2.1 r hr).1.trans hK
  have kk3 : vh_K (vh_new h3 1 32 32) r = 100 := by
    have := L3.1.1
    rw [vh_K_new, if_neg (by simp only [List.length_append, List.length_cons, List.length_nil] at this; omega)]
    exact hK3
  simp only [s_5_29, s_5_30, s_5_32, s_5_34, cl (show 32 < 2 ^ 31 by omega), nI_pos (show 32 < 2 ^ 31 by omega), (show 32 ≤ 100000000 by omega), kk3, not_false_eq_true, and_self, true_and]
  refine Nw_go (P := fun g => Wp 5 37 [.ref r] [] g Q) (fun h4 g3 => ?_)
  have L4 := NwL_snoc hr L3 g3
  have hK4 : vh_K h4 r = 100 := (L4.2.1 r hr).1.trans hK
  have kk4 : vh_K (vh_new h4 1 3 3) r = 100 := by
    have := L4.1.1
    rw [vh_K_new, if_neg (by simp only [List.length_append, List.length_cons, List.length_nil] at this; omega)]
    exact hK4
  simp only [s_5_37, s_5_38, s_5_39, s_5_41, cl (show 3 < 2 ^ 31 by omega), nI_pos (show 3 < 2 ^ 31 by omega), (show 3 ≤ 100000000 by omega), kk4, not_false_eq_true, and_self, true_and]
  refine Nw_go (P := fun g => Wp 5 44 [.ref r] [] g Q) (fun h5 g4 => ?_)
  have L5 := NwL_snoc hr L4 g4
  have hK5 : vh_K h5 r = 100 := (L5.2.1 r hr).1.trans hK
  have kk5 : vh_K (vh_new h5 1 3 3) r = 100 := by
    have := L5.1.1
    rw [vh_K_new, if_neg (by simp only [List.length_append, List.length_cons, List.length_nil] at this; omega)]
    exact hK5
  simp only [s_5_44, s_5_45, s_5_46, s_5_48, cl (show 3 < 2 ^ 31 by omega), nI_pos (show 3 < 2 ^ 31 by omega), (show 3 ≤ 100000000 by omega), kk5, not_false_eq_true, and_self, true_and]
  refine Nw_go (P := fun g => Wp 5 51 [.ref r] [] g Q) (fun h6 g5 => ?_)
  have L6 := NwL_snoc hr L5 g5
  have hK6 : vh_K h6 r = 100 := (L6.2.1 r hr).1.trans hK
  have kk6 : vh_K (vh_new h6 1 18 18) r = 100 := by
    have := L6.1.1
    rw [vh_K_new, if_neg (by simp only [List.length_append, List.length_cons, List.length_nil] at this; omega)]
    exact hK6
  simp only [s_5_51, s_5_52, s_5_54, s_5_56, cl (show 18 < 2 ^ 31 by omega), nI_pos (show 18 < 2 ^ 31 by omega), (show 18 ≤ 100000000 by omega), kk6, not_false_eq_true, and_self, true_and]
  refine Nw_go (P := fun g => Wp 5 59 [.ref r] [] g Q) (fun h7 g6 => ?_)
  have L7 := NwL_snoc hr L6 g6
  have hK7 : vh_K h7 r = 100 := (L7.2.1 r hr).1.trans hK
  have kk7 : vh_K (vh_new h7 1 576 576) r = 100 := by
    have := L7.1.1
    rw [vh_K_new, if_neg (by simp only [List.length_append, List.length_cons, List.length_nil] at this; omega)]
    exact hK7
  simp only [s_5_59, s_5_60, s_5_63, s_5_65, cl (show 576 < 2 ^ 31 by omega), nI_pos (show 576 < 2 ^ 31 by omega), (show 576 ≤ 100000000 by omega), kk7, not_false_eq_true, and_self, true_and]
  refine Nw_go (P := fun g => Wp 5 68 [.ref r] [] g Q) (fun h8 g7 => ?_)
  have L8 := NwL_snoc hr L7 g7
  have hK8 : vh_K h8 r = 100 := (L8.2.1 r hr).1.trans hK
  have kk8 : vh_K (vh_new h8 1 32 32) r = 100 := by
    have := L8.1.1
    rw [vh_K_new, if_neg (by simp only [List.length_append, List.length_cons, List.length_nil] at this; omega)]
    exact hK8
  simp only [s_5_68, s_5_69, s_5_71, s_5_73, cl (show 32 < 2 ^ 31 by omega), nI_pos (show 32 < 2 ^ 31 by omega), (show 32 ≤ 100000000 by omega), kk8, not_false_eq_true, and_self, true_and]
  refine Nw_go (P := fun g => Wp 5 76 [.ref r] [] g Q) (fun h9 g8 => ?_)
  have L9 := NwL_snoc hr L8 g8
  have hK9 : vh_K h9 r = 100 := (L9.2.1 r hr).1.trans hK
  have kk9 : vh_K (vh_new h9 1 32 32) r = 100 := by
    have := L9.1.1
    rw [vh_K_new, if_neg (by simp only [List.length_append, List.length_cons, List.length_nil] at this; omega)]
    exact hK9
  simp only [s_5_76, s_5_77, s_5_79, s_5_81, cl (show 32 < 2 ^ 31 by omega), nI_pos (show 32 < 2 ^ 31 by omega), (show 32 ≤ 100000000 by omega), kk9, not_false_eq_true, and_self, true_and]
  refine Nw_go (P := fun g => Wp 5 84 [.ref r] [] g Q) (fun h10 g9 => ?_)
  have L10 := NwL_snoc hr L9 g9
  have hK10 : vh_K h10 r = 100 := (L10.2.1 r hr).1.trans hK
  exact hQ h10 L10
theorem c_initR {r : Nat} {h : vt_H} {Q : vt_Q} (hK : vh_K h r = 103) (hr : r < vh_n h) (hQ : ∀ h', NwL h h' r 6 [5, 5, 5, 5] → Wp 6 37 [.ref r] [] h' Q) : Wp 6 9 [.ref r] [] h Q := by
  have L0 := NwL_nil h r 6
  have kk0 : vh_K (vh_new h 1 5 5) r = 103 := by
    have := L0.1.1
    rw [vh_K_new, if_neg (by simp only [List.length_append, List.length_cons, List.length_nil] at this; omega)]
    exact hK
  simp only [s_6_9, s_6_10, s_6_11, s_6_13, cl (show 5 < 2 ^ 31 by omega), nI_pos (show 5 < 2 ^ 31 by omega), (show 5 ≤ 100000000 by omega), kk0, not_false_eq_true, and_self, true_and]
  refine Nw_go (P := fun g => Wp 6 16 [.ref r] [] g Q) (fun h1 g0 => ?_)
  have L1 := NwL_snoc hr L0 g0
  have hK1 : vh_K h1 r = 103 := (L1.2.1 r hr).1.trans hK
  have kk1 : vh_K (vh_new h1 1 5 5) r = 103 := by
    have := L1.1.1
    rw [vh_K_new, if_neg (by simp only [List.length_append, List.length_cons, List.length_nil] at this; omega)]
    exact hK1
  simp only [s_6_16, s_6_17, s_6_18, s_6_20, cl (show 5 < 2 ^ 31 by omega), nI_pos (show 5 < 2 ^ 31 by omega), (show 5 ≤ 100000000 by omega), kk1, not_false_eq_true, and_self, true_and]
  refine Nw_go (P := fun g => Wp 6 23 [.ref r] [] g Q) (fun h2 g1 => ?_)
  have L2 := NwL_snoc hr L1 g1
  have hK2 : vh_K h2 r = 103 := (L2.2.1 r hr).1.trans hK
  have kk2 : vh_K (vh_new h2 1 5 5) r = 103 := by
    have := L2.1.1
    rw [vh_K_new, if_neg (by simp only [List.length_append, List.length_cons, List.length_nil] at this; omega)]
    exact hK2
  simp only [s_6_23, s_6_24, s_6_25, s_6_27, cl (show 5 < 2 ^ 31 by omega), nI_pos (show 5 < 2 ^ 31 by omega), (show 5 ≤ 100000000 by omega), kk2, not_false_eq_true, and_self, true_and]
  refine Nw_go (P := fun g => Wp 6 30 [.ref r] [] g Q) (fun h3 g2 => ?_)
  have L3 := NwL_snoc hr L2 g2
  have hK3 : vh_K h3 r = 103 := (L3.2.1 r hr).1.trans hK
  have kk3 : vh_K (vh_new h3 1 5 5) r = 103 := by
    have := L3.1.1
    rw [vh_K_new, if_neg (by simp only [List.length_append, List.length_cons, List.length_nil] at this; omega)]
    exact hK3
  simp only [s_6_30, s_6_31, s_6_32, s_6_34, cl (show 5 < 2 ^ 31 by omega), nI_pos (show 5 < 2 ^ 31 by omega), (show 5 ≤ 100000000 by omega), kk3, not_false_eq_true, and_self, true_and]
  refine Nw_go (P := fun g => Wp 6 37 [.ref r] [] g Q) (fun h4 g3 => ?_)
  have L4 := NwL_snoc hr L3 g3
  have hK4 : vh_K h4 r = 103 := (L4.2.1 r hr).1.trans hK
  exact hQ h4 L4
