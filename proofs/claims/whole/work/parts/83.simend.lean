/-- WHAT THE SMALL MACHINE DOES, THE MACHINE DOES -/
theorem vt_sim {m pc : Nat} {ls st : List Value} {h : vt_H} {Q : vt_Q} (w : Wp m pc ls st h Q) : ∃ v h', Q v h' ∧ (vh_n h ≤ vh_n h' ∧ vh_u h ≤ vh_u h' ∧ vh_X h' = vh_X h ∧ vh_L h' = vh_L h) ∧ vt_Ex m pc ls st h v h' := by
  refine w (fun m pc ls st h Q => ∃ v h', Q v h' ∧ (vh_n h ≤ vh_n h' ∧ vh_u h ≤ vh_u h' ∧ vh_X h' = vh_X h ∧ vh_L h' = vh_L h) ∧ vt_Ex m pc ls st h v h') ?_ ?_
  · rintro m pc ls st h Q1 Q2 hQ ⟨v, h', q, g⟩
    exact ⟨v, h', hQ _ _ q, g⟩
  · intro m pc ls st h Q hh
    have hok : vt_okb m pc (vt_i m pc) = true ∨ (vt_i m pc).1 = 999 := vt_ok m pc
    unfold vt_step at hh
    revert hh hok
    generalize hi : vt_i m pc = i
    obtain ⟨op, w, v, a, b, c, e⟩ := i
    intro hh hok
    dsimp only at hh
    split at hh
    · obtain ⟨⟨k1, k2, k3, k4⟩, k5, v1, h1, ⟨v2, h2, q, ⟨m1, m2, m3, m4⟩, g2⟩, ⟨n1, n2, n3, n4⟩, g1⟩ := hh
      have hok := hok.resolve_right (by simp)
      refine ⟨v2, h2, q, ⟨by omega, by omega, m3.trans n3, m4.trans n4⟩, ?_⟩
      intro p l ee Rm s mm args below meth cc Qf base b0 D ca cells slots C Wd hbc hbs hret
      refine sm_call C Wd hok k1 k2 k3 k4 k5 g1 n1 (by omega) (by omega) ?_
      refine g2 p l ee Rm s mm args below meth cc Qf base b0 D ca _ _ C (by rw [n3, n4]; exact Wd) (by omega) (by omega) ?_
      intro pc' ls' hr'
      have k := hret pc' ls' hr'
      rw [show cells + (vh_n h1 - vh_n h) + (vh_n h2 - vh_n h1) = cells + (vh_n h2 - vh_n h) by omega, show slots + (vh_u h1 - vh_u h) + (vh_u h2 - vh_u h1) = slots + (vh_u h2 - vh_u h) by omega]
      exact k
    · have hok := hok.resolve_right (by simp)
      unfold vt_back at hh
      split at hh
      · rename_i x
        refine ⟨_, h, hh.2, ⟨Nat.le_refl _, Nat.le_refl _, rfl, rfl⟩, ?_⟩
        intro p l ee Rm s mm args below meth cc Qf base b0 D ca cells slots C Wd hbc hbs hret
        have k := hret pc ls ⟨by rw [hi]; exact hok, by rw [hi]; exact ⟨rfl, hh.1⟩⟩
        rw [Nat.sub_self, Nat.sub_self] at k
        exact k
      · exact hh.elim
    · have hok := hok.resolve_right (by simp)
      obtain ⟨rfl, hh⟩ := hh
      refine ⟨_, h, hh, ⟨Nat.le_refl _, Nat.le_refl _, rfl, rfl⟩, ?_⟩
      intro p l ee Rm s mm args below meth cc Qf base b0 D ca cells slots C Wd hbc hbs hret
      have k := hret pc ls ⟨by rw [hi]; exact hok, by rw [hi]⟩
      rw [Nat.sub_self, Nat.sub_self] at k
      exact k
    · have hok := hok.resolve_right (by simp)
      unfold vt_backR at hh
      split at hh
      · rename_i v1
        refine ⟨_, h, hh.2, ⟨Nat.le_refl _, Nat.le_refl _, rfl, rfl⟩, ?_⟩
        intro p l ee Rm s mm args below meth cc Qf base b0 D ca cells slots C Wd hbc hbs hret
        have k := hret pc ls ⟨by rw [hi]; exact hok, by rw [hi]; cases v1 <;> first | exact ⟨rfl, hh.1⟩ | (have := hh.1; simp [vt_rv] at this)⟩
        rw [Nat.sub_self, Nat.sub_self] at k
        exact k
      · exact hh.elim
    · obtain ⟨pc', ls', st', h', k1, v2, h2, q, ⟨m1, m2, m3, m4⟩, g2⟩ := hh
      have hok := hok.resolve_right (by
        intro z
        have z : op = 999 := z
        subst z
        simp [vt_nx] at k1)
      obtain ⟨n1, n2, n3, n4⟩ := vt_nx_up k1
      refine ⟨v2, h2, q, ⟨by omega, by omega, m3.trans n3, m4.trans n4⟩, ?_⟩
      intro p l ee Rm s mm args below meth cc Qf base b0 D ca cells slots C Wd hbc hbs hret
      refine sm_all C Wd (cells' := cells + (vh_n h' - vh_n h)) (slots' := slots + (vh_u h' - vh_u h)) rfl rfl (by omega) (by omega) k1 hok ?_
      refine g2 p l ee Rm s mm args below meth cc Qf base b0 D ca _ _ C (by rw [n3, n4]; exact Wd) (by omega) (by omega) ?_
      intro pc' ls' hr'
      have k := hret pc' ls' hr'
      rw [show cells + (vh_n h' - vh_n h) + (vh_n h2 - vh_n h') = cells + (vh_n h2 - vh_n h) by omega, show slots + (vh_u h' - vh_u h) + (vh_u h2 - vh_u h') = slots + (vh_u h2 - vh_u h) by omega]
      exact k
