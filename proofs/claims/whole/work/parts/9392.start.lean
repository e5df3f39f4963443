-- ===== the state both constructors leave =====
theorem SX_0 (ρs : Nat → Nat → Nat) : SX ρs 0 16 (fun _ => 0) := by
  have nd : ∀ n m, ¬ bND ρs 0 n m = true := fun n m z => by
    obtain ⟨i, hi, _⟩ := (@decide_eq_true_iff _ (Classical.propDecidable _)).mp z
    omega
  have sd : ∀ n m, ¬ bSD ρs 0 n m = true := fun n m z => by
    obtain ⟨i, hi, _⟩ := (@decide_eq_true_iff _ (Classical.propDecidable _)).mp z
    omega
  refine ⟨Or.inr ⟨rfl, fun n _ z => ?_⟩, fun _ => ⟨⟨fun n m _ _ z => absurd z (nd n m), fun g _ n _ => Nat.zero_le _⟩, fun _ _ => Nat.zero_le _⟩, fun z => absurd z (by omega)⟩
  obtain ⟨m, _, z1, _⟩ := z
  exact sd n m z1
theorem FIN_0 (ρs : Nat → Nat → Nat) (S : Nat → Nat → Nat → Bool) : FIN ρs 0 16 (fun _ => 0) S S 0 (fun _ _ _ => 0) := by
  obtain ⟨u1, u2, u3⟩ := itr_up (ρs := ρs) (c := 0) (lv := fun _ => 0) (S := S) (j := 0) (L := 0) (fun i hi => absurd hi (Nat.not_lt_zero i)) (Nat.zero_le _) (Nat.zero_le _) 16 (by show 0 + 16 ≤ 16; omega)
  refine Or.inl ⟨rfl, 0 + 16, ?_, ?_, ?_, ?_⟩
  · rw [u1]; show 16 ≤ 0 + 16; omega
  · rw [u3]; rfl
  · rw [u2]; rfl
  · rw [u3]; rfl
theorem start_CC {h h' : vt_H} {w : Nat} (hI : IE h) (n1 : vh_n h = 129) (a : GW h h' 129 20 w) : CC h' (vh_u h' + 16384) (fun _ _ => 0) 0 (fun _ _ _ => false) := by
  obtain ⟨⟨e1, e2, e3, e4, e5, e6⟩, zS, ⟨⟨q1, q2, q3, q4, q5, q6, q7⟩, hSO, f1, hC, ⟨⟨w1, w2⟩, w3⟩, ⟨a1, a2⟩, f2, f3, ⟨i1, i2, i3, i4⟩, i5, i6⟩, ⟨⟨k1, k2⟩, k3⟩, i03⟩ := hI
  have rr : ∀ b j, b < 129 → vh_R h' b j = vh_R h b j := fun b j hb => (a.2.2.1 b j (by omega) (by omega)).2
  have ii : ∀ b j, b < 129 → vh_I h' b j = vh_I h b j := fun b j hb => (a.2.2.1 b j (by omega) (by omega)).1
  have k : ∀ b, b < 129 → vh_K h' b = vh_K h b := fun b hb => (a.2.1 b (by omega)).1
  have z : ∀ b, b < 129 → vh_Z h' b = vh_Z h b := fun b hb => (a.2.1 b (by omega)).2
  have nn : vh_n h' = 149 := by rw [a.1.1, n1]
  have sgn : sg_S (fun n => if 25 + n < 41 then 1 else 0) 16 = 16 := by decide
  have f0 : ∀ b j, (∀ j, vh_I h b j = 0) → b < 129 → ∀ i, bt (vh_I h' b j) i = false := fun b j hz hb i => by rw [ii b j hb, hz j, b_0]
  have hFR : ∀ s g, s < 129 → g < 129 → (∀ j, vh_I h s j = 0) → (∀ j, vh_I h g j = 0) → FR (vh_I h') s g (fun _ _ _ => false) := fun s g hs hg zs zg n a b _ _ _ => ⟨f0 s _ zs hs _, f0 g _ zg hg _⟩
  have FNz : FN (0 : Int32) (fun _ _ _ => false) := ⟨fun n _ => by
    rw [b_0]
    exact ⟨fun z => Bool.noConfusion z, fun ⟨_, _, _, _, z⟩ => Bool.noConfusion z⟩, fun n _ _ => b_0 n⟩
  refine ⟨42, 45, fun n => 25 + n, fun i => 49 + 5 * i, ⟨⟨⟨(k 0 (by omega)).trans e1, (rr 0 0 (by omega)).trans e2, (rr 0 1 (by omega)).trans e3, (rr 0 2 (by omega)).trans e4, (k 4 (by omega)).trans e5, FT_GW a e6 (by omega) (by omega) (by omega) (by omega)⟩, ⟨(rr 4 2 (by omega)).trans q1, (rr 4 6 (by omega)).trans q5, (k 41 (by omega)).trans a1, (z 41 (by omega)).trans a2⟩, ?_, ⟨(k 4 (by omega)).trans e5, (rr 4 3 (by omega)).trans q2, (rr 4 4 (by omega)).trans q3, (rr 4 7 (by omega)).trans q6, (rr 4 8 (by omega)).trans q7, FT_GW a f1 (by omega) (by omega) (by omega) (by omega), FT_GW a f2 (by omega) (by omega) (by omega) (by omega), FT_GW a f3 (by omega) (by omega) (by omega) (by omega), CL_GW (by omega) a (by omega) hC, Or.inl ⟨rfl, rfl⟩⟩, ⟨⟨(k 24 (by omega)).trans w1, (z 24 (by omega)).trans w2, (rr 4 5 (by omega)).trans q4⟩, fun n hn => ?_, fun n m _ _ e => by have e : 25 + n = 25 + m := e; omega, by omega, ⟨by rw [sgn, nn], by rw [sgn]⟩⟩, ⟨⟨(k 48 (by omega)).trans k1, (z 48 (by omega)).trans k2⟩, fun i hi => ?_⟩⟩, ⟨by omega, fun i hi => absurd hi (Nat.not_lt_zero i)⟩, ?_, hFR 2 3 (by omega) (by omega) (fun j => zS 2 j (Or.inl rfl)) (fun j => zS 3 j (Or.inr rfl)), ⟨hFR 43 44 (by omega) (by omega) (fun j => i6 43 j (by omega)) (fun j => i6 44 j (by omega)), hFR 46 47 (by omega) (by omega) (fun j => i6 46 j (by omega)) (fun j => i6 47 j (by omega)), ?_, ?_⟩, fun _ => ?_⟩, ⟨fun i hi => ⟨i, hi, rfl⟩, fun i j _ _ e => by have e : 49 + 5 * i = 49 + 5 * j := e; omega⟩⟩
  · obtain ⟨s1, s2, s3, s4, s5, ⟨s6, s7⟩, ⟨s8, s9⟩, ⟨s10, s11⟩, ⟨s12, s13⟩⟩ := hSO
    exact ⟨(k 5 (by omega)).trans s1, (rr 5 0 (by omega)).trans s2, (rr 5 1 (by omega)).trans s3, (rr 5 2 (by omega)).trans s4, (rr 5 3 (by omega)).trans s5, ⟨(k 6 (by omega)).trans s6, (z 6 (by omega)).trans s7⟩, ⟨(k 7 (by omega)).trans s8, (z 7 (by omega)).trans s9⟩, ⟨(k 8 (by omega)).trans s10, (z 8 (by omega)).trans s11⟩, ⟨(k 9 (by omega)).trans s12, (z 9 (by omega)).trans s13⟩⟩
  · obtain ⟨y1, y2, y3⟩ := w3 n hn
    dsimp only
    exact ⟨(rr 24 n (by omega)).trans y1, (k _ (by omega)).trans y2, Or.inl ⟨(z _ (by omega)).trans y3, by omega, by omega⟩⟩
  · obtain ⟨y1, y2⟩ := k3 i hi
    dsimp only
    exact ⟨(rr 48 i (by omega)).trans y1, RL_GW a y2 (by omega) (by omega), by omega, by omega⟩
  · rw [ii 0 3 (by omega), i03]; rfl
  · rw [ii 4 9 (by omega), i3]; exact FNz
  · rw [ii 4 10 (by omega), i4]; exact FNz
  · refine ⟨16, fun _ => 0, fun _ _ _ => false, 0, fun _ _ _ => 0, SX_0 _, ?_, fun n hn => ?_, hFR 11 12 (by omega) (by omega) (fun j => i6 11 j (by omega)) (fun j => i6 12 j (by omega)), ?_, fun n a b _ _ _ z => Bool.noConfusion z, FIN_0 _ _⟩
    · rw [ii 5 4 (by omega), i5]; rfl
    · rw [ii 9 n (by omega), i6 9 n (by omega)]; rfl
    · rw [ii 4 1 (by omega), i2]; rfl
theorem start_MM {h : vt_H} (hM : MZ h) (z : ∀ a, 129 ≤ a → a < 149 → ∀ j, vh_I h a j = 0) : MM h (fun _ _ => 0) 0 (fun _ _ _ => false) := by
  refine ⟨hM, ⟨by omega, by rw [z 129 (by omega) (by omega)]; rfl, fun i hi => absurd hi (Nat.not_lt_zero i)⟩, fun x hx => by rw [z 130 (by omega) (by omega)]; rfl, fun w => absurd (z 129 (by omega) (by omega) 7) w⟩
