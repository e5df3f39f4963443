-- ===== tuples of facts and numbers for variables =====
def sl (g : (Nat → Nat) → Nat) : List (Nat → Nat) → Nat
  | [] => 0
  | t :: l => g t + sl g l
theorem sl_app (g : (Nat → Nat) → Nat) : ∀ (l l' : List (Nat → Nat)), sl g (l ++ l') = sl g l + sl g l'
  | [], l' => (Nat.zero_add _).symm
  | t :: l, l' => by
    show g t + sl g (l ++ l') = g t + sl g l + sl g l'
    rw [sl_app g l l']; omega
/-- the numbers that a tuple gives -/
def vtp (ρ t : Nat → Nat) : Nat → Nat := fun v => match TL ρ (plx ρ) (fun k => t k - 1) (npc ρ) with
  | some u => if u v = 32 then 0 else u v
  | none => 0
theorem vtp_s {ρ t u : Nat → Nat} (h : TL ρ (plx ρ) (fun k => t k - 1) (npc ρ) = some u) (v : Nat) : vtp ρ t v = if u v = 32 then 0 else u v := by
  unfold vtp
  rw [h]
def agr (u w : Nat → Nat) : Prop := ∀ v, v < 6 → u v < 32 → w v = u v
theorem asg_some {u u' w : Nat → Nat} {t a : Nat} (ht : t < 38) (ha : a < 32) (h : asg u t a = some u') : agr u' w ↔ agr u w ∧ iv w t = a := by
  unfold asg at h
  unfold iv
  by_cases q : t < 32
  · rw [if_pos q] at h ⊢
    by_cases q2 : t = a
    · rw [if_pos q2] at h; cases h
      exact ⟨fun z => ⟨z, q2⟩, fun z => z.1⟩
    · rw [if_neg q2] at h; cases h
  · rw [if_neg q] at h ⊢
    by_cases q2 : u (t - 32) = 32 ∨ u (t - 32) = a
    · rw [if_pos q2] at h; cases h
      constructor
      · intro z
        have zv := z (t - 32) (by omega) (by rw [sv_set_same]; exact ha)
        rw [sv_set_same] at zv
        refine ⟨fun v hv hlt => ?_, zv⟩
        by_cases e : v = t - 32
        · subst e
          rcases q2 with q2 | q2
          · omega
          · rw [q2]; exact zv
        · have := z v hv (by rw [sv_set_ne _ _ e]; exact hlt)
          rw [sv_set_ne _ _ e] at this
          exact this
      · rintro ⟨z1, z2⟩ v hv hlt
        by_cases e : v = t - 32
        · subst e; rw [sv_set_same]; exact z2
        · rw [sv_set_ne _ _ e] at hlt ⊢
          exact z1 v hv hlt
    · rw [if_neg q2] at h; cases h
theorem asg_none {u w : Nat → Nat} {t a : Nat} (ht : t < 38) (hu : ∀ v, u v ≤ 32) (h : asg u t a = none) : ¬ (agr u w ∧ iv w t = a) := by
  unfold asg at h
  unfold iv
  rintro ⟨z1, z2⟩
  by_cases q : t < 32
  · rw [if_pos q] at h z2
    rw [if_pos z2] at h; cases h
  · rw [if_neg q] at h z2
    by_cases q2 : u (t - 32) = 32 ∨ u (t - 32) = a
    · rw [if_pos q2] at h; cases h
    · have := hu (t - 32)
      have e := z1 (t - 32) (by omega) (by omega)
      exact q2 (Or.inr (by rw [← e]; exact z2))
def plq (H : Nat → Nat → Nat → Bool) (ρ : Nat → Nat) (d : Nat) (w : Nat → Nat) : Prop := ∀ j, d ≤ j → j < npc ρ → H (ρ (11 + 4 * plx ρ j)) (iv w (ρ (12 + 4 * plx ρ j))) (iv w (ρ (13 + 4 * plx ρ j))) = true
def nzr (ρ w : Nat → Nat) : Prop := ∀ v, v < 6 → oc ρ (ρ 5) v = false → w v = 0
theorem npl_c {H : Nat → Nat → Nat → Bool} {ρ w w' : Nat → Nat} (e : ∀ p, p < ρ 5 → iv w (ρ (12 + 4 * p)) = iv w' (ρ (12 + 4 * p)) ∧ iv w (ρ (13 + 4 * p)) = iv w' (ρ (13 + 4 * p))) : npl H ρ (ρ 5) w ↔ npl H ρ (ρ 5) w' := by
  constructor
  · intro z p hp hn
    rw [← (e p hp).1, ← (e p hp).2]; exact z p hp hn
  · intro z p hp hn
    rw [(e p hp).1, (e p hp).2]; exact z p hp hn
/-- what the sum over all numbers counts at depth d -/
def Fq (O : Nat → Bool) (ρ : Nat → Nat) (d : Nat) (u w : Nat → Nat) : Prop := agr u w ∧ plq (fun n a b => O (1024 * n + 32 * a + b)) ρ d w ∧ npl (fun n a b => O (1024 * n + 32 * a + b)) ρ (ρ 5) w ∧ nzr ρ w
theorem sl_LC {g : (Nat → Nat) → Nat} {F : (Nat → Nat) → List (Nat → Nat)} {ok : (Nat → Nat) → Prop} {d b : Nat} {P : Nat → Nat} : ∀ k, sl g (LC F ok d b P k) = sg_S (fun j => bi (ok (sv_set P d (b + 1024 - j))) * sl g (F (sv_set P d (b + 1024 - j)))) k
  | 0 => rfl
  | k + 1 => by
    show sl g ((@ite (List (Nat → Nat)) (ok (sv_set P d (b + 1024 - k))) (Classical.propDecidable _) (F (sv_set P d (b + 1024 - k))) []) ++ LC F ok d b P k) = _
    rw [sl_app, sl_LC k, sg_succ, Nat.add_comm]
    congr 1
    by_cases q : ok (sv_set P d (b + 1024 - k))
    · rw [if_pos q, bi_t q, Nat.one_mul]
    · rw [if_neg q, bi_f q, Nat.zero_mul]; rfl
theorem tuples {O : Nat → Bool} {ρ : Nat → Nat} {G : (Nat → Nat) → Nat} (hok : okR ρ) (hsf : sf ρ) (hG : ∀ w w', (∀ u, u < 6 → w u = w' u) → G w = G w') :
    ∀ (e d : Nat), d + e = npc ρ → ∀ (P u : Nat → Nat), TL ρ (plx ρ) (fun k => P k - 1) d = some u → sl (fun t => G (vtp ρ t)) (LSn ρ O e d P) = S6 (fun w => bi (Fq O ρ d u w) * G w)
  | 0, d, hd, P, u, hu => by
    have hd' : d = npc ρ := by omega
    subst hd'
    have hb := TL_safe hsf hok hu
    have ub := TL_b hu
    have occ : ∀ v, v < 6 → u v = 32 → oc ρ (ρ 5) v = false := by
      intro v hv h32
      cases ho : oc ρ (ρ 5) v with
      | false => rfl
      | true =>
        obtain ⟨p, hp, hx⟩ := oc_t.mp ho
        have := hb p hp
        rcases hx with hx | hx
        · have := this.1 (by omega); rw [hx, show 32 + v - 32 = v by omega] at this; omega
        · have := this.2 (by omega); rw [hx, show 32 + v - 32 = v by omega] at this; omega
    obtain ⟨w0, e0, e1⟩ := S6_one (f := fun w => bi (Fq O ρ (npc ρ) u w) * G w) (a := fun v => if u v = 32 then 0 else u v) (fun v _ => by
      have := ub v
      show (if u v = 32 then 0 else u v) < 32
      split <;> omega) (fun w hw ⟨v, hv, hne⟩ => by
      show bi (Fq O ρ (npc ρ) u w) * G w = 0
      rw [bi_f, Nat.zero_mul]
      rintro ⟨z1, _, _, z4⟩
      refine hne ?_
      show w v = if u v = 32 then 0 else u v
      by_cases q : u v = 32
      · rw [if_pos q]; exact z4 v hv (occ v hv q)
      · rw [if_neg q]; exact z1 v hv (by have := ub v; omega))
    have ivu : ∀ p, p < ρ 5 → iv w0 (ρ (12 + 4 * p)) = iv u (ρ (12 + 4 * p)) ∧ iv w0 (ρ (13 + 4 * p)) = iv u (ρ (13 + 4 * p)) := by
      intro p hp
      have o := hok.2 p hp
      have one : ∀ t, t < 38 → (32 ≤ t → u (t - 32) < 32) → iv w0 t = iv u t := by
        intro t ht hlt
        unfold iv
        by_cases q : t < 32
        · rw [if_pos q, if_pos q]
        · rw [if_neg q, if_neg q, e1 _ (by omega), if_neg (by have := hlt (by omega); omega)]
      exact ⟨one _ o.2.1 (hb p hp).1, one _ o.2.2.1 (hb p hp).2⟩
    have eq : Fq O ρ (npc ρ) u w0 ↔ leafP ρ O P := by
      constructor
      · rintro ⟨_, _, z3, _⟩
        exact ⟨u, hu, (npl_c ivu).mp z3⟩
      · rintro ⟨u', z1, z2⟩
        rw [hu] at z1
        cases z1
        refine ⟨fun v hv hlt => ?_, fun j h1 h2 => absurd h2 (by omega), (npl_c ivu).mpr z2, fun v hv ho => ?_⟩
        · rw [e1 v hv, if_neg (by omega)]
        · rw [e1 v hv]
          by_cases q : u v = 32
          · rw [if_pos q]
          · exfalso
            have hlt : u v < 32 := by have := ub v; omega
            -- a told variable stands in a plain part
            have : oc ρ (ρ 5) v = true := by
              refine Classical.byContradiction (fun no => q ?_)
              have keep : ∀ n u', n ≤ npc ρ → TL ρ (plx ρ) (fun k => P k - 1) n = some u' → u' v = 32 := by
                intro n
                induction n with
                | zero => intro u' _ z; cases z; rfl
                | succ n ih =>
                  intro u' hn z
                  have z : (TL ρ (plx ρ) (fun k => P k - 1) n).bind _ = some u' := z
                  obtain ⟨u1, h1, h2⟩ := Option.bind_eq_some_iff.mp z
                  obtain ⟨u2, h3, h4⟩ := Option.bind_eq_some_iff.mp h2
                  have i1 := ih u1 (by omega) h1
                  have pk := plx_ok (ρ := ρ) (d := n) (by omega)
                  have one : ∀ (a b : Nat → Nat) (t x : Nat), asg a t x = some b → a v = 32 → t ≠ 32 + v → t < 38 → b v = 32 := by
                    intro a b t x ha hv32 hne ht
                    unfold asg at ha
                    by_cases q1 : t < 32
                    · rw [if_pos q1] at ha
                      by_cases q2 : t = x
                      · rw [if_pos q2] at ha; cases ha; exact hv32
                      · rw [if_neg q2] at ha; cases ha
                    · rw [if_neg q1] at ha
                      by_cases q2 : a (t - 32) = 32 ∨ a (t - 32) = x
                      · rw [if_pos q2] at ha; cases ha
                        rw [sv_set_ne _ _ (by omega)]; exact hv32
                      · rw [if_neg q2] at ha; cases ha
                  have o := hok.2 _ pk.1
                  have i2 := one u1 u2 _ _ h3 i1 (fun z => no (oc_t.mpr ⟨_, pk.1, Or.inl z⟩)) o.2.1
                  exact one u2 u' _ _ h4 i2 (fun z => no (oc_t.mpr ⟨_, pk.1, Or.inr z⟩)) o.2.2.1
              exact keep (npc ρ) u (Nat.le_refl _) hu
            rw [this] at ho
            cases ho
    have eG : G w0 = G (vtp ρ P) := hG _ _ (fun v hv => by rw [e1 v hv, vtp_s hu])
    rw [e0]
    show sl _ (@ite (List (Nat → Nat)) (leafP ρ O P) (Classical.propDecidable _) [P] []) = bi (Fq O ρ (npc ρ) u w0) * G w0
    by_cases q : leafP ρ O P
    · rw [if_pos q, bi_t (eq.mpr q), Nat.one_mul, eG]
      show G (vtp ρ P) + 0 = _
      rw [Nat.add_zero]
    · rw [if_neg q, bi_f (fun z => q (eq.mp z)), Nat.zero_mul]
      rfl
  | e + 1, d, hd, P, u, hu => by
    have hdn : d < npc ρ := by omega
    obtain ⟨o1, o2⟩ := plx_ok hdn
    have oo := hok.2 _ o1
    have ub := TL_b hu
    show sl _ (LC (LSn ρ O e (d + 1)) (okP ρ O d) d (ba ρ d) P 1024) = _
    rw [sl_LC]
    -- split the sum by the fact of this depth
    have split : S6 (fun w => bi (Fq O ρ d u w) * G w) = sg_S (fun j => S6 (fun w => bi (Fq O ρ d u w ∧ 32 * iv w (ρ (12 + 4 * plx ρ d)) + iv w (ρ (13 + 4 * plx ρ d)) + j = 1023) * G w)) 1024 := by
      rw [← S6_sg]
      refine S6_congr (fun w hw => ?_)
      have hx := iv_lt oo.2.1 hw
      have hy := iv_lt oo.2.2.1 hw
      rw [sg_one (k := 1023 - (32 * iv w (ρ (12 + 4 * plx ρ d)) + iv w (ρ (13 + 4 * plx ρ d)))) (by omega) (fun j _ hj => by rw [bi_f (fun z => hj (by have := z.2; omega)), Nat.zero_mul])]
      rw [bi_c (q := Fq O ρ d u w ∧ 32 * iv w (ρ (12 + 4 * plx ρ d)) + iv w (ρ (13 + 4 * plx ρ d)) + (1023 - (32 * iv w (ρ (12 + 4 * plx ρ d)) + iv w (ρ (13 + 4 * plx ρ d)))) = 1023) ⟨fun z => ⟨z, by omega⟩, fun z => z.1⟩]
    rw [split]
    refine sg_congr (fun j hj => ?_)
    have pc1 : sv_set P d (ba ρ d + 1024 - j) d - 1 = ba ρ d + 1023 - j := by rw [sv_set_same]; omega
    have hTL : TL ρ (plx ρ) (fun k => sv_set P d (ba ρ d + 1024 - j) k - 1) (d + 1) = (asg u (ρ (12 + 4 * plx ρ d)) ((ba ρ d + 1023 - j) / 32 % 32)).bind (fun u' => asg u' (ρ (13 + 4 * plx ρ d)) ((ba ρ d + 1023 - j) % 32)) := by
      show (TL ρ (plx ρ) (fun k => sv_set P d (ba ρ d + 1024 - j) k - 1) d).bind _ = _
      rw [TL_c (cd' := fun k => P k - 1) (fun k hk => by rw [sv_set_ne _ _ (by omega)]), hu]
      show (asg u _ ((sv_set P d (ba ρ d + 1024 - j) d - 1) / 32 % 32)).bind (fun u' => asg u' _ ((sv_set P d (ba ρ d + 1024 - j) d - 1) % 32)) = _
      rw [pc1]
    have eb : ba ρ d = 1024 * ρ (11 + 4 * plx ρ d) := rfl
    have ea : (ba ρ d + 1023 - j) / 32 % 32 = (1023 - j) / 32 := by omega
    have ec : (ba ρ d + 1023 - j) % 32 = (1023 - j) % 32 := by omega
    have hcode : ∀ a b, a < 32 → b < 32 → (32 * a + b + j = 1023 ↔ a = (1023 - j) / 32 ∧ b = (1023 - j) % 32) := by
      intro a b _ _
      constructor
      · intro z; constructor <;> omega
      · rintro ⟨z1, z2⟩; omega
    rw [ea, ec] at hTL
    have hplq : ∀ w, plq (fun n a b => O (1024 * n + 32 * a + b)) ρ d w ↔ O (1024 * ρ (11 + 4 * plx ρ d) + 32 * iv w (ρ (12 + 4 * plx ρ d)) + iv w (ρ (13 + 4 * plx ρ d))) = true ∧ plq (fun n a b => O (1024 * n + 32 * a + b)) ρ (d + 1) w := by
      intro w
      constructor
      · intro z; exact ⟨z d (Nat.le_refl _) hdn, fun jj h1 h2 => z jj (by omega) h2⟩
      · rintro ⟨z1, z2⟩ jj h1 h2
        by_cases q : jj = d
        · subst q; exact z1
        · exact z2 jj (by omega) h2
    by_cases q : okP ρ O d (sv_set P d (ba ρ d + 1024 - j))
    · rw [bi_t q, Nat.one_mul]
      cases hT : TL ρ (plx ρ) (fun k => sv_set P d (ba ρ d + 1024 - j) k - 1) (d + 1) with
      | none => exact absurd hT q.2
      | some u' =>
        rw [tuples hok hsf hG e (d + 1) (by omega) (sv_set P d (ba ρ d + 1024 - j)) u' hT]
        refine S6_congr (fun w hw => ?_)
        have hx := iv_lt oo.2.1 hw
        have hy := iv_lt oo.2.2.1 hw
        rw [hTL] at hT
        obtain ⟨u1, h3, h4⟩ := Option.bind_eq_some_iff.mp hT
        have qO := q.1
        rw [pc1] at qO
        refine congrArg (fun z => z * G w) (bi_c ?_)
        unfold Fq
        rw [asg_some oo.2.2.1 (Nat.mod_lt _ (by omega)) h4, asg_some oo.2.1 (by omega) h3, hplq w, hcode _ _ hx hy]
        constructor
        · rintro ⟨⟨⟨z1, z2⟩, z3⟩, z4, z5⟩
          refine ⟨⟨z1, ⟨?_, z4⟩, z5⟩, z2, z3⟩
          rw [z2, z3, show 1024 * ρ (11 + 4 * plx ρ d) + 32 * ((1023 - j) / 32) + (1023 - j) % 32 = ba ρ d + 1023 - j by omega]
          exact qO
        · rintro ⟨⟨z1, ⟨_, z4⟩, z5⟩, z2, z3⟩
          exact ⟨⟨⟨z1, z2⟩, z3⟩, z4, z5⟩
    · rw [bi_f q, Nat.zero_mul]
      have : S6 (fun w => bi (Fq O ρ d u w ∧ 32 * iv w (ρ (12 + 4 * plx ρ d)) + iv w (ρ (13 + 4 * plx ρ d)) + j = 1023) * G w) = S6 (fun _ => 0) := by
        refine S6_congr (fun w hw => ?_)
        have hx := iv_lt oo.2.1 hw
        have hy := iv_lt oo.2.2.1 hw
        rw [bi_f, Nat.zero_mul]
        rintro ⟨⟨z1, z2, _⟩, z3⟩
        rw [hcode _ _ hx hy] at z3
        have zO := ((hplq w).mp z2).1
        rw [z3.1, z3.2, show 1024 * ρ (11 + 4 * plx ρ d) + 32 * ((1023 - j) / 32) + (1023 - j) % 32 = ba ρ d + 1023 - j by omega] at zO
        refine q ⟨by rw [pc1]; exact zO, ?_⟩
        rw [hTL]
        cases h3 : asg u (ρ (12 + 4 * plx ρ d)) ((1023 - j) / 32) with
        | none => exact absurd ⟨z1, z3.1⟩ (asg_none oo.2.1 ub h3)
        | some u1 =>
          show asg u1 _ _ ≠ none
          intro h4
          exact asg_none oo.2.2.1 (asg_b (by omega) h3 ub) h4 ⟨(asg_some oo.2.1 (by omega) h3).mpr ⟨z1, z3.1⟩, z3.2⟩
      rw [this]
      exact (sv_zero _ _).symm
/-- all tuples of a rule: its cases -/
theorem tuples_CT {O : Nat → Bool} {ρ P : Nat → Nat} {a b : Nat} (hok : okR ρ) (hsf : sf ρ) : sl (fun t => bi (iv (vtp ρ t) (ρ 1) = a ∧ iv (vtp ρ t) (sec ρ) = b)) (LSn ρ O (npc ρ) 0 P) = CT (fun _ n x y => O (1024 * n + 32 * x + y)) ρ a b := by
  rw [tuples (G := fun w => bi (iv w (ρ 1) = a ∧ iv w (sec ρ) = b)) hok hsf (fun w w' h => by rw [iv_c hok.1.2.1 h, iv_c hok.1.2.2.1 h]) (npc ρ) 0 (by omega) P (fun _ => 32) rfl]
  unfold CT
  refine S6_congr (fun w hw => ?_)
  rw [← bi_and]
  refine bi_c (and_congr ?_ Iff.rfl)
  unfold Fq
  rw [ph_all]
  constructor
  · rintro ⟨_, z2, z3, z4⟩
    refine ⟨fun p hp => ?_, z4⟩
    by_cases q : ρ (10 + 4 * p) = 3
    · obtain ⟨d, hd, e⟩ := plx_all hp q
      have := z2 d (Nat.zero_le _) hd
      rw [e] at this
      unfold pA
      rw [if_pos q]
      exact this
    · exact z3 p hp q
  · rintro ⟨z1, z4⟩
    refine ⟨fun v _ h => absurd (show 32 < 32 from h) (by omega), fun j _ hj => ?_, fun p hp _ => z1 p hp, z4⟩
    obtain ⟨o1, o2⟩ := plx_ok hj
    have := z1 _ o1
    unfold pA at this
    rw [if_pos o2] at this
    exact this
