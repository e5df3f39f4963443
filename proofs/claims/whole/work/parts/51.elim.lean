-- ===== CASES: how many numbers for variables there are, one variable folded or fixed at a time =====
theorem sv_Perm {f : (Nat → Nat) → Nat} {l l' : List Nat} (p : l.Perm l') : ∀ e, sv_S f l e = sv_S f l' e := by
  induction p with
  | nil => intro e; rfl
  | cons x _ ih => intro e; exact sg_congr (fun n _ => ih _)
  | swap x y t =>
    intro e
    by_cases h : x = y
    · subst h; rfl
    · exact sv_perm h
  | trans _ _ h1 h2 => intro e; exact (h1 e).trans (h2 e)
/-- the sum over the numbers of all six variables -/
def S6 (f : (Nat → Nat) → Nat) : Nat := sv_S f [0, 1, 2, 3, 4, 5] (fun _ => 0)
theorem S6_congr {f g : (Nat → Nat) → Nat} (h : ∀ w, (∀ u, u < 6 → w u < 32) → f w = g w) : S6 f = S6 g :=
  sv_congr (fun e' _ h2 => h e' (fun u hu => h2 u (by
    have : u = 0 ∨ u = 1 ∨ u = 2 ∨ u = 3 ∨ u = 4 ∨ u = 5 := by omega
    simpa using this)))
theorem S6_mulL (c : Nat) (f : (Nat → Nat) → Nat) : S6 (fun w => c * f w) = c * S6 f := sv_mulL c f _ _
theorem S6_sg (f : Nat → (Nat → Nat) → Nat) (m : Nat) : S6 (fun w => sg_S (fun n => f n w) m) = sg_S (fun n => S6 (f n)) m := sv_sg f m _ _
/-- sums are alike when they are alike over one variable -/
theorem S6_mar {f g : (Nat → Nat) → Nat} {v : Nat} (hv : v < 6) (h : ∀ w, (∀ u, u < 6 → u ≠ v → w u < 32) → sg_S (fun n => f (sv_set w v n)) 32 = sg_S (fun n => g (sv_set w v n)) 32) : S6 f = S6 g := by
  have e : ∃ t, ([0, 1, 2, 3, 4, 5] : List Nat).Perm (v :: t) ∧ v ∉ t ∧ (∀ u, u < 6 → u ≠ v → u ∈ t) := by
    have : v = 0 ∨ v = 1 ∨ v = 2 ∨ v = 3 ∨ v = 4 ∨ v = 5 := by omega
    rcases this with rfl | rfl | rfl | rfl | rfl | rfl
    · exact ⟨[1, 2, 3, 4, 5], by decide, by decide, by decide⟩
    · exact ⟨[0, 2, 3, 4, 5], by decide, by decide, by decide⟩
    · exact ⟨[0, 1, 3, 4, 5], by decide, by decide, by decide⟩
    · exact ⟨[0, 1, 2, 4, 5], by decide, by decide, by decide⟩
    · exact ⟨[0, 1, 2, 3, 5], by decide, by decide, by decide⟩
    · exact ⟨[0, 1, 2, 3, 4], by decide, by decide, by decide⟩
  obtain ⟨t, p, n, m⟩ := e
  unfold S6
  rw [sv_Perm p, sv_Perm p, sv_last n, sv_last n]
  exact sv_congr (fun e' _ h2 => h e' (fun u hu hne => h2 u (m u hu hne)))
/-- a product over the first k variables -/
def pz (g : Nat → Nat → Nat) (w : Nat → Nat) : Nat → Nat
  | 0 => 1
  | k + 1 => pz g w k * g k (w k)
theorem pz_congr {g g' : Nat → Nat → Nat} {w w' : Nat → Nat} : ∀ {k : Nat}, (∀ v, v < k → g v (w v) = g' v (w' v)) → pz g w k = pz g' w' k
  | 0, _ => rfl
  | k + 1, h => by
    show pz g w k * _ = pz g' w' k * _
    rw [pz_congr (k := k) (fun v hv => h v (by omega)), h k (by omega)]
/-- without the factor of v -/
def p1 (g : Nat → Nat → Nat) (v : Nat) : Nat → Nat → Nat := fun u n => if u = v then 1 else g u n
theorem pz_out (g : Nat → Nat → Nat) (w : Nat → Nat) {v : Nat} : ∀ {k : Nat}, v < k → pz g w k = g v (w v) * pz (p1 g v) w k
  | 0, h => absurd h (by omega)
  | k + 1, h => by
    show pz g w k * g k (w k) = g v (w v) * (pz (p1 g v) w k * p1 g v k (w k))
    by_cases e : v = k
    · subst e
      rw [show p1 g v v (w v) = 1 by simp [p1], Nat.mul_one, Nat.mul_comm]
      congr 1
      exact pz_congr (fun u hu => by unfold p1; rw [if_neg (by omega)])
    · rw [pz_out (v := v) (k := k) g w (by omega), show p1 g v k (w k) = g k (w k) by unfold p1; rw [if_neg (by omega)], Nat.mul_assoc]
theorem pz_out' (g : Nat → Nat → Nat) (w : Nat → Nat) {v k : Nat} (n : Nat) (h : v < k) : pz g (sv_set w v n) k = g v n * pz (p1 g v) w k := by
  rw [pz_out g _ h, sv_set_same]
  congr 1
  refine pz_congr (fun u _ => ?_)
  unfold p1
  by_cases e : u = v
  · rw [if_pos e, if_pos e]
  · rw [if_neg e, if_neg e, sv_set_ne _ _ e]
/-- the links between free variables hold -/
def lk (F : Nat → Bool) (E : Nat → Nat → Bool) (A : Nat → Nat → Nat → Nat → Bool) (w : Nat → Nat) : Prop := ∀ u v, u < 6 → v < 6 → F u = true → F v = true → E u v = true → A u v (w u) (w v) = true
/-- F without v -/
def fo (F : Nat → Bool) (v : Nat) : Nat → Bool := fun u => F u && !decide (u = v)
theorem fo_t {F : Nat → Bool} {v u : Nat} : fo F v u = true ↔ F u = true ∧ u ≠ v := by simp [fo]
/-- links go both ways, and from no variable to itself -/
def sy (E : Nat → Nat → Bool) (A : Nat → Nat → Nat → Nat → Bool) : Prop := ∀ u v, u < 6 → v < 6 → E u v = true → (u ≠ v ∧ E v u = true ∧ ∀ n m, n < 32 → m < 32 → A u v n m = A v u m n)
theorem lk_split {F : Nat → Bool} {E : Nat → Nat → Bool} {A : Nat → Nat → Nat → Nat → Bool} {w : Nat → Nat} {v n : Nat} (hs : sy E A) (hv : v < 6) (hF : F v = true) (hn : n < 32) (hw : ∀ u, u < 6 → u ≠ v → w u < 32) : lk F E A (sv_set w v n) ↔ lk (fo F v) E A w ∧ ∀ u, u < 6 → fo F v u = true → E v u = true → A v u n (w u) = true := by
  constructor
  · intro h
    refine ⟨fun a b ha hb fa fb hE => ?_, fun u hu fu hE => ?_⟩
    · have := h a b ha hb (fo_t.mp fa).1 (fo_t.mp fb).1 hE
      rw [sv_set_ne _ _ (fo_t.mp fa).2, sv_set_ne _ _ (fo_t.mp fb).2] at this
      exact this
    · have := h v u hv hu hF (fo_t.mp fu).1 hE
      rw [sv_set_same, sv_set_ne _ _ (fo_t.mp fu).2] at this
      exact this
  · rintro ⟨h1, h2⟩ a b ha hb fa fb hE
    by_cases ea : a = v
    · subst ea
      have hne := (hs a b ha hb hE).1
      rw [sv_set_same, sv_set_ne _ _ (fun q => hne q.symm)]
      exact h2 b hb (fo_t.mpr ⟨fb, fun q => hne q.symm⟩) hE
    · rw [sv_set_ne _ _ ea]
      by_cases eb : b = v
      · subst eb
        have s := hs a b ha hb hE
        rw [sv_set_same, s.2.2 _ _ (hw a ha ea) hn]
        exact h2 a ha (fo_t.mpr ⟨fa, ea⟩) s.2.1
      · rw [sv_set_ne _ _ eb]
        exact h1 a b ha hb (fo_t.mpr ⟨fa, ea⟩) (fo_t.mpr ⟨fb, eb⟩) hE
/-- what numbers for the variables weigh -/
noncomputable def vl (F : Nat → Bool) (E : Nat → Nat → Bool) (A : Nat → Nat → Nat → Nat → Bool) (G : Nat → Nat → Nat) (w : Nat → Nat) : Nat := @ite Nat (lk F E A w) (Classical.propDecidable _) (pz G w 6) 0
/-- 1 at 0 alone: a variable that is gone -/
def g0 (n : Nat) : Nat := if n = 0 then 1 else 0
theorem sg_g0 (c : Nat) : sg_S (fun n => g0 n * c) 32 = c := by
  rw [sg_one (k := 0) (by omega) (fun i _ hi => by unfold g0; rw [if_neg hi, Nat.zero_mul])]
  simp [g0]
noncomputable def bi (p : Prop) : Nat := @ite Nat p (Classical.propDecidable _) 1 0
theorem bi_t {p : Prop} (h : p) : bi p = 1 := if_pos h
theorem bi_f {p : Prop} (h : ¬ p) : bi p = 0 := if_neg h
theorem bi_and (p q : Prop) : bi (p ∧ q) = bi p * bi q := by
  by_cases hp : p
  · by_cases hq : q
    · rw [bi_t hp, bi_t hq, bi_t ⟨hp, hq⟩]
    · rw [bi_t hp, bi_f hq, bi_f (fun z => hq z.2)]
  · rw [bi_f hp, bi_f (fun z => hp z.1), Nat.zero_mul]
theorem bi_c {p q : Prop} (h : p ↔ q) : bi p = bi q := by rw [propext h]
theorem bi_0 {p : Prop} : bi p ≠ 0 ↔ p := by
  by_cases h : p
  · rw [bi_t h]; simp [h]
  · rw [bi_f h]; simp [h]
theorem vl_bi (F : Nat → Bool) (E : Nat → Nat → Bool) (A : Nat → Nat → Nat → Nat → Bool) (G : Nat → Nat → Nat) (w : Nat → Nat) : vl F E A G w = bi (lk F E A w) * pz G w 6 := by
  unfold vl
  by_cases h : lk F E A w
  · rw [if_pos h, bi_t h, Nat.one_mul]
  · rw [if_neg h, bi_f h, Nat.zero_mul]
/-- the sum with one side wish c -/
noncomputable def N6 (c : (Nat → Nat) → Prop) (F : Nat → Bool) (E : Nat → Nat → Bool) (A : Nat → Nat → Nat → Nat → Bool) (G : Nat → Nat → Nat) : Nat := S6 (fun w => bi (c w) * vl F E A G w)
/-- a variable with at most one neighbour u is folded into it -/
def gF (A : Nat → Nat → Nat → Nat → Bool) (G : Nat → Nat → Nat) (v u : Nat) : Nat → Nat → Nat := fun t m => if t = v then g0 m else if t = u then G u m * sg_S (fun n => G v n * (if A v u n m = true then 1 else 0)) 32 else G t m
theorem N6_fold {c : (Nat → Nat) → Prop} {F : Nat → Bool} {E : Nat → Nat → Bool} {A : Nat → Nat → Nat → Nat → Bool} {G : Nat → Nat → Nat} {v u : Nat} (hs : sy E A) (hv : v < 6) (hu : u < 6) (hF : F v = true) (hFu : F u = true) (huv : u ≠ v) (hE : E v u = true) (ho : ∀ t, t < 6 → fo F v t = true → E v t = true → t = u) (hc : ∀ w n, c (sv_set w v n) ↔ c w) : N6 c F E A G = N6 c (fo F v) E A (gF A G v u) := by
  unfold N6
  refine S6_mar hv (fun w hw => ?_)
  have e1 : ∀ n, n < 32 → bi (c (sv_set w v n)) * vl F E A G (sv_set w v n) = (bi (c w) * bi (lk (fo F v) E A w) * pz (p1 G v) w 6) * (G v n * (if A v u n (w u) = true then 1 else 0)) := by
    intro n hn
    rw [vl_bi, pz_out' G w n hv, bi_c (hc w n), bi_c (lk_split hs hv hF hn hw), bi_and]
    have : bi (∀ t, t < 6 → fo F v t = true → E v t = true → A v t n (w t) = true) = if A v u n (w u) = true then 1 else 0 := by
      by_cases q : A v u n (w u) = true
      · rw [if_pos q, bi_t]
        intro t h1 h2 h3
        rw [ho t h1 h2 h3]
        exact q
      · rw [if_neg q, bi_f]
        intro z
        exact q (z u hu (fo_t.mpr ⟨hFu, huv⟩) hE)
    rw [this]
    simp only [Nat.mul_assoc, Nat.mul_left_comm, Nat.mul_comm]
  have e2 : ∀ n, n < 32 → bi (c (sv_set w v n)) * vl (fo F v) E A (gF A G v u) (sv_set w v n) = g0 n * ((bi (c w) * bi (lk (fo F v) E A w) * pz (p1 G v) w 6) * sg_S (fun n => G v n * (if A v u n (w u) = true then 1 else 0)) 32) := by
    intro n hn
    rw [vl_bi, pz_out' _ w n hv, bi_c (hc w n)]
    have l : lk (fo F v) E A (sv_set w v n) ↔ lk (fo F v) E A w := by
      constructor
      · intro h a b ha hb fa fb hE
        have := h a b ha hb fa fb hE
        rw [sv_set_ne _ _ (fo_t.mp fa).2, sv_set_ne _ _ (fo_t.mp fb).2] at this
        exact this
      · intro h a b ha hb fa fb hE
        rw [sv_set_ne _ _ (fo_t.mp fa).2, sv_set_ne _ _ (fo_t.mp fb).2]
        exact h a b ha hb fa fb hE
    have z : gF A G v u v n = g0 n := by unfold gF; rw [if_pos rfl]
    have y : pz (p1 (gF A G v u) v) w 6 = pz (p1 G v) w 6 * sg_S (fun n => G v n * (if A v u n (w u) = true then 1 else 0)) 32 := by
      rw [pz_out (p1 (gF A G v u) v) w hu, pz_out (p1 G v) w hu]
      have a1 : p1 (gF A G v u) v u (w u) = G u (w u) * sg_S (fun n => G v n * (if A v u n (w u) = true then 1 else 0)) 32 := by
        unfold p1 gF
        rw [if_neg huv, if_neg huv, if_pos rfl]
      have a2 : p1 G v u (w u) = G u (w u) := by
        unfold p1
        rw [if_neg huv]
      have a3 : pz (p1 (p1 (gF A G v u) v) u) w 6 = pz (p1 (p1 G v) u) w 6 := by
        refine pz_congr (fun t _ => ?_)
        unfold p1
        by_cases h1 : t = u
        · rw [if_pos h1, if_pos h1]
        · rw [if_neg h1, if_neg h1]
          by_cases h2 : t = v
          · rw [if_pos h2, if_pos h2]
          · rw [if_neg h2, if_neg h2]
            unfold gF
            rw [if_neg h2, if_neg h1]
      rw [a1, a2, a3]
      simp only [Nat.mul_assoc, Nat.mul_left_comm, Nat.mul_comm]
    rw [bi_c l, z, y]
    simp only [Nat.mul_assoc, Nat.mul_left_comm, Nat.mul_comm]
  rw [sg_congr e1, sg_congr e2, sg_g0, sg_mulL]
/-- a variable without neighbours -/
def gD (G : Nat → Nat → Nat) (v : Nat) : Nat → Nat → Nat := fun t m => if t = v then g0 m else G t m
theorem N6_drop {c : (Nat → Nat) → Prop} {F : Nat → Bool} {E : Nat → Nat → Bool} {A : Nat → Nat → Nat → Nat → Bool} {G : Nat → Nat → Nat} {v : Nat} (hs : sy E A) (hv : v < 6) (hF : F v = true) (ho : ∀ t, t < 6 → fo F v t = true → ¬ E v t = true) (hc : ∀ w n, c (sv_set w v n) ↔ c w) : N6 c F E A G = sg_S (fun n => G v n) 32 * N6 c (fo F v) E A (gD G v) := by
  unfold N6
  rw [← S6_mulL]
  refine S6_mar hv (fun w hw => ?_)
  have e1 : ∀ n, n < 32 → bi (c (sv_set w v n)) * vl F E A G (sv_set w v n) = (bi (c w) * bi (lk (fo F v) E A w) * pz (p1 G v) w 6) * G v n := by
    intro n hn
    rw [vl_bi, pz_out' G w n hv, bi_c (hc w n), bi_c (lk_split hs hv hF hn hw), bi_and]
    rw [bi_t (p := ∀ t, t < 6 → fo F v t = true → E v t = true → A v t n (w t) = true) (fun t h1 h2 h3 => absurd h3 (ho t h1 h2))]
    simp only [Nat.mul_assoc, Nat.mul_left_comm, Nat.mul_comm, Nat.mul_one, Nat.one_mul]
  have e2 : ∀ n, n < 32 → sg_S (fun n => G v n) 32 * (bi (c (sv_set w v n)) * vl (fo F v) E A (gD G v) (sv_set w v n)) = g0 n * ((bi (c w) * bi (lk (fo F v) E A w) * pz (p1 G v) w 6) * sg_S (fun n => G v n) 32) := by
    intro n hn
    rw [vl_bi, pz_out' _ w n hv, bi_c (hc w n)]
    have l : lk (fo F v) E A (sv_set w v n) ↔ lk (fo F v) E A w := by
      constructor
      · intro h a b ha hb fa fb hE
        have := h a b ha hb fa fb hE
        rw [sv_set_ne _ _ (fo_t.mp fa).2, sv_set_ne _ _ (fo_t.mp fb).2] at this
        exact this
      · intro h a b ha hb fa fb hE
        rw [sv_set_ne _ _ (fo_t.mp fa).2, sv_set_ne _ _ (fo_t.mp fb).2]
        exact h a b ha hb fa fb hE
    have z : gD G v v n = g0 n := by unfold gD; rw [if_pos rfl]
    have y : pz (p1 (gD G v) v) w 6 = pz (p1 G v) w 6 := by
      refine pz_congr (fun t _ => ?_)
      unfold p1
      by_cases h2 : t = v
      · rw [if_pos h2, if_pos h2]
      · rw [if_neg h2, if_neg h2]
        unfold gD
        rw [if_neg h2]
    rw [bi_c l, z, y]
    simp only [Nat.mul_assoc, Nat.mul_left_comm, Nat.mul_comm]
  rw [sg_congr e1, sg_congr e2, sg_g0, sg_mulL]
/-- variable v has the number n -/
def gX (F : Nat → Bool) (E : Nat → Nat → Bool) (A : Nat → Nat → Nat → Nat → Bool) (G : Nat → Nat → Nat) (v n : Nat) : Nat → Nat → Nat := fun t m => if t = v then g0 m else if F t = true ∧ E v t = true then G t m * (if A v t n m = true then 1 else 0) else G t m
theorem pz_gX {F : Nat → Bool} {E : Nat → Nat → Bool} {A : Nat → Nat → Nat → Nat → Bool} {G : Nat → Nat → Nat} {v n : Nat} {w : Nat → Nat} : ∀ k : Nat, pz (p1 (gX F E A G v n) v) w k = pz (p1 G v) w k * bi (∀ t, t < k → fo F v t = true → E v t = true → A v t n (w t) = true)
  | 0 => by
    rw [bi_t (fun t h => absurd h (by omega))]
    rfl
  | k + 1 => by
    show pz (p1 (gX F E A G v n) v) w k * _ = (pz (p1 G v) w k * _) * _
    rw [pz_gX k]
    have s : (∀ t, t < k + 1 → fo F v t = true → E v t = true → A v t n (w t) = true) ↔ (∀ t, t < k → fo F v t = true → E v t = true → A v t n (w t) = true) ∧ (fo F v k = true → E v k = true → A v k n (w k) = true) := by
      constructor
      · intro h
        exact ⟨fun t ht => h t (by omega), h k (by omega)⟩
      · rintro ⟨h1, h2⟩ t ht
        rcases Nat.lt_or_ge t k with q | q
        · exact h1 t q
        · rw [show t = k by omega]
          exact h2
    rw [bi_c s, bi_and]
    have y : p1 (gX F E A G v n) v k (w k) = p1 G v k (w k) * bi (fo F v k = true → E v k = true → A v k n (w k) = true) := by
      unfold p1
      by_cases h1 : k = v
      · rw [if_pos h1, if_pos h1, bi_t (fun h => absurd h1 (fo_t.mp h).2)]
      · rw [if_neg h1, if_neg h1]
        unfold gX
        rw [if_neg h1]
        by_cases h2 : F k = true ∧ E v k = true
        · rw [if_pos h2]
          congr 1
          by_cases h3 : A v k n (w k) = true
          · rw [if_pos h3, bi_t (fun _ _ => h3)]
          · rw [if_neg h3, bi_f (fun q => h3 (q (fo_t.mpr ⟨h2.1, h1⟩) h2.2))]
        · rw [if_neg h2, bi_t (fun q1 q2 => absurd ⟨(fo_t.mp q1).1, q2⟩ h2), Nat.mul_one]
    rw [y]
    simp only [Nat.mul_assoc, Nat.mul_left_comm, Nat.mul_comm]
theorem N6_at {c : (Nat → Nat) → Prop} {F : Nat → Bool} {E : Nat → Nat → Bool} {A : Nat → Nat → Nat → Nat → Bool} {G : Nat → Nat → Nat} {v k : Nat} (hs : sy E A) (hv : v < 6) (hk : k < 32) (hF : F v = true) (hc : ∀ w n, c (sv_set w v n) ↔ c w) : N6 (fun w => c w ∧ w v = k) F E A G = G v k * N6 c (fo F v) E A (gX F E A G v k) := by
  unfold N6
  rw [← S6_mulL]
  refine S6_mar hv (fun w hw => ?_)
  have e1 : ∀ n, n < 32 → n ≠ k → bi (c (sv_set w v n) ∧ sv_set w v n v = k) * vl F E A G (sv_set w v n) = 0 := by
    intro n hn hne
    rw [bi_f (by rw [sv_set_same]; exact fun z => hne z.2), Nat.zero_mul]
  have e2 : ∀ n, n < 32 → G v k * (bi (c (sv_set w v n)) * vl (fo F v) E A (gX F E A G v k) (sv_set w v n)) = g0 n * (bi (c w) * (bi (lk (fo F v) E A w) * (G v k * (pz (p1 G v) w 6 * bi (∀ t, t < 6 → fo F v t = true → E v t = true → A v t k (w t) = true))))) := by
    intro n hn
    rw [vl_bi, pz_out' _ w n hv, bi_c (hc w n)]
    have l : lk (fo F v) E A (sv_set w v n) ↔ lk (fo F v) E A w := by
      constructor
      · intro h a b ha hb fa fb hE
        have := h a b ha hb fa fb hE
        rw [sv_set_ne _ _ (fo_t.mp fa).2, sv_set_ne _ _ (fo_t.mp fb).2] at this
        exact this
      · intro h a b ha hb fa fb hE
        rw [sv_set_ne _ _ (fo_t.mp fa).2, sv_set_ne _ _ (fo_t.mp fb).2]
        exact h a b ha hb fa fb hE
    have z : gX F E A G v k v n = g0 n := by unfold gX; rw [if_pos rfl]
    rw [bi_c l, z, pz_gX]
    simp only [Nat.mul_assoc, Nat.mul_left_comm, Nat.mul_comm]
  rw [sg_one hk (fun n hn hne => e1 n hn hne), sg_congr e2, sg_g0]
  rw [vl_bi, pz_out' G w k hv, bi_c (lk_split hs hv hF hk hw), bi_and, bi_and, bi_c (hc w k), bi_t (p := sv_set w v k v = k) (sv_set_same w v k)]
  simp only [Nat.mul_assoc, Nat.mul_left_comm, Nat.mul_comm, Nat.one_mul, Nat.mul_one]
theorem N6_all {c : (Nat → Nat) → Prop} {F : Nat → Bool} {E : Nat → Nat → Bool} {A : Nat → Nat → Nat → Nat → Bool} {G : Nat → Nat → Nat} {v : Nat} (hv : v < 6) : N6 c F E A G = sg_S (fun k => N6 (fun w => c w ∧ w v = k) F E A G) 32 := by
  unfold N6
  rw [← S6_sg]
  refine S6_congr (fun w hw => ?_)
  rw [sg_one (k := w v) (hw v hv) (fun i _ hi => by rw [bi_f (fun z => hi z.2.symm), Nat.zero_mul])]
  rw [bi_c (q := c w ∧ w v = w v) ⟨fun h => ⟨h, rfl⟩, fun h => h.1⟩]
theorem sv_zero : ∀ (t : List Nat) (e : Nat → Nat), sv_S (fun _ => 0) t e = 0
  | [], _ => rfl
  | v :: t, e => sg_eq0.mpr (fun n _ => sv_zero t _)
/-- a sum with one term alone -/
theorem sv_one {f : (Nat → Nat) → Nat} {a : Nat → Nat} : ∀ {t : List Nat} {e : Nat → Nat}, t.Nodup → (∀ u, u ∈ t → a u < 32) → (∀ w, (∀ u, u ∉ t → w u = e u) → (∀ u, u ∈ t → w u < 32) → (∃ u, u ∈ t ∧ w u ≠ a u) → f w = 0) → ∃ w, sv_S f t e = f w ∧ (∀ u, u ∈ t → w u = a u) ∧ ∀ u, u ∉ t → w u = e u
  | [], e, _, _, _ => ⟨e, rfl, fun u hu => absurd hu (by simp), fun _ _ => rfl⟩
  | v :: t, e, hn, ha, h => by
    have hvt : v ∉ t := (List.nodup_cons.mp hn).1
    obtain ⟨w, w1, w2, w3⟩ := sv_one (f := f) (a := a) (t := t) (e := sv_set e v (a v)) (List.nodup_cons.mp hn).2 (fun u hu => ha u (List.mem_cons_of_mem _ hu)) (fun w h1 h2 h3 => by
      obtain ⟨u, hu, hne⟩ := h3
      refine h w (fun x hx => ?_) (fun x hx => ?_) ⟨u, List.mem_cons_of_mem _ hu, hne⟩
      · have hx : x ≠ v ∧ x ∉ t := by simpa using hx
        rw [h1 x hx.2, sv_set_ne _ _ hx.1]
      · by_cases hxt : x ∈ t
        · exact h2 x hxt
        · have : x = v := by
            rcases List.mem_cons.mp hx with q | q
            · exact q
            · exact absurd q hxt
          rw [this, h1 v hvt, sv_set_same]
          exact ha v List.mem_cons_self)
    refine ⟨w, ?_, fun u hu => ?_, fun u hu => ?_⟩
    · rw [← w1]
      show sg_S (fun n => sv_S f t (sv_set e v n)) 32 = _
      rw [sg_one (k := a v) (ha v List.mem_cons_self)]
      intro n hn' hne
      rw [← sv_zero t (sv_set e v n)]
      refine sv_congr (fun e' h1 h2 => ?_)
      refine h e' (fun x hx => ?_) (fun x hx => ?_) ⟨v, List.mem_cons_self, ?_⟩
      · have hx : x ≠ v ∧ x ∉ t := by simpa using hx
        rw [h1 x hx.2, sv_set_ne _ _ hx.1]
      · by_cases hxt : x ∈ t
        · exact h2 x hxt
        · have : x = v := by
            rcases List.mem_cons.mp hx with q | q
            · exact q
            · exact absurd q hxt
          rw [this, h1 v hvt, sv_set_same]
          exact hn'
      · rw [h1 v hvt, sv_set_same]
        exact hne
    · by_cases hut : u ∈ t
      · exact w2 u hut
      · have : u = v := by
          rcases List.mem_cons.mp hu with q | q
          · exact q
          · exact absurd q hut
        rw [this, w3 v hvt, sv_set_same]
    · have hx : u ≠ v ∧ u ∉ t := by simpa using hu
      rw [w3 u hx.2, sv_set_ne _ _ hx.1]
theorem S6_one {f : (Nat → Nat) → Nat} {a : Nat → Nat} (ha : ∀ u, u < 6 → a u < 32) (h : ∀ w, (∀ u, u < 6 → w u < 32) → (∃ u, u < 6 ∧ w u ≠ a u) → f w = 0) : ∃ w, S6 f = f w ∧ ∀ u, u < 6 → w u = a u := by
  have m : ∀ u, u ∈ [0, 1, 2, 3, 4, 5] ↔ u < 6 := by
    intro u
    constructor
    · intro h
      have : u = 0 ∨ u = 1 ∨ u = 2 ∨ u = 3 ∨ u = 4 ∨ u = 5 := by simpa using h
      omega
    · intro h
      have : u = 0 ∨ u = 1 ∨ u = 2 ∨ u = 3 ∨ u = 4 ∨ u = 5 := by omega
      simpa using this
  obtain ⟨w, w1, w2, _⟩ := sv_one (f := f) (a := a) (t := [0, 1, 2, 3, 4, 5]) (e := fun _ => 0) (by decide) (fun u hu => ha u ((m u).mp hu)) (fun w _ h2 h3 => by
    obtain ⟨u, hu, hne⟩ := h3
    exact h w (fun x hx => h2 x ((m x).mpr hx)) ⟨u, (m u).mp hu, hne⟩)
  exact ⟨w, w1, fun u hu => w2 u ((m u).mpr hu)⟩
/-- a factor that is 0 makes the product 0 -/
theorem pz_0 {g : Nat → Nat → Nat} {w : Nat → Nat} {v : Nat} : ∀ {k : Nat}, v < k → g v (w v) = 0 → pz g w k = 0
  | 0, h, _ => absurd h (by omega)
  | k + 1, h, h0 => by
    show pz g w k * g k (w k) = 0
    by_cases e : v = k
    · subst e
      rw [h0, Nat.mul_zero]
    · rw [pz_0 (k := k) (v := v) (by omega) h0, Nat.zero_mul]
theorem pz_1 {g : Nat → Nat → Nat} {w : Nat → Nat} : ∀ {k : Nat}, (∀ v, v < k → g v (w v) = 1) → pz g w k = 1
  | 0, _ => rfl
  | k + 1, h => by
    show pz g w k * g k (w k) = 1
    rw [pz_1 (k := k) (fun v hv => h v (by omega)), h k (by omega)]
/-- nothing is free any more -/
theorem N6_none {c : (Nat → Nat) → Prop} {F : Nat → Bool} {E : Nat → Nat → Bool} {A : Nat → Nat → Nat → Nat → Bool} {G : Nat → Nat → Nat} (hF : ∀ v, v < 6 → F v = false) (hG : ∀ v n, v < 6 → G v n = g0 n) (hc : ∀ w w', (∀ u, u < 6 → w u = w' u) → (c w ↔ c w')) : N6 c F E A G = bi (c (fun _ => 0)) := by
  unfold N6
  have e : ∀ w : Nat → Nat, bi (c w) * vl F E A G w = bi (c w) * pz G w 6 := by
    intro w
    rw [vl_bi, bi_t (p := lk F E A w) (fun u v hu _ fu => by rw [hF u hu] at fu; cases fu), Nat.one_mul]
  obtain ⟨w, w1, w2⟩ := S6_one (f := fun w => bi (c w) * vl F E A G w) (a := fun _ => 0) (fun _ _ => by omega) (fun w _ h => by
    obtain ⟨u, hu, hne⟩ := h
    show bi (c w) * vl F E A G w = 0
    rw [e, pz_0 hu (by rw [hG u _ hu]; unfold g0; rw [if_neg hne]), Nat.mul_zero])
  rw [w1, e, pz_1 (fun v hv => by rw [hG v _ hv, w2 v hv]; rfl), Nat.mul_one]
  exact bi_c (hc w _ w2)
/-- a variable whose numbers are all gone -/
theorem N6_0 {c : (Nat → Nat) → Prop} {F : Nat → Bool} {E : Nat → Nat → Bool} {A : Nat → Nat → Nat → Nat → Bool} {G : Nat → Nat → Nat} {v : Nat} (hv : v < 6) (h : ∀ n, n < 32 → G v n = 0) : N6 c F E A G = 0 := by
  unfold N6
  have : S6 (fun w => bi (c w) * vl F E A G w) = S6 (fun _ => 0) := by
    refine S6_congr (fun w hw => ?_)
    rw [vl_bi, pz_0 hv (h _ (hw v hv)), Nat.mul_zero, Nat.mul_zero]
  rw [this]
  exact sv_zero _ _
theorem N6_congr {c c' : (Nat → Nat) → Prop} {F F' : Nat → Bool} {E : Nat → Nat → Bool} {A : Nat → Nat → Nat → Nat → Bool} {G G' : Nat → Nat → Nat} (h1 : ∀ w, (∀ u, u < 6 → w u < 32) → (c w ↔ c' w)) (h2 : ∀ v, v < 6 → F v = F' v) (h3 : ∀ v n, v < 6 → n < 32 → G v n = G' v n) : N6 c F E A G = N6 c' F' E A G' := by
  unfold N6
  refine S6_congr (fun w hw => ?_)
  rw [bi_c (h1 w hw), vl_bi, vl_bi]
  congr 1
  have : lk F E A w ↔ lk F' E A w := by
    constructor
    · intro h u v hu hv fu fv
      exact h u v hu hv (by rw [h2 u hu]; exact fu) (by rw [h2 v hv]; exact fv)
    · intro h u v hu hv fu fv
      exact h u v hu hv (by rw [← h2 u hu]; exact fu) (by rw [← h2 v hv]; exact fv)
  rw [bi_c this]
  congr 1
  exact pz_congr (fun v hv => h3 v _ hv (hw v hv))
