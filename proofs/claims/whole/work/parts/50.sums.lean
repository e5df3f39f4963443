-- ===== SUMS over 0 .. n-1, and over numbers for variables =====
def sg_S (f : Nat → Nat) : Nat → Nat
  | 0 => 0
  | n + 1 => sg_S f n + f n
theorem sg_congr {f g : Nat → Nat} : ∀ {n : Nat}, (∀ i, i < n → f i = g i) → sg_S f n = sg_S g n
  | 0, _ => rfl
  | n + 1, h => by
    show sg_S f n + f n = sg_S g n + g n
    rw [sg_congr (n := n) (fun i hi => h i (by omega)), h n (by omega)]
theorem sg_add (f g : Nat → Nat) : ∀ n : Nat, sg_S (fun i => f i + g i) n = sg_S f n + sg_S g n
  | 0 => rfl
  | n + 1 => by
    show sg_S (fun i => f i + g i) n + (f n + g n) = (sg_S f n + f n) + (sg_S g n + g n)
    rw [sg_add f g n]
    omega
theorem sg_mulL (c : Nat) (f : Nat → Nat) : ∀ n : Nat, sg_S (fun i => c * f i) n = c * sg_S f n
  | 0 => by simp [sg_S]
  | n + 1 => by
    show sg_S (fun i => c * f i) n + c * f n = c * (sg_S f n + f n)
    rw [sg_mulL c f n, Nat.mul_add]
theorem sg_mulR (c : Nat) (f : Nat → Nat) (n : Nat) : sg_S (fun i => f i * c) n = sg_S f n * c := by
  rw [Nat.mul_comm, ← sg_mulL]
  exact sg_congr (fun i _ => Nat.mul_comm _ _)
theorem sg_zero : ∀ n : Nat, sg_S (fun _ => 0) n = 0
  | 0 => rfl
  | n + 1 => by
    show sg_S (fun _ => 0) n + 0 = 0
    rw [sg_zero n]
theorem sg_swap (f : Nat → Nat → Nat) (m : Nat) : ∀ n : Nat, sg_S (fun i => sg_S (fun j => f i j) m) n = sg_S (fun j => sg_S (fun i => f i j) n) m
  | 0 => (sg_zero m).symm
  | n + 1 => by
    show sg_S (fun i => sg_S (fun j => f i j) m) n + sg_S (fun j => f n j) m = sg_S (fun j => sg_S (fun i => f i j) n + f n j) m
    rw [sg_swap f m n, ← sg_add]
theorem sg_eq0 {f : Nat → Nat} : ∀ {n : Nat}, sg_S f n = 0 ↔ ∀ i, i < n → f i = 0
  | 0 => ⟨fun _ i hi => absurd hi (by omega), fun _ => rfl⟩
  | n + 1 => by
    show sg_S f n + f n = 0 ↔ _
    rw [Nat.add_eq_zero_iff, sg_eq0 (n := n)]
    constructor
    · rintro ⟨h1, h2⟩ i hi
      rcases Nat.lt_or_ge i n with q | q
      · exact h1 i q
      · rw [show i = n by omega]; exact h2
    · intro h
      exact ⟨fun i hi => h i (by omega), h n (by omega)⟩
theorem sg_one {f : Nat → Nat} {k : Nat} : ∀ {n : Nat}, k < n → (∀ i, i < n → i ≠ k → f i = 0) → sg_S f n = f k
  | 0, hk, _ => absurd hk (by omega)
  | n + 1, hk, h => by
    show sg_S f n + f n = f k
    by_cases e : k = n
    · subst e
      rw [sg_eq0.mpr (fun i hi => h i (by omega) (by omega)), Nat.zero_add]
    · rw [sg_one (n := n) (by omega) (fun i hi => h i (by omega)), h n (by omega) (fun q => e q.symm), Nat.add_zero]
/-- numbers for variables -/
def sv_set (e : Nat → Nat) (v n : Nat) : Nat → Nat := fun u => if u = v then n else e u
theorem sv_set_same (e : Nat → Nat) (v n : Nat) : sv_set e v n v = n := by simp [sv_set]
theorem sv_set_ne (e : Nat → Nat) {v u : Nat} (n : Nat) (h : u ≠ v) : sv_set e v n u = e u := by simp [sv_set, h]
theorem sv_set_set (e : Nat → Nat) (v n m : Nat) : sv_set (sv_set e v n) v m = sv_set e v m := by
  funext u
  by_cases h : u = v <;> simp [sv_set, h]
theorem sv_set_comm (e : Nat → Nat) {v u : Nat} (n m : Nat) (h : u ≠ v) : sv_set (sv_set e v n) u m = sv_set (sv_set e u m) v n := by
  funext w
  by_cases h1 : w = u
  · subst h1
    simp [sv_set, h]
  · by_cases h2 : w = v
    · subst h2
      simp [sv_set, h1]
    · simp [sv_set, h1, h2]
def sv_S (f : (Nat → Nat) → Nat) : List Nat → (Nat → Nat) → Nat
  | [], e => f e
  | v :: t, e => sg_S (fun n => sv_S f t (sv_set e v n)) 32
theorem sv_congr {f g : (Nat → Nat) → Nat} : ∀ {vs : List Nat} {e : Nat → Nat}, (∀ e', (∀ u, u ∉ vs → e' u = e u) → (∀ u, u ∈ vs → e' u < 32) → f e' = g e') → sv_S f vs e = sv_S g vs e
  | [], e, h => h e (fun _ _ => rfl) (fun _ hu => absurd hu (by simp))
  | v :: t, e, h => by
    refine sg_congr (fun n hn => sv_congr (fun e' h1 h2 => ?_))
    refine h e' (fun u hu => ?_) (fun u hu => ?_)
    · have hu : u ≠ v ∧ u ∉ t := by simpa using hu
      rw [h1 u hu.2, sv_set_ne _ _ hu.1]
    · by_cases hut : u ∈ t
      · exact h2 u hut
      · have : u = v := by
          rcases List.mem_cons.mp hu with q | q
          · exact q
          · exact absurd q hut
        subst this
        rw [h1 u hut, sv_set_same]
        exact hn
theorem sv_mulL (c : Nat) (f : (Nat → Nat) → Nat) : ∀ (vs : List Nat) (e : Nat → Nat), sv_S (fun e => c * f e) vs e = c * sv_S f vs e
  | [], _ => rfl
  | v :: t, e => by
    show sg_S (fun n => sv_S (fun e => c * f e) t (sv_set e v n)) 32 = c * sg_S (fun n => sv_S f t (sv_set e v n)) 32
    rw [← sg_mulL]
    exact sg_congr (fun n _ => sv_mulL c f t _)
theorem sv_sg (f : Nat → (Nat → Nat) → Nat) (m : Nat) : ∀ (vs : List Nat) (e : Nat → Nat), sv_S (fun e => sg_S (fun n => f n e) m) vs e = sg_S (fun n => sv_S (f n) vs e) m
  | [], _ => rfl
  | v :: t, e => by
    show sg_S (fun k => sv_S (fun e => sg_S (fun n => f n e) m) t (sv_set e v k)) 32 = sg_S (fun n => sg_S (fun k => sv_S (f n) t (sv_set e v k)) 32) m
    rw [sg_congr (fun k _ => sv_sg f m t (sv_set e v k))]
    exact sg_swap (fun k n => sv_S (f n) t (sv_set e v k)) m 32
/-- the first variable may as well be the last one -/
theorem sv_last {f : (Nat → Nat) → Nat} {v : Nat} : ∀ {t : List Nat} {e : Nat → Nat}, v ∉ t → sv_S f (v :: t) e = sv_S (fun e => sg_S (fun n => f (sv_set e v n)) 32) t e
  | [], _, _ => rfl
  | u :: t, e, h => by
    have hu : u ≠ v ∧ v ∉ t := by
      refine ⟨fun q => h (by rw [q]; exact List.mem_cons_self), fun q => h (List.mem_cons_of_mem _ q)⟩
    show sg_S (fun n => sg_S (fun k => sv_S f t (sv_set (sv_set e v n) u k)) 32) 32 = sg_S (fun k => sv_S (fun e => sg_S (fun n => f (sv_set e v n)) 32) t (sv_set e u k)) 32
    rw [sg_swap (fun n k => sv_S f t (sv_set (sv_set e v n) u k)) 32 32]
    refine sg_congr (fun k _ => ?_)
    rw [← sv_last hu.2]
    show sg_S (fun n => sv_S f t (sv_set (sv_set e v n) u k)) 32 = sg_S (fun n => sv_S f t (sv_set (sv_set e u k) v n)) 32
    exact sg_congr (fun n _ => by rw [sv_set_comm e n k hu.1])
theorem sv_perm {f : (Nat → Nat) → Nat} {v u : Nat} {t : List Nat} {e : Nat → Nat} (h : u ≠ v) : sv_S f (v :: u :: t) e = sv_S f (u :: v :: t) e := by
  show sg_S (fun n => sg_S (fun k => sv_S f t (sv_set (sv_set e v n) u k)) 32) 32 = sg_S (fun k => sg_S (fun n => sv_S f t (sv_set (sv_set e u k) v n)) 32) 32
  rw [sg_swap (fun n k => sv_S f t (sv_set (sv_set e v n) u k)) 32 32]
  exact sg_congr (fun k _ => sg_congr (fun n _ => by rw [sv_set_comm e n k h]))
