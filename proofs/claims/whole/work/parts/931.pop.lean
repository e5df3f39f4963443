-- ===== how many bits an int has =====
def MK (w v : Nat) : Nat → Nat
  | 0 => 0
  | K + 1 => (2 ^ v - 1) + 2 ^ w * MK w v K
def DG (w v : Nat) : Nat → Nat → Nat
  | _, 0 => 0
  | n, K + 1 => n % 2 ^ v + 2 ^ w * DG w v (n / 2 ^ w) K
theorem and_split {a m0 m1 w : Nat} (h : m0 < 2 ^ w) : a &&& (m0 + 2 ^ w * m1) = (a % 2 ^ w &&& m0) + 2 ^ w * (a / 2 ^ w &&& m1) := by
  have e1 : (m0 + 2 ^ w * m1) % 2 ^ w = m0 := by rw [Nat.add_mul_mod_self_left, Nat.mod_eq_of_lt h]
  have e2 : (m0 + 2 ^ w * m1) / 2 ^ w = m1 := by rw [Nat.add_mul_div_left _ _ (Nat.two_pow_pos w), Nat.div_eq_of_lt h, Nat.zero_add]
  have r1 : (a &&& (m0 + 2 ^ w * m1)) % 2 ^ w = (a % 2 ^ w) &&& m0 := by rw [Nat.and_mod_two_pow, e1]
  have r2 : (a &&& (m0 + 2 ^ w * m1)) / 2 ^ w = (a / 2 ^ w) &&& m1 := by rw [Nat.and_div_two_pow, e2]
  rw [← r1, ← r2, Nat.mod_add_div]
theorem and_MK {w v : Nat} (h : v ≤ w) (hv : 0 < w) : ∀ (K n : Nat), n &&& MK w v K = DG w v n K
  | 0, n => by show n &&& 0 = 0; exact Nat.and_zero n
  | K + 1, n => by
    show n &&& ((2 ^ v - 1) + 2 ^ w * MK w v K) = n % 2 ^ v + 2 ^ w * DG w v (n / 2 ^ w) K
    have p : 2 ^ v ≤ 2 ^ w := Nat.pow_le_pow_right (by omega) h
    have p0 := Nat.two_pow_pos v
    rw [and_split (by omega), Nat.and_two_pow_sub_one_eq_mod, and_MK h hv K, Nat.mod_mod_of_dvd _ (Nat.pow_dvd_pow 2 h)]
def PC : Nat → Nat → Nat
  | _, 0 => 0
  | n, K + 1 => n % 2 + PC (n / 2) K
def E2 : Nat → Nat → Nat
  | _, 0 => 0
  | n, K + 1 => (n % 2 + n / 2 % 2) + 4 * E2 (n / 4) K
def E4 : Nat → Nat → Nat
  | _, 0 => 0
  | n, K + 1 => (n % 2 + n / 2 % 2 + n / 4 % 2 + n / 8 % 2) + 16 * E4 (n / 16) K
def E8 : Nat → Nat → Nat
  | _, 0 => 0
  | n, K + 1 => (n % 2 + n / 2 % 2 + n / 4 % 2 + n / 8 % 2 + n / 16 % 2 + n / 32 % 2 + n / 64 % 2 + n / 128 % 2) + 256 * E8 (n / 256) K
theorem pop1 : ∀ (K n : Nat), n < 4 ^ K → DG 2 1 (n / 2) K + E2 n K = n
  | 0, n, h => by
    have : n < 1 := h
    show 0 + 0 = n
    omega
  | K + 1, n, h => by
    have h' : n < 4 * 4 ^ K := by rw [Nat.pow_succ] at h; omega
    have ih := pop1 K (n / 4) (by omega)
    show (n / 2 % 2 ^ 1 + 2 ^ 2 * DG 2 1 (n / 2 / 2 ^ 2) K) + ((n % 2 + n / 2 % 2) + 4 * E2 (n / 4) K) = n
    rw [show n / 2 / 2 ^ 2 = n / 4 / 2 by omega]
    omega
theorem pop2 : ∀ (K n : Nat), DG 4 2 (E2 n (2 * K)) K + DG 4 2 (E2 n (2 * K) / 4) K = E4 n K
  | 0, n => rfl
  | K + 1, n => by
    have ih := pop2 K (n / 16)
    have e : E2 n (2 * (K + 1)) = (n % 2 + n / 2 % 2) + 4 * ((n / 4 % 2 + n / 4 / 2 % 2) + 4 * E2 (n / 4 / 4) (2 * K)) := rfl
    rw [show n / 4 / 4 = n / 16 by omega] at e
    generalize E2 n (2 * (K + 1)) = m at e
    show (m % 2 ^ 2 + 2 ^ 4 * DG 4 2 (m / 2 ^ 4) K) + (m / 4 % 2 ^ 2 + 2 ^ 4 * DG 4 2 (m / 4 / 2 ^ 4) K) = (n % 2 + n / 2 % 2 + n / 4 % 2 + n / 8 % 2) + 16 * E4 (n / 16) K
    rw [show m / 2 ^ 4 = E2 (n / 16) (2 * K) by omega, show m / 4 / 2 ^ 4 = E2 (n / 16) (2 * K) / 4 by omega]
    omega
theorem E4_lo (K n : Nat) : E4 n K % 16 ≤ 4 := by
  cases K with
  | zero => show 0 % 16 ≤ 4; omega
  | succ K =>
    show ((n % 2 + n / 2 % 2 + n / 4 % 2 + n / 8 % 2) + 16 * E4 (n / 16) K) % 16 ≤ 4
    have d0 : n % 2 + n / 2 % 2 + n / 4 % 2 + n / 8 % 2 ≤ 4 := by omega
    rw [Nat.add_mul_mod_self_left]
    exact Nat.le_trans (Nat.mod_le _ _) d0
theorem pop3 : ∀ (K n : Nat), DG 8 4 (E4 n (2 * K) + E4 n (2 * K) / 16) K = E8 n K
  | 0, n => rfl
  | K + 1, n => by
    have ih := pop3 K (n / 256)
    have lo := E4_lo (2 * K) (n / 256)
    have e : E4 n (2 * (K + 1)) = (n % 2 + n / 2 % 2 + n / 4 % 2 + n / 8 % 2) + 16 * ((n / 16 % 2 + n / 16 / 2 % 2 + n / 16 / 4 % 2 + n / 16 / 8 % 2) + 16 * E4 (n / 16 / 16) (2 * K)) := rfl
    rw [show n / 16 / 16 = n / 256 by omega, show n / 16 / 2 = n / 32 by omega, show n / 16 / 4 = n / 64 by omega, show n / 16 / 8 = n / 128 by omega] at e
    generalize E4 n (2 * (K + 1)) = p at e
    generalize E4 (n / 256) (2 * K) = p' at e ih lo
    show (p + p / 16) % 2 ^ 4 + 2 ^ 8 * DG 8 4 ((p + p / 16) / 2 ^ 8) K = (n % 2 + n / 2 % 2 + n / 4 % 2 + n / 8 % 2 + n / 16 % 2 + n / 32 % 2 + n / 64 % 2 + n / 128 % 2) + 256 * E8 (n / 256) K
    have d0 : n % 2 + n / 2 % 2 + n / 4 % 2 + n / 8 % 2 ≤ 4 := by omega
    have d1 : n / 16 % 2 + n / 32 % 2 + n / 64 % 2 + n / 128 % 2 ≤ 4 := by omega
    rw [show (n % 2 + n / 2 % 2 + n / 4 % 2 + n / 8 % 2 + n / 16 % 2 + n / 32 % 2 + n / 64 % 2 + n / 128 % 2) = (n % 2 + n / 2 % 2 + n / 4 % 2 + n / 8 % 2) + (n / 16 % 2 + n / 32 % 2 + n / 64 % 2 + n / 128 % 2) by omega]
    generalize n % 2 + n / 2 % 2 + n / 4 % 2 + n / 8 % 2 = a0 at e d0 ⊢
    generalize n / 16 % 2 + n / 32 % 2 + n / 64 % 2 + n / 128 % 2 = a1 at e d1 ⊢
    rw [show (p + p / 16) / 2 ^ 8 = p' + p' / 16 by omega, ih]
    omega
theorem pop4a {a0 a1 a2 a3 : Nat} (b0 : a0 ≤ 8) (b1 : a1 ≤ 8) (b2 : a2 ≤ 8) (b3 : a3 ≤ 8) : (a0 + 256 * (a1 + 256 * (a2 + 256 * a3)) + (a0 + 256 * (a1 + 256 * (a2 + 256 * a3))) / 256 + (a0 + 256 * (a1 + 256 * (a2 + 256 * a3)) + (a0 + 256 * (a1 + 256 * (a2 + 256 * a3))) / 256) / 65536) % 64 = a0 + (a1 + (a2 + a3)) := by
  have e1 : (a0 + 256 * (a1 + 256 * (a2 + 256 * a3))) / 256 = a1 + 256 * (a2 + 256 * a3) := by omega
  rw [e1]
  have e2 : (a0 + 256 * (a1 + 256 * (a2 + 256 * a3)) + (a1 + 256 * (a2 + 256 * a3))) / 65536 = a2 + a3 + 256 * a3 := by omega
  rw [e2]
  omega
theorem pop4 (n : Nat) : (E8 n 4 + E8 n 4 / 256 + (E8 n 4 + E8 n 4 / 256) / 65536) % 64 = PC n 32 ∧ E8 n 4 ≤ 134744072 := by
  have p8 : ∀ K n, PC n (K + 8) = (n % 2 + n / 2 % 2 + n / 4 % 2 + n / 8 % 2 + n / 16 % 2 + n / 32 % 2 + n / 64 % 2 + n / 128 % 2) + PC (n / 256) K := by
    intro K n
    show n % 2 + (n / 2 % 2 + (n / 2 / 2 % 2 + (n / 2 / 2 / 2 % 2 + (n / 2 / 2 / 2 / 2 % 2 + (n / 2 / 2 / 2 / 2 / 2 % 2 + (n / 2 / 2 / 2 / 2 / 2 / 2 % 2 + (n / 2 / 2 / 2 / 2 / 2 / 2 / 2 % 2 + PC (n / 2 / 2 / 2 / 2 / 2 / 2 / 2 / 2) K))))))) = _
    rw [show n / 2 / 2 = n / 4 by omega, show n / 4 / 2 = n / 8 by omega, show n / 8 / 2 = n / 16 by omega, show n / 16 / 2 = n / 32 by omega, show n / 32 / 2 = n / 64 by omega, show n / 64 / 2 = n / 128 by omega, show n / 128 / 2 = n / 256 by omega]
    omega
  have e8 : ∀ K n, ∃ a, a ≤ 8 ∧ E8 n (K + 1) = a + 256 * E8 (n / 256) K ∧ PC n (8 * (K + 1)) = a + PC (n / 256) (8 * K) := by
    intro K n
    refine ⟨_, ?_, rfl, p8 (8 * K) n⟩
    omega
  obtain ⟨a0, b0, c0, d0⟩ := e8 3 n
  obtain ⟨a1, b1, c1, d1⟩ := e8 2 (n / 256)
  obtain ⟨a2, b2, c2, d2⟩ := e8 1 (n / 256 / 256)
  obtain ⟨a3, b3, c3, d3⟩ := e8 0 (n / 256 / 256 / 256)
  have z1 : E8 (n / 256 / 256 / 256 / 256) 0 = 0 := rfl
  have z2 : PC (n / 256 / 256 / 256 / 256) (8 * 0) = 0 := rfl
  have e : E8 n 4 = a0 + 256 * (a1 + 256 * (a2 + 256 * a3)) := by rw [c0, c1, c2, c3, z1]; omega
  have f : PC n 32 = a0 + (a1 + (a2 + a3)) := by
    have : PC n 32 = a0 + PC (n / 256) (8 * 3) := d0
    rw [this, d1, d2, d3, z2]; omega
  rw [e, f]
  exact ⟨pop4a b0 b1 b2 b3, by clear c0 c1 c2 c3 d0 d1 d2 d3 e f z1 z2; omega⟩
def jT (x : Int32) : Nat := x.toBitVec.toNat
theorem jT_lt (x : Int32) : jT x < 4294967296 := x.toBitVec.isLt
theorem jT_and (x y : Int32) : jT (x &&& y) = jT x &&& jT y := by unfold jT; rw [Int32.toBitVec_and, BitVec.toNat_and]
theorem jT_add (x y : Int32) : jT (x + y) = (jT x + jT y) % 4294967296 := by unfold jT; rw [Int32.toBitVec_add, BitVec.toNat_add]
theorem jT_sub (x y : Int32) : jT (x - y) = (4294967296 - jT y + jT x) % 4294967296 := by unfold jT; rw [Int32.toBitVec_sub, BitVec.toNat_sub]
theorem jT_inj {x y : Int32} (h : jT x = jT y) : x = y := by
  have : x.toBitVec = y.toBitVec := BitVec.eq_of_toNat_eq h
  exact Int32.toBitVec_inj.mp this
theorem jT_ju (x : Int32) {k : Nat} (hk : k < 32) : jT (ju x (nI k)) = jT x / 2 ^ k := by
  have e : ∀ k, k < 32 → ((nI k).toUInt32 &&& Int32.toUInt32 31).toBitVec % 32 = BitVec.ofNat 32 k := by decide +kernel
  have : (ju x (nI k)).toBitVec = x.toBitVec >>> (BitVec.ofNat 32 k) := by
    rw [← e k hk]
    rfl
  unfold jT
  rw [this]
  have : (BitVec.ofNat 32 k).toNat = k := by rw [BitVec.toNat_ofNat]; omega
  show (x.toBitVec >>> (BitVec.ofNat 32 k).toNat).toNat = _
  rw [this, BitVec.toNat_ushiftRight, Nat.shiftRight_eq_div_pow]
theorem jT_n {k : Nat} (h : k < 4294967296) : jT (nI k) = k := by
  have : jT (nI k) = k % 4294967296 := rfl
  omega
theorem jbc_PC (x : Int32) : jbc x = nI (PC (jT x) 32) := by
  have hx := jT_lt x
  have m1 : (1431655765 : Nat) = MK 2 1 16 := by decide
  have m2 : (858993459 : Nat) = MK 4 2 8 := by decide
  have m3 : (252645135 : Nat) = MK 8 4 4 := by decide
  have s1 : jT (jc1 x) = E2 (jT x) 16 := by
    unfold jc1
    have p := pop1 16 (jT x) hx
    rw [jT_sub, jT_and, jT_ju x (by omega), jT_n (by omega), m1, and_MK (by omega) (by omega), show jT x / 2 ^ 1 = jT x / 2 from rfl]
    omega
  have s2 : jT (jc2 (jc1 x)) = E4 (jT x) 8 := by
    unfold jc2
    have p := pop2 8 (jT x)
    have b : E4 (jT x) 8 < 4294967296 := by
      have : ∀ K n, E4 n K < 16 ^ K := by
        intro K
        induction K with
        | zero => intro n; show 0 < 1; omega
        | succ K ih =>
          intro n
          have := ih (n / 16)
          show (n % 2 + n / 2 % 2 + n / 4 % 2 + n / 8 % 2) + 16 * E4 (n / 16) K < 16 ^ (K + 1)
          rw [Nat.pow_succ]
          omega
      exact this 8 (jT x)
    rw [jT_add, jT_and, jT_and, jT_ju _ (by omega), jT_n (by omega), s1, m2, and_MK (by omega) (by omega), and_MK (by omega) (by omega)]
    show (DG 4 2 (E2 (jT x) (2 * 8)) 8 + DG 4 2 (E2 (jT x) (2 * 8) / 4) 8) % 4294967296 = _
    rw [p]
    omega
  have s3 : jT (jc3 (jc2 (jc1 x))) = E8 (jT x) 4 := by
    unfold jc3
    have p : DG 8 4 (E4 (jT x) 8 + E4 (jT x) 8 / 16) 4 = E8 (jT x) 4 := pop3 4 (jT x)
    have b : E4 (jT x) 8 ≤ 1145324612 := by
      have : ∀ K n, 15 * E4 n K + 4 ≤ 4 * 16 ^ K := by
        intro K
        induction K with
        | zero => intro n; show 15 * 0 + 4 ≤ 4 * 1; omega
        | succ K ih =>
          intro n
          have := ih (n / 16)
          show 15 * ((n % 2 + n / 2 % 2 + n / 4 % 2 + n / 8 % 2) + 16 * E4 (n / 16) K) + 4 ≤ 4 * 16 ^ (K + 1)
          rw [Nat.pow_succ]
          omega
      have := this 8 (jT x)
      omega
    rw [jT_and, jT_add, jT_ju _ (by omega), jT_n (by omega), s2, m3]
    rw [show (E4 (jT x) 8 + E4 (jT x) 8 / 2 ^ 4) % 4294967296 = E4 (jT x) 8 + E4 (jT x) 8 / 16 by omega, and_MK (by omega) (by omega)]
    exact p
  obtain ⟨q1, q2⟩ := pop4 (jT x)
  apply jT_inj
  have b : PC (jT x) 32 < 64 := by omega
  rw [jT_n (by omega)]
  unfold jbc jc5 jc4
  rw [jT_and, jT_add, jT_ju _ (by omega), jT_add, jT_ju _ (by omega), s3, jT_n (show 63 < 4294967296 by omega), show (63 : Nat) = 2 ^ 6 - 1 by decide, Nat.and_two_pow_sub_one_eq_mod]
  omega
theorem PC_sg (n : Nat) : ∀ K, PC n K = sg_S (fun b => n / 2 ^ b % 2) K := by
  have st : ∀ K n, PC n (K + 1) = PC n K + n / 2 ^ K % 2 := by
    intro K
    induction K with
    | zero => intro n; show n % 2 + 0 = 0 + n / 1 % 2; omega
    | succ K ih =>
      intro n
      show n % 2 + PC (n / 2) (K + 1) = n % 2 + PC (n / 2) K + _
      rw [ih, Nat.div_div_eq_div_mul, Nat.pow_succ, Nat.mul_comm 2]
      omega
  intro K
  induction K with
  | zero => rfl
  | succ K ih => rw [st, ih, sg_succ]
theorem jbc_eq (x : Int32) : jbc x = nI (sg_S (fun b => if bt x b = true then 1 else 0) 32) := by
  rw [jbc_PC, PC_sg]
  refine congrArg nI (sg_congr (fun b _ => ?_))
  show jT x / 2 ^ b % 2 = _
  unfold bt
  have : x.toBitVec.getLsbD b = (jT x).testBit b := rfl
  rw [this, Nat.testBit_eq_decide_div_mod_eq]
  by_cases q : jT x / 2 ^ b % 2 = 1
  · rw [if_pos (decide_eq_true q)]; exact q
  · rw [if_neg (fun z => q (of_decide_eq_true z))]; omega
