/-! bits of whole numbers -/
def bt (a : Int) (k : Nat) : Int := a / 2 ^ k % 2
theorem bt_nat (n k : Nat) : bt (n : Int) k = if n.testBit k then 1 else 0 := by
  have e : bt (n : Int) k = ((n / 2 ^ k % 2 : Nat) : Int) := by
    unfold bt
    norm_cast
  rw [e, Nat.testBit_eq_decide_div_mod_eq]
  have := Nat.mod_two_eq_zero_or_one (n / 2 ^ k)
  by_cases h : n / 2 ^ k % 2 = 1
  · simp [h]
  · have h0 : n / 2 ^ k % 2 = 0 := by omega
    simp [h0]
theorem bt_01 (a : Int) (k : Nat) : bt a k = 0 ∨ bt a k = 1 := by
  unfold bt
  omega
theorem mm_b32 {a : Int} (h : 0 ≤ a ∧ a < 2147483648) : (Int32.ofInt a).toBitVec.toNat = a.toNat := by
  obtain ⟨n, rfl⟩ := Int.eq_ofNat_of_zero_le h.1
  rw [Int32.toBitVec_ofInt, BitVec.toNat_ofInt]
  omega
theorem mm_p32 {z : Int32} (h : 0 ≤ z.toInt) : z.toInt = (z.toBitVec.toNat : Int) := by
  have h1 : z.toInt = z.toBitVec.toInt := rfl
  rw [h1] at h ⊢
  rw [BitVec.toInt_eq_toNat_cond] at h ⊢
  split
  · rfl
  · rename_i h2
    rw [if_neg h2] at h
    have := z.toBitVec.isLt
    omega
theorem bt_32 {z : Int32} (h : 0 ≤ z.toInt) (k : Nat) : bt z.toInt k = if z.toBitVec.getLsbD k then 1 else 0 := by
  rw [mm_p32 h, bt_nat]
  rfl
theorem bt_of {a : Int} (h : 0 ≤ a ∧ a < 2147483648) (k : Nat) : bt a k = if (Int32.ofInt a).toBitVec.getLsbD k then 1 else 0 := by
  have e : (Int32.ofInt a).toInt = a := mm_toInt ⟨by omega, by omega⟩
  have := bt_32 (z := Int32.ofInt a) (by rw [e]; exact h.1) k
  rw [e] at this
  exact this
theorem mm_nn {z : Int32} (h : z.toBitVec.getLsbD 31 = false) : 0 ≤ z.toInt ∧ z.toInt < 2147483648 := by
  have h1 : z.toInt = z.toBitVec.toInt := rfl
  have h2 : z.toBitVec.msb = false := by
    rw [BitVec.msb_eq_getLsbD_last]
    exact h
  have h3 := z.toInt_lt
  rw [h1] at h3 ⊢
  rw [BitVec.toInt_eq_toNat_of_msb h2] at h3 ⊢
  omega
theorem mm_hi {a : Int} (h : 0 ≤ a ∧ a < 2147483648) : (Int32.ofInt a).toBitVec.getLsbD 31 = false := by
  have h1 := bt_of h 31
  have h2 : bt a 31 = 0 := by
    unfold bt
    have : a / 2 ^ 31 = 0 := Int.ediv_eq_zero_of_lt h.1 (by omega)
    omega
  rw [h2] at h1
  by_cases h3 : (Int32.ofInt a).toBitVec.getLsbD 31 = true
  · rw [if_pos h3] at h1
    omega
  · simpa using h3
theorem mm_and_bt {a b : Int} (ha : 0 ≤ a ∧ a < 2147483648) (hb : 0 ≤ b ∧ b < 2147483648) : (0 ≤ mm_and a b ∧ mm_and a b < 2147483648) ∧ ∀ k, bt (mm_and a b) k = bt a k * bt b k := by
  have h0 : 0 ≤ mm_and a b ∧ mm_and a b < 2147483648 := mm_nn (by rw [Int32.toBitVec_and, BitVec.getLsbD_and, mm_hi ha]; rfl)
  refine ⟨h0, fun k => ?_⟩
  unfold mm_and at h0 ⊢
  rw [bt_32 h0.1, bt_of ha, bt_of hb, Int32.toBitVec_and, BitVec.getLsbD_and]
  cases (Int32.ofInt a).toBitVec.getLsbD k <;> cases (Int32.ofInt b).toBitVec.getLsbD k <;> rfl
theorem mm_or_bt {a b : Int} (ha : 0 ≤ a ∧ a < 2147483648) (hb : 0 ≤ b ∧ b < 2147483648) : (0 ≤ mm_or a b ∧ mm_or a b < 2147483648) ∧ ∀ k, bt (mm_or a b) k = bt a k + bt b k - bt a k * bt b k := by
  have h0 : 0 ≤ mm_or a b ∧ mm_or a b < 2147483648 := mm_nn (by rw [Int32.toBitVec_or, BitVec.getLsbD_or, mm_hi ha, mm_hi hb]; rfl)
  refine ⟨h0, fun k => ?_⟩
  unfold mm_or at h0 ⊢
  rw [bt_32 h0.1, bt_of ha, bt_of hb, Int32.toBitVec_or, BitVec.getLsbD_or]
  cases (Int32.ofInt a).toBitVec.getLsbD k <;> cases (Int32.ofInt b).toBitVec.getLsbD k <;> rfl
theorem mm_andn_bt {a b : Int} (ha : 0 ≤ a ∧ a < 2147483648) (hb : 0 ≤ b ∧ b < 2147483648) : (0 ≤ mm_and a (mm_xor b (-1)) ∧ mm_and a (mm_xor b (-1)) < 2147483648) ∧ ∀ k, k < 32 → bt (mm_and a (mm_xor b (-1))) k = bt a k * (1 - bt b k) := by
  have h0 : 0 ≤ mm_and a (mm_xor b (-1)) ∧ mm_and a (mm_xor b (-1)) < 2147483648 := mm_nn (by rw [Int32.toBitVec_and, BitVec.getLsbD_and, mm_hi ha]; rfl)
  refine ⟨h0, fun k hk => ?_⟩
  unfold mm_and at h0 ⊢
  have e1 : (Int32.ofInt (-1)).toBitVec.getLsbD k = true := by
    have : (Int32.ofInt (-1)).toBitVec = BitVec.allOnes 32 := by decide
    rw [this, BitVec.getLsbD_allOnes]
    simpa using hk
  rw [bt_32 h0.1, bt_of ha, bt_of hb, Int32.toBitVec_and, BitVec.getLsbD_and, mm_xor, Int32.ofInt_toInt, Int32.toBitVec_xor, BitVec.getLsbD_xor, e1]
  cases (Int32.ofInt a).toBitVec.getLsbD k <;> cases (Int32.ofInt b).toBitVec.getLsbD k <;> rfl
/-- the least bit alone -/
theorem mm_and1 {x : Int} (h : InI x) : mm_and x 1 = x % 2 := by
  have h0 : 0 ≤ mm_and x 1 ∧ mm_and x 1 < 2147483648 := mm_nn (by rw [Int32.toBitVec_and, BitVec.getLsbD_and, show (Int32.ofInt 1).toBitVec.getLsbD 31 = false by decide]; simp)
  have e : (Int32.ofInt x &&& Int32.ofInt 1).toBitVec.toNat = (Int32.ofInt x).toBitVec.toNat % 2 := by
    rw [Int32.toBitVec_and, BitVec.toNat_and, show (Int32.ofInt 1).toBitVec.toNat = 1 by decide, Nat.and_one_is_mod]
  have e2 : mm_and x 1 = ((Int32.ofInt x).toBitVec.toNat % 2 : Nat) := by
    rw [← e]
    exact mm_p32 h0.1
  rw [e2, Int32.toBitVec_ofInt, BitVec.toNat_ofInt]
  omega
theorem mm_xor1 {x : Int} (h : 0 ≤ x ∧ x < 2147483647) : mm_xor x 1 = if x % 2 = 0 then x + 1 else x - 1 := by
  have h0 : 0 ≤ mm_xor x 1 ∧ mm_xor x 1 < 2147483648 := mm_nn (by rw [Int32.toBitVec_xor, BitVec.getLsbD_xor, mm_hi ⟨h.1, by omega⟩]; decide)
  have e : (Int32.ofInt x ^^^ Int32.ofInt 1).toBitVec.toNat = x.toNat ^^^ 1 := by
    rw [Int32.toBitVec_xor, BitVec.toNat_xor, mm_b32 ⟨h.1, by omega⟩, show (Int32.ofInt 1).toBitVec.toNat = 1 by decide]
  have e2 : mm_xor x 1 = ((x.toNat ^^^ 1 : Nat) : Int) := by
    rw [← e]
    exact mm_p32 h0.1
  have e3 : ∀ n : Nat, n ^^^ 1 = if n % 2 = 0 then n + 1 else n - 1 := by
    intro n
    have h1 : n = 2 * (n / 2) + n % 2 := by omega
    rcases Nat.mod_two_eq_zero_or_one n with h2 | h2
    · rw [if_pos h2]
      apply Nat.eq_of_testBit_eq
      intro i
      rw [Nat.testBit_xor]
      cases i with
      | zero =>
        have h3 : (n + 1) % 2 = 1 := by omega
        simp [Nat.testBit_zero, h2, h3]
      | succ i =>
        rw [Nat.testBit_succ, Nat.testBit_succ, Nat.testBit_succ, show (n + 1) / 2 = n / 2 by omega]
        simp
    · rw [if_neg (by omega)]
      apply Nat.eq_of_testBit_eq
      intro i
      rw [Nat.testBit_xor]
      cases i with
      | zero =>
        have h3 : (n - 1) % 2 = 0 := by omega
        simp [Nat.testBit_zero, h2, h3]
      | succ i =>
        rw [Nat.testBit_succ, Nat.testBit_succ, Nat.testBit_succ, show (n - 1) / 2 = n / 2 by omega]
        simp
  rw [e2, e3]
  split <;> split <;> omega
/-- sets of streets are told by their bits -/
theorem bt_ext {a b : Int} (ha : 0 ≤ a ∧ a < 1073741824) (hb : 0 ≤ b ∧ b < 1073741824) (h : ∀ k, k < 30 → bt a k = bt b k) : a = b := by
  obtain ⟨n, rfl⟩ := Int.eq_ofNat_of_zero_le ha.1
  obtain ⟨m, rfl⟩ := Int.eq_ofNat_of_zero_le hb.1
  congr 1
  apply Nat.eq_of_testBit_eq
  intro i
  by_cases hi : i < 30
  · have := h i hi
    rw [bt_nat, bt_nat] at this
    cases h1 : n.testBit i <;> cases h2 : m.testBit i <;> simp [h1, h2] at this ⊢
  · have p : (2 : Nat) ^ 30 ≤ 2 ^ i := Nat.pow_le_pow_right (by decide) (by omega)
    rw [Nat.testBit_lt_two_pow (by omega), Nat.testBit_lt_two_pow (by omega)]
theorem bt_pow (j k : Nat) : bt (2 ^ j) k = if k = j then 1 else 0 := by
  have : (2 : Int) ^ j = ((2 ^ j : Nat) : Int) := by norm_cast
  rw [this, bt_nat, Nat.testBit_two_pow]
  by_cases h : j = k
  · simp [h]
  · have h' : ¬ k = j := fun e => h e.symm
    simp [h, h']
theorem bt_all (n k : Nat) : bt (2 ^ n - 1) k = if k < n then 1 else 0 := by
  have : (2 : Int) ^ n - 1 = ((2 ^ n - 1 : Nat) : Int) := by
    have : 1 ≤ 2 ^ n := Nat.one_le_two_pow
    push_cast [this]
    rfl
  rw [this, bt_nat, Nat.testBit_two_pow_sub_one]
  by_cases h : k < n <;> simp [h]
theorem bt_0 (k : Nat) : bt 0 k = 0 := by
  simp [bt]
theorem bt_sum {a : Int} (k : Nat) (h : 0 ≤ a) : a / 2 ^ k % 2 = bt a k := rfl
theorem pw_lt {k : Nat} (h : k < 31) : (1 : Int) ≤ 2 ^ k ∧ (2 : Int) ^ k < 2147483648 := by
  have h1 : (2 : Nat) ^ k ≤ 2 ^ 30 := Nat.pow_le_pow_right (by decide) (by omega)
  have h2 : 1 ≤ (2 : Nat) ^ k := Nat.one_le_two_pow
  have h3 : (2 : Int) ^ k = ((2 ^ k : Nat) : Int) := by norm_cast
  rw [h3]
  omega
theorem pw_le {k n : Nat} (h : k ≤ n) : (2 : Int) ^ k ≤ 2 ^ n := by
  have h1 : (2 : Nat) ^ k ≤ 2 ^ n := Nat.pow_le_pow_right (by decide) h
  have h3 : (2 : Int) ^ k = ((2 ^ k : Nat) : Int) := by norm_cast
  have h4 : (2 : Int) ^ n = ((2 ^ n : Nat) : Int) := by norm_cast
  rw [h3, h4]
  omega
/-- no bit beyond n: below 2 ^ n -/
theorem bt_lt {a : Int} {n : Nat} (ha : 0 ≤ a ∧ a < 2147483648) (h : ∀ k, n ≤ k → k < 31 → bt a k = 0) : a < 2 ^ n := by
  obtain ⟨m, rfl⟩ := Int.eq_ofNat_of_zero_le ha.1
  have h3 : (2 : Int) ^ n = ((2 ^ n : Nat) : Int) := by norm_cast
  rw [h3]
  have : m < 2 ^ n := by
    apply Nat.lt_pow_two_of_testBit
    intro i hi
    by_cases h31 : i < 31
    · have := h i hi h31
      rw [bt_nat] at this
      cases e : m.testBit i
      · rfl
      · simp [e] at this
    · have p : (2 : Nat) ^ 31 ≤ 2 ^ i := Nat.pow_le_pow_right (by decide) (by omega)
      exact Nat.testBit_lt_two_pow (by omega)
  omega

