section
/-! bits of whole numbers -/
def bt (a : Int) (k : Nat) : Int := a / 2 ^ k % 2
theorem bt_nat (n k : Nat) : bt (n : Int) k = if n.testBit k then 1 else 0 := by
  have e : bt (n : Int) k = ((n / 2 ^ k % 2 : Nat) : Int) := by
    unfold bt
    norm_cast
  rw [e, Nat.testBit_eq_decide_div_mod_eq]
  have := Nat.mod_two_eq_zero_or_one (n / 2 ^ k)
  by_cases h : n / 2 ^ k % 2 = 1
  · simp [h]
  · have h0 : n / 2 ^ k % 2 = 0 := by omega
    simp [h0]
theorem bt_01 (a : Int) (k : Nat) : bt a k = 0 ∨ bt a k = 1 := by
  unfold bt
  omega
theorem mm_b32 {a : Int} (h : 0 ≤ a ∧ a < 2147483648) : (Int32.ofInt a).toBitVec.toNat = a.toNat := by
  obtain ⟨n, rfl⟩ := Int.eq_ofNat_of_zero_le h.1
  rw [Int32.toBitVec_ofInt, BitVec.toNat_ofInt]
  omega
theorem mm_p32 {z : Int32} (h : 0 ≤ z.toInt) : z.toInt = (z.toBitVec.toNat : Int) := by
  have h1 : z.toInt = z.toBitVec.toInt := rfl
  rw [h1] at h ⊢
  rw [BitVec.toInt_eq_toNat_cond] at h ⊢
  split
  · rfl
  · rename_i h2
    rw [if_neg h2] at h
    have := z.toBitVec.isLt
    omega
theorem bt_32 {z : Int32} (h : 0 ≤ z.toInt) (k : Nat) : bt z.toInt k = if z.toBitVec.getLsbD k then 1 else 0 := by
  rw [mm_p32 h, bt_nat]
  rfl
theorem bt_of {a : Int} (h : 0 ≤ a ∧ a < 2147483648) (k : Nat) : bt a k = if (Int32.ofInt a).toBitVec.getLsbD k then 1 else 0 := by
  have e : (Int32.ofInt a).toInt = a := mm_toInt ⟨by omega, by omega⟩
  have := bt_32 (z := Int32.ofInt a) (by rw [e]; exact h.1) k
  rw [e] at this
  exact this
theorem mm_nn {z : Int32} (h : z.toBitVec.getLsbD 31 = false) : 0 ≤ z.toInt ∧ z.toInt < 2147483648 := by
  have h1 : z.toInt = z.toBitVec.toInt := rfl
  have h2 : z.toBitVec.msb = false := by
    rw [BitVec.msb_eq_getLsbD_last]
    exact h
  have h3 := z.toInt_lt
  rw [h1] at h3 ⊢
  rw [BitVec.toInt_eq_toNat_of_msb h2] at h3 ⊢
  omega
theorem mm_hi {a : Int} (h : 0 ≤ a ∧ a < 2147483648) : (Int32.ofInt a).toBitVec.getLsbD 31 = false := by
  have h1 := bt_of h 31
  have h2 : bt a 31 = 0 := by
    unfold bt
    have : a / 2 ^ 31 = 0 := Int.ediv_eq_zero_of_lt h.1 (by omega)
    omega
  rw [h2] at h1
  by_cases h3 : (Int32.ofInt a).toBitVec.getLsbD 31 = true
  · rw [if_pos h3] at h1
    omega
  · simpa using h3
theorem mm_and_bt {a b : Int} (ha : 0 ≤ a ∧ a < 2147483648) (hb : 0 ≤ b ∧ b < 2147483648) : (0 ≤ mm_and a b ∧ mm_and a b < 2147483648) ∧ ∀ k, bt (mm_and a b) k = bt a k * bt b k := by
  have h0 : 0 ≤ mm_and a b ∧ mm_and a b < 2147483648 := mm_nn (by rw [Int32.toBitVec_and, BitVec.getLsbD_and, mm_hi ha]; rfl)
  refine ⟨h0, fun k => ?_⟩
  unfold mm_and at h0 ⊢
  rw [bt_32 h0.1, bt_of ha, bt_of hb, Int32.toBitVec_and, BitVec.getLsbD_and]
  cases (Int32.ofInt a).toBitVec.getLsbD k <;> cases (Int32.ofInt b).toBitVec.getLsbD k <;> rfl
theorem mm_or_bt {a b : Int} (ha : 0 ≤ a ∧ a < 2147483648) (hb : 0 ≤ b ∧ b < 2147483648) : (0 ≤ mm_or a b ∧ mm_or a b < 2147483648) ∧ ∀ k, bt (mm_or a b) k = bt a k + bt b k - bt a k * bt b k := by
  have h0 : 0 ≤ mm_or a b ∧ mm_or a b < 2147483648 := mm_nn (by rw [Int32.toBitVec_or, BitVec.getLsbD_or, mm_hi ha, mm_hi hb]; rfl)
  refine ⟨h0, fun k => ?_⟩
  unfold mm_or at h0 ⊢
  rw [bt_32 h0.1, bt_of ha, bt_of hb, Int32.toBitVec_or, BitVec.getLsbD_or]
  cases (Int32.ofInt a).toBitVec.getLsbD k <;> cases (Int32.ofInt b).toBitVec.getLsbD k <;> rfl
theorem mm_andn_bt {a b : Int} (ha : 0 ≤ a ∧ a < 2147483648) (hb : 0 ≤ b ∧ b < 2147483648) : (0 ≤ mm_and a (mm_xor b (-1)) ∧ mm_and a (mm_xor b (-1)) < 2147483648) ∧ ∀ k, k < 32 → bt (mm_and a (mm_xor b (-1))) k = bt a k * (1 - bt b k) := by
  have h0 : 0 ≤ mm_and a (mm_xor b (-1)) ∧ mm_and a (mm_xor b (-1)) < 2147483648 := mm_nn (by rw [Int32.toBitVec_and, BitVec.getLsbD_and, mm_hi ha]; rfl)
  refine ⟨h0, fun k hk => ?_⟩
  unfold mm_and at h0 ⊢
  have e1 : (Int32.ofInt (-1)).toBitVec.getLsbD k = true := by
    have : (Int32.ofInt (-1)).toBitVec = BitVec.allOnes 32 := by decide
    rw [this, BitVec.getLsbD_allOnes]
    simpa using hk
  rw [bt_32 h0.1, bt_of ha, bt_of hb, Int32.toBitVec_and, BitVec.getLsbD_and, mm_xor, Int32.ofInt_toInt, Int32.toBitVec_xor, BitVec.getLsbD_xor, e1]
  cases (Int32.ofInt a).toBitVec.getLsbD k <;> cases (Int32.ofInt b).toBitVec.getLsbD k <;> rfl
/-- the least bit alone -/
theorem mm_and1 {x : Int} (h : InI x) : mm_and x 1 = x % 2 := by
  have h0 : 0 ≤ mm_and x 1 ∧ mm_and x 1 < 2147483648 := mm_nn (by rw [Int32.toBitVec_and, BitVec.getLsbD_and, show (Int32.ofInt 1).toBitVec.getLsbD 31 = false by decide]; simp)
  have e : (Int32.ofInt x &&& Int32.ofInt 1).toBitVec.toNat = (Int32.ofInt x).toBitVec.toNat % 2 := by
    rw [Int32.toBitVec_and, BitVec.toNat_and, show (Int32.ofInt 1).toBitVec.toNat = 1 by decide, Nat.and_one_is_mod]
  have e2 : mm_and x 1 = ((Int32.ofInt x).toBitVec.toNat % 2 : Nat) := by
    rw [← e]
    exact mm_p32 h0.1
  rw [e2, Int32.toBitVec_ofInt, BitVec.toNat_ofInt]
  omega
theorem mm_xor1 {x : Int} (h : 0 ≤ x ∧ x < 2147483647) : mm_xor x 1 = if x % 2 = 0 then x + 1 else x - 1 := by
  have h0 : 0 ≤ mm_xor x 1 ∧ mm_xor x 1 < 2147483648 := mm_nn (by rw [Int32.toBitVec_xor, BitVec.getLsbD_xor, mm_hi ⟨h.1, by omega⟩]; decide)
  have e : (Int32.ofInt x ^^^ Int32.ofInt 1).toBitVec.toNat = x.toNat ^^^ 1 := by
    rw [Int32.toBitVec_xor, BitVec.toNat_xor, mm_b32 ⟨h.1, by omega⟩, show (Int32.ofInt 1).toBitVec.toNat = 1 by decide]
  have e2 : mm_xor x 1 = ((x.toNat ^^^ 1 : Nat) : Int) := by
    rw [← e]
    exact mm_p32 h0.1
  have e3 : ∀ n : Nat, n ^^^ 1 = if n % 2 = 0 then n + 1 else n - 1 := by
    intro n
    have h1 : n = 2 * (n / 2) + n % 2 := by omega
    rcases Nat.mod_two_eq_zero_or_one n with h2 | h2
    · rw [if_pos h2]
      apply Nat.eq_of_testBit_eq
      intro i
      rw [Nat.testBit_xor]
      cases i with
      | zero =>
        have h3 : (n + 1) % 2 = 1 := by omega
        simp [Nat.testBit_zero, h2, h3]
      | succ i =>
        rw [Nat.testBit_succ, Nat.testBit_succ, Nat.testBit_succ, show (n + 1) / 2 = n / 2 by omega]
        simp
    · rw [if_neg (by omega)]
      apply Nat.eq_of_testBit_eq
      intro i
      rw [Nat.testBit_xor]
      cases i with
      | zero =>
        have h3 : (n - 1) % 2 = 0 := by omega
        simp [Nat.testBit_zero, h2, h3]
      | succ i =>
        rw [Nat.testBit_succ, Nat.testBit_succ, Nat.testBit_succ, show (n - 1) / 2 = n / 2 by omega]
        simp
  rw [e2, e3]
  split <;> split <;> omega
/-- sets of streets are told by their bits -/
theorem bt_ext {a b : Int} (ha : 0 ≤ a ∧ a < 1073741824) (hb : 0 ≤ b ∧ b < 1073741824) (h : ∀ k, k < 30 → bt a k = bt b k) : a = b := by
  obtain ⟨n, rfl⟩ := Int.eq_ofNat_of_zero_le ha.1
  obtain ⟨m, rfl⟩ := Int.eq_ofNat_of_zero_le hb.1
  congr 1
  apply Nat.eq_of_testBit_eq
  intro i
  by_cases hi : i < 30
  · have := h i hi
    rw [bt_nat, bt_nat] at this
    cases h1 : n.testBit i <;> cases h2 : m.testBit i <;> simp [h1, h2] at this ⊢
  · have p : (2 : Nat) ^ 30 ≤ 2 ^ i := Nat.pow_le_pow_right (by decide) (by omega)
    rw [Nat.testBit_lt_two_pow (by omega), Nat.testBit_lt_two_pow (by omega)]
theorem bt_pow (j k : Nat) : bt (2 ^ j) k = if k = j then 1 else 0 := by
  have : (2 : Int) ^ j = ((2 ^ j : Nat) : Int) := by norm_cast
  rw [this, bt_nat, Nat.testBit_two_pow]
  by_cases h : j = k
  · simp [h]
  · have h' : ¬ k = j := fun e => h e.symm
    simp [h, h']
theorem bt_all (n k : Nat) : bt (2 ^ n - 1) k = if k < n then 1 else 0 := by
  have : (2 : Int) ^ n - 1 = ((2 ^ n - 1 : Nat) : Int) := by
    have : 1 ≤ 2 ^ n := Nat.one_le_two_pow
    push_cast [this]
    rfl
  rw [this, bt_nat, Nat.testBit_two_pow_sub_one]
  by_cases h : k < n <;> simp [h]
theorem bt_0 (k : Nat) : bt 0 k = 0 := by
  simp [bt]
theorem bt_sum {a : Int} (k : Nat) (h : 0 ≤ a) : a / 2 ^ k % 2 = bt a k := rfl
theorem pw_lt {k : Nat} (h : k < 31) : (1 : Int) ≤ 2 ^ k ∧ (2 : Int) ^ k < 2147483648 := by
  have h1 : (2 : Nat) ^ k ≤ 2 ^ 30 := Nat.pow_le_pow_right (by decide) (by omega)
  have h2 : 1 ≤ (2 : Nat) ^ k := Nat.one_le_two_pow
  have h3 : (2 : Int) ^ k = ((2 ^ k : Nat) : Int) := by norm_cast
  rw [h3]
  omega
theorem pw_le {k n : Nat} (h : k ≤ n) : (2 : Int) ^ k ≤ 2 ^ n := by
  have h1 : (2 : Nat) ^ k ≤ 2 ^ n := Nat.pow_le_pow_right (by decide) h
  have h3 : (2 : Int) ^ k = ((2 ^ k : Nat) : Int) := by norm_cast
  have h4 : (2 : Int) ^ n = ((2 ^ n : Nat) : Int) := by norm_cast
  rw [h3, h4]
  omega
/-- no bit beyond n: below 2 ^ n -/
theorem bt_lt {a : Int} {n : Nat} (ha : 0 ≤ a ∧ a < 2147483648) (h : ∀ k, n ≤ k → k < 31 → bt a k = 0) : a < 2 ^ n := by
  obtain ⟨m, rfl⟩ := Int.eq_ofNat_of_zero_le ha.1
  have h3 : (2 : Int) ^ n = ((2 ^ n : Nat) : Int) := by norm_cast
  rw [h3]
  have : m < 2 ^ n := by
    apply Nat.lt_pow_two_of_testBit
    intro i hi
    by_cases h31 : i < 31
    · have := h i hi h31
      rw [bt_nat] at this
      cases e : m.testBit i
      · rfl
      · simp [e] at this
    · have p : (2 : Nat) ^ 31 ≤ 2 ^ i := Nat.pow_le_pow_right (by decide) (by omega)
      exact Nat.testBit_lt_two_pow (by omega)
  omega
end
section
/-! words for the state -/
def fr (S : List Nat) (M M' : mm_M) : Prop := ∀ o, o ∉ S → M' o = M o
theorem fr.rf {S : List Nat} {M : mm_M} : fr S M M := fun _ _ => rfl
theorem fr.tr {S : List Nat} {M M' M'' : mm_M} (h : fr S M M') (h2 : fr S M' M'') : fr S M M'' := fun o ho => (h2 o ho).trans (h o ho)
theorem fr.up {S : List Nat} {M M' : mm_M} {o k : Nat} {v : Int} (h : fr S M M') (ho : o ∈ S) : fr S M (mm_up M' o k v) := by
  intro x hx
  rw [mm_up_o x (fun e => hx (by rw [e]; exact ho))]
  exact h x hx
theorem fr.mono {S S' : List Nat} {M M' : mm_M} (h : fr S M M') (hs : ∀ o ∈ S, o ∈ S') : fr S' M M' := fun o ho => h o (fun x => ho (hs o x))
/-- the class's town is in order -/
def tW (M : mm_M) : Prop := (0 ≤ M 2 4 ∧ M 2 4 ≤ 30) ∧ (∀ i : Nat, i < 30 → (0 ≤ M 3 i ∧ M 3 i < 10) ∧ (0 ≤ M 4 i ∧ M 4 i < 10)) ∧ (M 2 5 = 0 ∨ M 2 5 = 1) ∧ (0 ≤ M 2 6 ∧ M 2 6 ≤ 5) ∧ (0 ≤ M 2 7 ∧ M 2 7 ≤ 4)
theorem tW.fr {S : List Nat} {M M' : mm_M} (h : tW M) (hf : fr S M M') (h2 : 2 ∉ S) (h3 : 3 ∉ S) (h4 : 4 ∉ S) : tW M' := by
  unfold tW
  rw [hf 2 h2, hf 3 h3, hf 4 h4]
  exact h
/-- where a step comes to, and from; by which step a street leaves a corner, comes to it, goes from one to another -/
def gl (M : mm_M) (s : Int) : Int := if s % 2 = 0 then M 4 (s / 2).toNat else M 3 (s / 2).toNat
def sr (M : mm_M) (s : Int) : Int := if s % 2 = 0 then M 3 (s / 2).toNat else M 4 (s / 2).toNat
def lv (M : mm_M) (s c : Int) : Int := if M 3 s.toNat = c then 2 * s else if M 2 5 = 0 ∧ M 4 s.toNat = c then 2 * s + 1 else -1
def cm (M : mm_M) (s c : Int) : Int := if M 4 s.toNat = c then 2 * s else if M 2 5 = 0 ∧ M 3 s.toNat = c then 2 * s + 1 else -1
def bw (M : mm_M) (s a b : Int) : Int := if 0 ≤ lv M s a ∧ gl M (lv M s a) = b then lv M s a else -1
/-- how many streets of a set have the corner c in the row F -/
def oc (F : Nat → Int) (S c : Int) : Nat → Int
  | 0 => 0
  | k + 1 => oc F S c k + (if F k = c then bt S k else 0)
theorem oc_le (F : Nat → Int) (S c : Int) : ∀ n, 0 ≤ oc F S c n ∧ oc F S c n ≤ n
  | 0 => by simp [oc]
  | k + 1 => by
    have h := oc_le F S c k
    have h2 := bt_01 S k
    simp only [oc]
    split <;> omega
/-- a street more -/
def addS (M : mm_M) (a b : Int) : mm_M := mm_up (mm_up (mm_up M 3 (M 2 4).toNat a) 4 (M 2 4).toNat b) 2 4 (M 2 4 + 1)
theorem addS_spec {M : mm_M} {a b : Int} {n : Nat} (ht : tW M) (hn : M 2 4 = n) (h30 : n < 30) (ha : 0 ≤ a ∧ a < 10) (hb : 0 ≤ b ∧ b < 10) :
    tW (addS M a b) ∧ fr [2, 3, 4] M (addS M a b) ∧ (∀ j, j ≠ 4 → addS M a b 2 j = M 2 j) ∧ addS M a b 2 4 = n + 1 ∧ (∀ i, i < n → addS M a b 3 i = M 3 i ∧ addS M a b 4 i = M 4 i) ∧ addS M a b 3 n = a ∧ addS M a b 4 n = b := by
  have e : (M 2 4).toNat = n := by omega
  have h3 : ∀ i, addS M a b 3 i = if i = n then a else M 3 i := fun i => by simp [addS, mm_up, e]
  have h4 : ∀ i, addS M a b 4 i = if i = n then b else M 4 i := fun i => by simp [addS, mm_up, e]
  have h2 : ∀ j, addS M a b 2 j = if j = 4 then M 2 4 + 1 else M 2 j := fun i => by simp [addS, mm_up]
  refine ⟨?_, ?_, fun j hj => by rw [h2, if_neg hj], by rw [h2, if_pos rfl]; omega, fun i hi => ⟨by rw [h3, if_neg (by omega)], by rw [h4, if_neg (by omega)]⟩, by rw [h3, if_pos rfl], by rw [h4, if_pos rfl]⟩
  · obtain ⟨t1, t2, t3, t4, t5⟩ := ht
    refine ⟨by rw [h2, if_pos rfl]; omega, fun i hi => ?_, by rw [h2]; exact t3, by rw [h2]; exact t4, by rw [h2]; exact t5⟩
    have := t2 i hi
    rw [h3, h4]
    split <;> omega
  · exact ((fr.rf.up (by simp)).up (by simp)).up (by simp)
/-- streets k to i are laid as a ring -/
def ringI (M0 M : mm_M) (many b : Int) (c i : Nat) : Prop := tW M ∧ fr [2, 3, 4] M0 M ∧ (∀ j, j ≠ 4 → M 2 j = M0 2 j) ∧ M 2 4 = c + i ∧ (∀ j, j < c → M 3 j = M0 3 j ∧ M 4 j = M0 4 j) ∧ ∀ k : Nat, k < i → M 3 (c + k) = k ∧ M 4 (c + k) = (k + b) % many
def wordI (M0 M : mm_M) (sg hd : Int) (i : Nat) : Prop := tW M ∧ fr [2, 3, 4] M0 M ∧ (∀ j, j ≠ 4 → M 2 j = M0 2 j) ∧ M 2 4 = i ∧ ∀ k : Nat, k < i → M 3 k = k / sg ∧ M 4 k = k % hd
/-- streets that are connected: by no property of corners can they be told apart -/
def HG (F T : Nat → Int) (n : Nat) (S : Int) : Prop := ∀ P : Int → Prop, (∀ k, k < n → bt S k = 1 → (P (F k) ↔ P (T k))) → (∃ k, k < n ∧ bt S k = 1 ∧ P (F k)) → ∀ k, k < n → bt S k = 1 → P (F k)
/-- how many corners are ODD -/
def od (ow : Int) (o i : Int) : Prop := if ow = 0 then (o + i) % 2 = 1 else o ≠ i
def odn (F T : Nat → Int) (n : Nat) (ow S : Int) : Nat → Int
  | 0 => 0
  | c + 1 => odn F T n ow S c + (if ow = 0 then (oc F S c n + oc T S c n) % 2 else if oc F S c n = oc T S c n then 0 else 1)
/-- whether a walk from c can take all streets of S -/
def ST (F T : Nat → Int) (n : Nat) (ow S c : Int) : Prop := S = 0 ∨ (HG F T n S ∧ ((odn F T n ow S 10 = 0 ∧ 0 < oc F S c n + oc T S c n) ∨
  (odn F T n ow S 10 = 2 ∧ ((ow = 0 ∧ (oc F S c n + oc T S c n) % 2 = 1) ∨ (ow ≠ 0 ∧ oc F S c n = oc T S c n + 1)))))
/-- the first street of a set, up or down, that leaves a corner, as a step; or none -/
def onR (M : mm_M) (S c up r : Int) : Prop := (r = -1 ∧ ∀ s : Nat, s < (M 2 4).toNat → bt S s = 1 → lv M s c = -1) ∨
  ∃ s : Nat, s < (M 2 4).toNat ∧ bt S s = 1 ∧ r = lv M s c ∧ 0 ≤ r ∧ ∀ s' : Nat, s' < (M 2 4).toNat → (up = 1 → s' < s) → (up = 0 → s < s') → bt S s' = 1 → lv M s' c = -1
/-- a set without a street -/
def clr (S : Int) (s : Nat) : Int := mm_and S (mm_xor (1 * 2 ^ s) (-1))
/-- whether this street leaves the corner so that the others can all be walked behind it -/
def whS (M : mm_M) (S c : Int) (s : Nat) : Prop := bt S s = 1 ∧ 0 ≤ lv M s c ∧ ST (M 3) (M 4) (M 2 4).toNat (M 2 5) (clr S s) (gl M (lv M s c))
def whR (M : mm_M) (S c b up r : Int) : Prop := (r = -1 ∧ ∀ s : Nat, s < (M 2 4).toNat → (up = 1 → b < s) → (up = 0 → s < b) → ¬ whS M S c s) ∨
  ∃ s : Nat, s < (M 2 4).toNat ∧ (up = 1 → b < s) ∧ (up = 0 → s < b) ∧ whS M S c s ∧ r = lv M s c ∧ 0 ≤ r ∧ ∀ s' : Nat, s' < (M 2 4).toNat → (up = 1 → b < s' ∧ s' < s) → (up = 0 → s' < b ∧ s < s') → ¬ whS M S c s'
theorem clr_spec {S : Int} {s : Nat} (hS : 0 ≤ S ∧ S < 1073741824) (hs : s < 30) : (0 ≤ clr S s ∧ clr S s < 1073741824) ∧ ∀ k, k < 32 → bt (clr S s) k = if k = s then 0 else bt S k := by
  have hp := pw_lt (k := s) (by omega)
  obtain ⟨h1, h2⟩ := mm_andn_bt (a := S) (b := 2 ^ s) ⟨hS.1, by omega⟩ ⟨by omega, by omega⟩
  unfold clr
  rw [Int.one_mul]
  have h3 : ∀ k, k < 32 → bt (mm_and S (mm_xor (2 ^ s) (-1))) k = if k = s then 0 else bt S k := by
    intro k hk
    rw [h2 k hk, bt_pow]
    split <;> omega
  refine ⟨⟨h1.1, ?_⟩, h3⟩
  have := bt_lt (n := 30) h1 (fun k hk hk2 => by
    rw [h3 k (by omega), if_neg (by omega)]
    obtain ⟨n, rfl⟩ := Int.eq_ofNat_of_zero_le hS.1
    rw [bt_nat, Nat.testBit_lt_two_pow (Nat.lt_of_lt_of_le (by omega : n < 2 ^ 30) (Nat.pow_le_pow_right (by decide) hk))]
    simp)
  simpa using this
end
