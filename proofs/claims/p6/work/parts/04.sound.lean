/-! what the small machine's state is on the machine, and each step's soundness -/
/-! the system's two classes of texts -/
def RXA : String := "java/lang/AbstractStringBuilder"
def RXB : String := "java/lang/StringBuilder"
def RXS : String := "java/lang/String"
def TXB : u_T := fun k => match k with
  | 0 => (RXA, "value", "[B", false)
  | 1 => (RXA, "coder", "B", false)
  | 2 => (RXA, "maybeLatin1", "Z", false)
  | _ => (RXA, "count", "I", false)
def tyXB : Nat → FieldType := fun k => match k with
  | 0 => .array .byte
  | 1 => .byte
  | 2 => .boolean
  | _ => .int
theorem nmXB : ∀ a, a < 4 → ∀ b, b < 4 → a ≠ b → (TXB a).2.1 ≠ (TXB b).2.1 := by decide +kernel
theorem tyXB_ok : ∀ k, k < 4 → parseFieldDescriptor (TXB k).2.2.1 = some (tyXB k) := by decide +kernel
def TXS : u_T := fun k => match k with
  | 0 => (RXS, "value", "[B", true)
  | 1 => (RXS, "coder", "B", true)
  | 2 => (RXS, "hash", "I", false)
  | _ => (RXS, "hashIsZero", "Z", false)
def tyXS : Nat → FieldType := fun k => match k with
  | 0 => .array .byte
  | 1 => .byte
  | 2 => .int
  | _ => .boolean
theorem nmXS : ∀ a, a < 4 → ∀ b, b < 4 → a ≠ b → (TXS a).2.1 ≠ (TXS b).2.1 := by decide +kernel
theorem tyXS_ok : ∀ k, k < 4 → parseFieldDescriptor (TXS k).2.2.1 = some (tyXS k) := by decide +kernel
def mm_cl : List vw_C := [(RX3, TX3, 7), (RX1, TX1, 8), (RX2, TX2, 4), (RX0, TX0, 5), (RX5, TX5, 17), (RX4, TX4, 2), (RXB, TXB, 4), (RXS, TXS, 4)]
def mm_tt : List (Nat → FieldType) := [tyX3, tyX1, tyX2, tyX0, tyX5, tyX4, tyXB, tyXS]
/-- a byte as it lies in a row -/
def mm_b8 (x : Int) : Int32 := (Int8.ofInt x).toInt32
abbrev mm_En : Type := ClassId × ClassId × ClassId
def mm_ty (E : mm_En) : List (ClassId × FieldType) := [(E.1, .int), (E.2.1, .byte), (E.2.2, .object RX2)]
def mm_ad (Ad : Nat → Nat) (o : Nat) : Nat := if o < 100 then Ad o else o - 100
def mm_rn (Ad : Nat → Nat) (o : Nat) : Option Nat := if o = 0 then none else some (mm_ad Ad o)
def mm_cc (Ad : Nat → Nat) : mm_V → Value
  | .inl x => .int (Int32.ofInt x)
  | .inr (.inl x) => .long (Int64.ofInt x)
  | .inr (.inr (.inl o)) => va_rf (mm_rn Ad o)
  | .inr (.inr (.inr q)) => .ref q
def mm_fs (Ad : Nat → Nat) (M : mm_M) (o : Nat) (l : List (Nat × Nat)) : List Value := l.mapIdx (fun k q => mm_cc Ad (mm_fv q.1 q.2 o (M o k)))
def mm_el (E : mm_En) (Ad : Nat → Nat) (M : mm_M) (o : Nat) : va_E :=
  match mm_kd M o with
  | 1 => .inl (E.1, mm_ln M o, .inl (fun j => Int32.ofInt (M o j)))
  | 2 => .inl (E.2.2, mm_ln M o, .inr (.inr (.inr (.inr (fun j => some (mm_ad Ad (8 + 2 * j)))))))
  | 3 => .inl (E.2.1, mm_ln M o, .inl (fun j => mm_b8 (M o j)))
  | k => .inr (k - 10, mm_fs Ad M o (mm_ft k))
def mm_ws (E : mm_En) (Ad : Nat → Nat) (M : mm_M) (d : List Nat) : va_W := (mm_ids d).map (fun o => (mm_ad Ad o, mm_el E Ad M o))
theorem mm_idx {E : mm_En} {Ad : Nat → Nat} {M : mm_M} {d : List Nat} {o : Nat} (h : o ∈ mm_ids d) : ∃ q0 : Nat, (mm_ids d)[q0]? = some o ∧ (mm_ws E Ad M d)[q0]? = some (mm_ad Ad o, mm_el E Ad M o) := by
  obtain ⟨q0, hq⟩ := List.getElem?_of_mem h
  exact ⟨q0, hq, by simp [mm_ws, hq]⟩
theorem mm_kd_up {M M' : mm_M} {o o' : Nat} (ho : o ≠ 0) (h : ∀ x, x ≠ o → M' x = M x) : mm_kd M' o' = mm_kd M o' ∧ mm_ln M' o' = mm_ln M o' := by
  simp only [mm_kd, mm_ln, h 0 (Ne.symm ho), and_self]
theorem mm_wset {E : mm_En} {Ad : Nat → Nat} {M M' : mm_M} {d : List Nat} {o q0 : Nat} {A : Nat → Prop} (hD : va_D A (mm_ws E Ad M d)) (hq : (mm_ids d)[q0]? = some o) (ho : o ≠ 0) (h : ∀ x, x ≠ o → M' x = M x) :
    (mm_ws E Ad M d).set q0 (mm_ad Ad o, mm_el E Ad M' o) = mm_ws E Ad M' d := by
  apply List.ext_getElem?
  intro k
  have hw : ∀ {M : mm_M} {j x : Nat}, (mm_ids d)[j]? = some x → (mm_ws E Ad M d)[j]? = some (mm_ad Ad x, mm_el E Ad M x) := fun hj => by simp [mm_ws, hj]
  by_cases hk : k = q0
  · subst hk
    have hl := (List.getElem?_eq_some_iff.mp (hw (M := M) hq)).1
    rw [List.getElem?_set_self hl, hw hq]
  · rw [List.getElem?_set_ne (Ne.symm hk)]
    cases hx : (mm_ids d)[k]? with
    | none => simp [mm_ws, hx]
    | some x =>
      rw [hw hx, hw hx]
      have hxo : x ≠ o := by
        intro e
        subst e
        exact hk (hD.1 k q0 _ _ (hw hx) (hw hq) rfl)
      have e := mm_kd_up (o' := x) ho h
      simp only [mm_el, e.1, e.2, mm_fs, h x hxo]
theorem mm_catv (Ad : Nat → Nat) (v : mm_V) : (mm_cc Ad v).category = mm_cat v := by
  rcases v with x | x | o | q
  · rfl
  · rfl
  · simp only [mm_cc, mm_cat]
    cases mm_rn Ad o <;> rfl
  · rfl
theorem mm_catsum (Ad : Nat → Nat) (l : List mm_V) : ((l.map (mm_cc Ad)).map fun v => v.category).sum = mm_cats l := by
  induction l with
  | nil => rfl
  | cons a l ih => simp only [List.map_cons, List.sum_cons, ih, mm_catv, mm_cats]
/-- the locals -/
def mm_Lo (Ad : Nat → Nat) (nL : Nat) (ls : mm_Ls) (L : Array Slot) : Prop := L.size = nL ∧ lv_wf L ∧ ls.length = nL ∧ ∀ (i : Nat) (v : mm_V), mm_nth ls i = some (some v) → L[i]? = some (.val (mm_cc Ad v))
def mm_as (Ad : Nat → Nat) : mm_Ls → Nat → List (Nat × Value)
  | [], _ => []
  | none :: l, n => mm_as Ad l (n + 1)
  | some v :: l, n => (n, mm_cc Ad v) :: mm_as Ad l (n + 1)
theorem mm_as_mem {Ad : Nat → Nat} {q : Nat × Value} : ∀ (ls : mm_Ls) (n : Nat), q ∈ mm_as Ad ls n ↔ ∃ (i : Nat) (v : mm_V), mm_nth ls i = some (some v) ∧ q = (n + i, mm_cc Ad v)
  | [], n => by simp [mm_as, mm_nth]
  | none :: l, n => by
    rw [mm_as, mm_as_mem l (n + 1)]
    constructor
    · rintro ⟨i, v, h, e⟩
      exact ⟨i + 1, v, h, by rw [e, Nat.add_right_comm, Nat.add_assoc]⟩
    · rintro ⟨i, v, h, e⟩
      cases i with
      | zero => simp [mm_nth] at h
      | succ i => exact ⟨i, v, h, by rw [e, Nat.add_right_comm, Nat.add_assoc]⟩
  | some w :: l, n => by
    rw [mm_as, List.mem_cons, mm_as_mem l (n + 1)]
    constructor
    · rintro (e | ⟨i, v, h, e⟩)
      · exact ⟨0, w, rfl, e⟩
      · exact ⟨i + 1, v, h, by rw [e, Nat.add_right_comm, Nat.add_assoc]⟩
    · rintro ⟨i, v, h, e⟩
      cases i with
      | zero =>
        simp only [mm_nth, Option.some.injEq] at h
        subst h
        exact Or.inl e
      | succ i => exact Or.inr ⟨i, v, h, by rw [e, Nat.add_right_comm, Nat.add_assoc]⟩
theorem mm_lo_has {Ad : Nat → Nat} {nL : Nat} {ls : mm_Ls} {L : Array Slot} (h : mm_Lo Ad nL ls L) : lv_has L nL (mm_as Ad ls 0) := by
  refine ⟨h.1, h.2.1, fun q hq => ?_⟩
  obtain ⟨i, v, h1, rfl⟩ := (mm_as_mem ls 0).mp hq
  simpa using h.2.2.2 i v h1
theorem mm_nth_set {α : Type} {x : α} : ∀ (l : List α) (i j : Nat), i < l.length → mm_nth (mm_set l i x) j = if j = i then some x else mm_nth l j
  | [], i, j, h => by simp at h
  | a :: l, 0, j, h => by cases j <;> simp [mm_set, mm_nth]
  | a :: l, i + 1, j, h => by
    cases j with
    | zero => simp [mm_set, mm_nth]
    | succ j =>
      simp only [mm_set, mm_nth, Nat.add_right_cancel_iff]
      exact mm_nth_set l i j (by simpa using h)
theorem mm_set_len {α : Type} {x : α} : ∀ (l : List α) (i : Nat), (mm_set l i x).length = l.length
  | [], _ => rfl
  | a :: l, 0 => rfl
  | a :: l, i + 1 => by simp only [mm_set, List.length_cons, mm_set_len l i]
theorem mm_ok_lt : ∀ (ls : mm_Ls) (i : Nat), mm_ok ls i = true → i < ls.length ∧ ∀ (k : Nat) (v : mm_V), k + 1 = i → mm_nth ls k = some (some v) → mm_cat v = 1
  | [], i, h => by simp [mm_ok] at h
  | a :: l, 0, h => ⟨by simp, fun k v hk => by omega⟩
  | a :: l, i + 1, h => by
    simp only [mm_ok, Bool.and_eq_true] at h
    obtain ⟨h1, h2⟩ := mm_ok_lt l i h.2
    refine ⟨by simpa using h1, fun k v hk hv => ?_⟩
    cases k with
    | succ k => exact h2 k v (by omega) hv
    | zero =>
      have hi : i = 0 := by omega
      subst hi
      simp only [mm_nth, Option.some.injEq] at hv
      subst hv
      rcases v with x | x | o | q <;> first | rfl | (simp [mm_isL] at h)
theorem mm_lo_set {Ad : Nat → Nat} {nL : Nat} {ls : mm_Ls} {L L' : Array Slot} {i : Nat} {v : mm_V} {lv' : List (Nat × Value)} (h : mm_Lo Ad nL ls L) (hk : mm_ok ls i = true)
    (hl : (i, mm_cc Ad v) :: (mm_as Ad ls 0).filter (fun q => !(q.1 == i) && !(q.1 + 1 == i && q.2.category == 2)) = lv') (h' : lv_has L' nL lv') : mm_Lo Ad nL (mm_set ls i (some v)) L' := by
  obtain ⟨hi, hp⟩ := mm_ok_lt ls i hk
  subst hl
  refine ⟨h'.1, h'.2.1, by rw [mm_set_len]; exact h.2.2.1, fun j w hj => ?_⟩
  rw [mm_nth_set ls i j hi] at hj
  by_cases hji : j = i
  · rw [if_pos hji] at hj
    cases hj
    rw [hji]
    exact h'.2.2 _ List.mem_cons_self
  · rw [if_neg hji] at hj
    refine h'.2.2 (j, mm_cc Ad w) (List.mem_cons_of_mem _ (List.mem_filter.mpr ⟨(mm_as_mem ls 0).mpr ⟨j, w, hj, by simp⟩, ?_⟩))
    simp only [Bool.and_eq_true, Bool.not_eq_true', beq_eq_false_iff_ne, ne_eq, Bool.and_eq_false_iff]
    refine ⟨hji, ?_⟩
    by_cases e : j + 1 = i
    · right
      rw [mm_catv, hp j w e hj]
      decide
    · exact Or.inl e
theorem mm_lo_set2 {Ad : Nat → Nat} {nL : Nat} {ls : mm_Ls} {L L' : Array Slot} {i : Nat} {v : mm_V} {lv' : List (Nat × Value)} (h : mm_Lo Ad nL ls L) (hk : mm_ok ls i = true) (hi1 : i + 1 < ls.length)
    (hl : (i, mm_cc Ad v) :: (mm_as Ad ls 0).filter (fun q => !(q.1 == i) && (!(q.1 == i + 1) && !(q.1 + 1 == i && q.2.category == 2))) = lv') (h' : lv_has L' nL lv') : mm_Lo Ad nL (mm_set (mm_set ls (i + 1) none) i (some v)) L' := by
  obtain ⟨hi, hp⟩ := mm_ok_lt ls i hk
  subst hl
  refine ⟨h'.1, h'.2.1, by rw [mm_set_len, mm_set_len]; exact h.2.2.1, fun j w hj => ?_⟩
  rw [mm_nth_set _ i j (by rw [mm_set_len]; exact hi)] at hj
  by_cases hji : j = i
  · rw [if_pos hji] at hj
    cases hj
    rw [hji]
    exact h'.2.2 _ List.mem_cons_self
  · rw [if_neg hji, mm_nth_set _ (i + 1) j hi1] at hj
    by_cases hji1 : j = i + 1
    · rw [if_pos hji1] at hj
      cases hj
    · rw [if_neg hji1] at hj
      refine h'.2.2 (j, mm_cc Ad w) (List.mem_cons_of_mem _ (List.mem_filter.mpr ⟨(mm_as_mem ls 0).mpr ⟨j, w, hj, by simp⟩, ?_⟩))
      simp only [Bool.and_eq_true, Bool.not_eq_true', beq_eq_false_iff_ne, ne_eq, Bool.and_eq_false_iff]
      refine ⟨hji, hji1, ?_⟩
      by_cases e : j + 1 = i
      · right
        rw [mm_catv, hp j w e hj]
        decide
      · exact Or.inl e
/-! numbers -/
theorem mm_toInt {x : Int} (h : InI x) : (Int32.ofInt x).toInt = x := Int32.toInt_ofInt_of_le (by have := h.1; omega) (by have := h.2; omega)
theorem mm_toL {x : Int} (h : InL x) : (Int64.ofInt x).toInt = x := Int64.toInt_ofInt_of_le (by have := h.1; omega) (by have := h.2; omega)
theorem mm_inj {x y : Int} (hx : InI x) (hy : InI y) : Int32.ofInt x = Int32.ofInt y ↔ x = y := ⟨fun h => by rw [← mm_toInt hx, ← mm_toInt hy, h], fun h => by rw [h]⟩
theorem mm_lt {x y : Int} (hx : InI x) (hy : InI y) : Int32.ofInt x < Int32.ofInt y ↔ x < y := by rw [Int32.lt_iff_toInt_lt, mm_toInt hx, mm_toInt hy]
theorem mm_le {x y : Int} (hx : InI x) (hy : InI y) : Int32.ofInt x ≤ Int32.ofInt y ↔ x ≤ y := by rw [Int32.le_iff_toInt_le, mm_toInt hx, mm_toInt hy]
theorem mm_z0 : (0 : Int32) = Int32.ofInt 0 := rfl
theorem mm_i0 : InI 0 := by unfold InI; omega
theorem mm_vin {a : Int} {n : Nat} (h : 0 ≤ a ∧ a < (n : Int)) (hn : n < 2147483648) : vp_in (Int32.ofInt a) n ∧ (Int32.ofInt a).toNatClampNeg = a.toNat := by
  have hi : InI a := ⟨by omega, by omega⟩
  have e := mm_toInt hi
  constructor
  · rw [vp_in_iff, e]
    exact h
  · show (Int32.ofInt a).toInt.toNat = a.toNat
    rw [e]
theorem mm_div {a b : Int} (ha : InI a) (hb : InI b) (h : 0 < b) : Int32.ofInt a / Int32.ofInt b = Int32.ofInt (a.tdiv b) := (Int32.ofInt_tdiv (by exact ha.1) (by have := ha.2; show a ≤ 2147483647; omega) (by exact hb.1) (by have := hb.2; show b ≤ 2147483647; omega)).symm
theorem mm_rem {a b : Int} (ha : InI a) (hb : InI b) (h : 0 < b) : Int32.ofInt a - Int32.ofInt a / Int32.ofInt b * Int32.ofInt b = Int32.ofInt (a.tmod b) := by
  rw [mm_div ha hb h, ← Int32.ofInt_mul, ← Int32.ofInt_sub]
  congr 1
  have := Int.mul_tdiv_add_tmod a b
  rw [Int.mul_comm b] at this
  omega
theorem mm_sm : ∀ k : Nat, k < 32 → ((Int32.ofNat k &&& 31).toBitVec.smod 32).toNat = k := by decide +kernel
theorem mm_sm2 {b : Int} (h : 0 ≤ b ∧ b < 32) : ((Int32.ofInt b &&& 31).toBitVec.smod 32).toNat = b.toNat := by
  obtain ⟨k, rfl⟩ := Int.eq_ofNat_of_zero_le h.1
  rw [Int32.ofInt_eq_ofNat]
  exact mm_sm k (by omega)
theorem mm_shl {a b : Int} (h : 0 ≤ b ∧ b < 32) : Int32.ofInt a <<< (Int32.ofInt b &&& 31) = Int32.ofInt (a * 2 ^ b.toNat) := by
  apply Int32.toBitVec_inj.mp
  show (Int32.ofInt a).toBitVec <<< ((Int32.ofInt b &&& 31).toBitVec.smod 32).toNat = _
  rw [mm_sm2 h, Int32.toBitVec_ofInt, Int32.toBitVec_ofInt, BitVec.ofInt_mul, BitVec.shiftLeft_eq_mul_twoPow]
  congr 1
  apply BitVec.eq_of_toNat_eq
  have e : (2 : Int) ^ b.toNat = ((2 ^ b.toNat : Nat) : Int) := by norm_cast
  rw [BitVec.toNat_twoPow, BitVec.toNat_ofInt, e]
  norm_cast
theorem mm_shr {a b : Int} (ha : InI a) (h : 0 ≤ b ∧ b < 32) : Int32.ofInt a >>> (Int32.ofInt b &&& 31) = Int32.ofInt (a / 2 ^ b.toNat) := by
  apply Int32.toInt_inj.mp
  rw [pk_shr _ _ _ (mm_sm2 h), mm_toInt ha, Int.shiftRight_eq_div_pow]
  have hp : (0 : Int) < 2 ^ b.toNat := Int.pow_pos (by decide)
  have h1 : (-2147483648 : Int) ≤ a / 2 ^ b.toNat := by
    by_cases hn : a < 0
    · have := Int.le_ediv_of_mul_le hp (a := -2147483648) (b := a) (c := 2 ^ b.toNat) (by
        have h2 : (1 : Int) ≤ 2 ^ b.toNat := hp
        have := ha.1
        have : (-2147483648 : Int) * 2 ^ b.toNat ≤ -2147483648 * 1 := by
          omega
        omega)
      exact this
    · have := Int.ediv_nonneg (Int.not_lt.mp hn) (Int.le_of_lt hp)
      omega
  have h2 : a / 2 ^ b.toNat < 2147483648 := by
    by_cases hn : a < 0
    · have := Int.ediv_neg_of_neg_of_pos hn hp
      omega
    · have := Int.ediv_le_self (2 ^ b.toNat) (Int.not_lt.mp hn)
      have := ha.2
      omega
  rw [mm_toInt ⟨h1, h2⟩]
  norm_cast
