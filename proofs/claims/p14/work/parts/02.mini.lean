section
/-! THE SMALL MACHINE: the bytecode's steps over whole numbers (conc: Int32.ofInt), objects by number, the heap as a function of object and place; a step is a predicate transformer. -/
abbrev mm_V : Type := Int ⊕ (Int ⊕ (Nat ⊕ Nat))
abbrev mm_I (x : Int) : mm_V := Sum.inl x
abbrev mm_L (x : Int) : mm_V := Sum.inr (Sum.inl x)
abbrev mm_R (x : Nat) : mm_V := Sum.inr (Sum.inr (Sum.inl x))
abbrev mm_X (x : Nat) : mm_V := Sum.inr (Sum.inr (Sum.inr x))
abbrev mm_M : Type := Nat → Nat → Int
abbrev mm_Ls : Type := List (Option mm_V)
abbrev mm_O : Type := Option mm_V ⊕ Nat
abbrev mm_Q : Type := mm_O → mm_M → List Nat → Prop
abbrev mm_S : Type := List mm_V → mm_M → List Nat → mm_Q → Prop
abbrev mm_K : Type := mm_Ls → List mm_V → mm_M → List Nat → Nat → Prop
abbrev mm_E : Type := Nat × Instr × Nat
/-- a call of the pool: how (0 virtual, 1 static), how many values, the receiver's kind, what it does, its room -/
abbrev mm_Ca : Type := Nat × Nat × Nat × mm_S × Nat
def mm_nth {α : Type} : List α → Nat → Option α
  | [], _ => none
  | a :: _, 0 => some a
  | _ :: l, n + 1 => mm_nth l n
def mm_set {α : Type} : List α → Nat → α → List α
  | [], _, _ => []
  | _ :: l, 0, x => x :: l
  | a :: l, n + 1, x => a :: mm_set l n x
def mm_isL : Option (Option mm_V) → Bool
  | some (some (.inr (.inl _))) => true
  | _ => false
/-- a place may be stored to: it is there, and isn't a long's second half that is alive -/
def mm_ok : mm_Ls → Nat → Bool
  | [], _ => false
  | _ :: _, 0 => true
  | a :: l, n + 1 => (match n with | 0 => !(mm_isL (some a)) | _ => true) && mm_ok l n
def mm_cat : mm_V → Nat
  | .inr (.inl _) => 2
  | _ => 1
def mm_cats : List mm_V → Nat
  | [] => 0
  | v :: l => mm_cat v + mm_cats l
def InI (x : Int) : Prop := -2147483648 ≤ x ∧ x < 2147483648
def InL (x : Int) : Prop := -9223372036854775808 ≤ x ∧ x < 9223372036854775808
def mm_up (M : mm_M) (o k : Nat) (v : Int) : mm_M := fun o' k' => if o' = o ∧ k' = k then v else M o' k'
def mm_w (a : Int) : Int := (Int32.ofInt a).toInt
def mm_and (a b : Int) : Int := (Int32.ofInt a &&& Int32.ofInt b).toInt
def mm_or (a b : Int) : Int := (Int32.ofInt a ||| Int32.ofInt b).toInt
def mm_xor (a b : Int) : Int := (Int32.ofInt a ^^^ Int32.ofInt b).toInt
/-- what an object is: 1 an int row, 2 the row of walks, 3 a byte row, 4 the script, 10 + n an object of class n -/
def mm_kS : List Nat := [0, 10, 11, 1, 1, 1, 1, 2, 12, 1, 12, 1, 12, 1, 12, 1, 13, 14, 1, 1, 1, 1, 1, 15, 0, 0, 0, 0, 0, 3]
def mm_nS : List Nat := [0, 0, 0, 30, 30, 10, 10, 3, 0, 30, 0, 30, 0, 30, 0, 30, 0, 0, 30, 30, 120, 4, 4, 0, 0, 0, 0, 0, 0, 1]
def mm_kd (M : mm_M) (o : Nat) : Nat := bif decide (o < 100) then (mm_nth mm_kS o).getD 0 else (M 0 (2 * o)).toNat
def mm_ln (M : mm_M) (o : Nat) : Nat := bif decide (o < 100) then (mm_nth mm_nS o).getD 0 else (M 0 (2 * o + 1)).toNat
def mm_st : List Nat := [1, 2, 3, 4, 5, 6, 7, 8, 9, 10, 11, 12, 13, 14, 15, 16, 17, 18, 19, 20, 21, 22, 23]
def mm_ids (d : List Nat) : List Nat := mm_st ++ d
def mm_is (M : mm_M) (d : List Nat) (o rc : Nat) : Prop := mm_kd M o = rc ∧ o ∈ mm_ids d
/-- ids that never change: 24, 25 the rows of digits; 28 a text of one letter, 29 its row -/
def mm_isC (M : mm_M) (d : List Nat) (o rc : Nat) : Prop := mm_kd M o = rc ∧ (o ∈ mm_ids d ∨ o = 29)
/-- a new object: nothing in it yet; a row of any content -/
def mm_nob (M : mm_M) (o k : Nat) (n : Int) : mm_M := fun x j => if x = o then 0 else if x = 0 ∧ j = 2 * o then (k : Int) else if x = 0 ∧ j = 2 * o + 1 then n else M x j
def mm_any (M : mm_M) (o : Nat) (h : Nat → Int) : mm_M := fun x j => if x = o then h j else M x j
/-- the fields of a class: what each is (0 int, 1 boolean, 2 long, 3 a reference that changes, 4 a text, 5 a fixed object, 6 a fixed object by its distance, 7 byte, 8 and 9 a text's final row and byte) -/
def mm_ft : Nat → List (Nat × Nat)
  | 10 => [(5, 2), (5, 7), (5, 14), (5, 16), (0, 0), (0, 0), (0, 0)]
  | 11 => [(5, 3), (5, 4), (5, 5), (5, 6), (0, 0), (1, 0), (0, 0), (0, 0)]
  | 12 => [(5, 2), (6, 1), (0, 0), (0, 0)]
  | 13 => [(5, 2), (3, 0), (0, 0), (0, 0), (1, 0)]
  | 14 => [(0, 0), (0, 0), (5, 18), (5, 19), (1, 0), (0, 0), (0, 0), (5, 20), (5, 21), (5, 22), (0, 0), (0, 0), (0, 0), (1, 0), (0, 0), (0, 0), (0, 0)]
  | 15 => [(2, 0), (4, 0)]
  | 16 => [(3, 0), (7, 0), (1, 0), (0, 0)]
  | 17 => [(8, 0), (9, 0), (0, 0), (1, 0)]
  | _ => []
def mm_fv (ft base o : Nat) (x : Int) : mm_V :=
  match ft with
  | 0 => mm_I x
  | 1 => mm_I x
  | 2 => mm_L x
  | 3 => mm_R x.toNat
  | 4 => if x ≤ 0 then mm_R 0 else mm_X (x - 1).toNat
  | 5 => mm_R base
  | 6 => mm_R (o + base)
  | 8 => mm_R x.toNat
  | _ => mm_I x
def mm_pf (ft : Nat) (v : mm_V) (K : Int → Prop) : Prop :=
  match ft, v with
  | 0, .inl x => K x
  | 1, .inl x => (x = 0 ∨ x = 1) ∧ K x
  | 2, .inr (.inl x) => K x
  | 3, .inr (.inr (.inl o)) => K (o : Int)
  | 4, .inr (.inr (.inr q)) => K ((q : Int) + 1)
  | 7, .inl x => x = 0 ∧ K x
  | _, _ => False
def mm_rv (st : List mm_V) (n rc : Nat) (M : mm_M) (d : List Nat) : Prop :=
  match rc with
  | 0 => True
  | 6 => match mm_nth st (n - 1) with
    | some (.inr (.inr (.inl o))) => o = 28
    | _ => False
  | rc + 1 => match mm_nth st (n - 1) with
    | some (.inr (.inr (.inl o))) => mm_is M d o (rc + 1)
    | _ => False
/-- a text's final fields, set as it is made -/
def mm_pS (n : Nat) (v : mm_V) (K : Int → Prop) : Prop :=
  match n, v with
  | 0, .inr (.inr (.inl a)) => K (a : Int)
  | 1, .inl x => x = 0 ∧ K x
  | _, _ => False
def mm_push (r : Option mm_V) (st : List mm_V) : List mm_V := match r with
  | none => st
  | some v => v :: st
def mm_isRet (rt : Nat) (i : Instr) (st : List mm_V) : Option (Option mm_V) :=
  match i, rt, st with
  | .return_, 0, [] => some none
  | .ireturn, 1, [.inl x] => some (some (mm_I x))
  | .ireturn, 2, [.inl x] => some (some (mm_I x))
  | .lreturn, 3, [.inr (.inl x)] => some (some (mm_L x))
  | .areturn, 4, [.inr (.inr v)] => some (some (.inr (.inr v)))
  | .ireturn, 5, [.inl x] => some (some (mm_I x))
  | .return_, 20, [] => some none
  | .ireturn, 21, [.inl x] => some (some (mm_I x))
  | .areturn, 24, [.inr (.inr v)] => some (some (.inr (.inr v)))
  | _, _, _ => none
def mm_bool (rt : Nat) (r : Option mm_V) : Prop := match rt, r with
  | 2, some (.inl x) => x = 0 ∨ x = 1
  | 5, some (.inl x) => x = 0
  | _, _ => True
def mm_ret (rt mu : Nat) (i : Instr) (st : List mm_V) (M : mm_M) (d : List Nat) (u : Nat) (Qr : mm_Q) : Prop :=
  match mm_isRet rt i st with
  | some r => mm_bool rt r ∧ u ≤ mu ∧ Qr (.inl r) M d
  | none => False
def mm_call (C : Nat → Option mm_Ca) (mu : Nat) (hn : Nat → Nat → Option Nat) (Qr : mm_Q) (how idx pc : Nat) (ls : mm_Ls) (st : List mm_V) (M : mm_M) (d : List Nat) (u : Nat) (Kn : mm_K) (Kj : Nat → mm_K) : Prop :=
  match C idx with
  | some (h, n, rc, sp, mu') => h = how ∧ n ≤ st.length ∧ mm_rv st n rc M d ∧ mm_cats (st.drop n) ≤ 8 ∧ u + mu' ≤ mu ∧
      sp (st.take n).reverse M d (fun o M' d' => match o with
        | .inl r => Kn ls (mm_push r (st.drop n)) M' d' (u + mu')
        | .inr k => match hn pc k with
          | none => Qr (.inr k) M' d'
          | some hpc => ∀ q : Nat, Kj hpc ls [mm_X q] M' d' (u + mu'))
  | none => False
def mm_thr (X : Nat → Nat → Nat → Option Nat) (mu : Nat) (hn : Nat → Nat → Option Nat) (Qr : mm_Q) (idx pc : Nat) (rest : List mm_E) (st : List mm_V) (M : mm_M) (d : List Nat) (u : Nat) : Prop :=
  match rest with
  | (_, .dup, _) :: (_, .ldc_w is, _) :: (_, .invokespecial ic, _) :: (_, .athrow, _) :: _ => match X idx is ic with
    | some k => st = [] ∧ u + 1 ≤ mu ∧ Qr (.inr k) M d
    | none => False
  | _ => False
/-- the row's length, of a byte row; a copy of bytes; a row's clone -/
def mm_lenJ (st : List mm_V) (M : mm_M) (d : List Nat) (K : List mm_V → Prop) : Prop := match st with
  | .inr (.inr (.inl o)) :: r => mm_isC M d o 3 ∧ mm_ln M o < 2147483648 ∧ K (mm_I (mm_ln M o : Int) :: r)
  | _ => False
def mm_copyJ (st : List mm_V) (M : mm_M) (d : List Nat) (K : List mm_V → mm_M → Prop) : Prop := match st with
  | .inl n :: .inl dp :: .inr (.inr (.inl b)) :: .inl sp :: .inr (.inr (.inl a)) :: r => mm_isC M d a 3 ∧ mm_is M d b 3 ∧ 0 ≤ n ∧ 0 ≤ sp ∧ 0 ≤ dp ∧ sp + n ≤ (mm_ln M a : Int) ∧ dp + n ≤ (mm_ln M b : Int) ∧ mm_ln M a < 2147483648 ∧ mm_ln M b < 2147483648 ∧ mm_cats r ≤ 8 ∧ ∀ h : Nat → Int, K r (mm_any M b h)
  | _ => False
def mm_cloneJ (mu : Nat) (st : List mm_V) (M : mm_M) (d : List Nat) (u : Nat) (K : List mm_V → mm_M → List Nat → Nat → Prop) : Prop := match st with
  | .inr (.inr (.inl a)) :: r => mm_is M d a 3 ∧ u + 1 + mm_ln M a / 12 ≤ mu ∧ mm_cats r ≤ 8 ∧ ∀ (o : Nat) (h : Nat → Int), 100 ≤ o → o ∉ d → K (mm_R o :: r) (mm_any (mm_nob M o 3 (mm_ln M a : Int)) o h) (d ++ [o]) (u + 1 + mm_ln M a / 12)
  | _ => False
/-- one instruction -/
def mm_op (F : Nat → Option (Nat × Nat)) (C : Nat → Option mm_Ca) (X : Nat → Nat → Nat → Option Nat) (LC : Nat → Option Int) (SC : Nat → Option (Nat × (Nat → Int32))) (rt mu : Nat) (hn : Nat → Nat → Option Nat) (Qr : mm_Q) (pc : Nat) (i : Instr) (tgt : Nat) (rest : List mm_E)
    (ls : mm_Ls) (st : List mm_V) (M : mm_M) (d : List Nat) (u : Nat) (Kn : mm_K) (Kj : Nat → mm_K) : Prop :=
  match i with
  | .iconst n => Kn ls (mm_I n :: st) M d u
  | .bipush n => (-128 ≤ n ∧ n < 128) ∧ Kn ls (mm_I n :: st) M d u
  | .sipush n => (-32768 ≤ n ∧ n < 32768) ∧ Kn ls (mm_I n :: st) M d u
  | .lconst n => Kn ls (mm_L (n.val : Int) :: st) M d u
  | .ldc2_w k => match LC k with
    | some x => Kn ls (mm_L x :: st) M d u
    | none => False
  | .aconst_null => Kn ls (mm_R 0 :: st) M d u
  | .iload n => match mm_nth ls n with
    | some (some (.inl x)) => Kn ls (mm_I x :: st) M d u
    | _ => False
  | .iload_n n => match mm_nth ls n.val with
    | some (some (.inl x)) => Kn ls (mm_I x :: st) M d u
    | _ => False
  | .lload n => match mm_nth ls n with
    | some (some (.inr (.inl x))) => Kn ls (mm_L x :: st) M d u
    | _ => False
  | .lload_n n => match mm_nth ls n.val with
    | some (some (.inr (.inl x))) => Kn ls (mm_L x :: st) M d u
    | _ => False
  | .aload n => match mm_nth ls n with
    | some (some (.inr (.inr v))) => Kn ls (.inr (.inr v) :: st) M d u
    | _ => False
  | .aload_n n => match mm_nth ls n.val with
    | some (some (.inr (.inr v))) => Kn ls (.inr (.inr v) :: st) M d u
    | _ => False
  | .istore n => match st with
    | .inl x :: r => mm_ok ls n = true ∧ Kn (mm_set ls n (some (mm_I x))) r M d u
    | _ => False
  | .istore_n n => match st with
    | .inl x :: r => mm_ok ls n.val = true ∧ Kn (mm_set ls n.val (some (mm_I x))) r M d u
    | _ => False
  | .lstore n => match st with
    | .inr (.inl x) :: r => mm_ok ls n = true ∧ n + 1 < ls.length ∧ Kn (mm_set (mm_set ls (n + 1) none) n (some (mm_L x))) r M d u
    | _ => False
  | .lstore_n n => match st with
    | .inr (.inl x) :: r => mm_ok ls n.val = true ∧ n.val + 1 < ls.length ∧ Kn (mm_set (mm_set ls (n.val + 1) none) n.val (some (mm_L x))) r M d u
    | _ => False
  | .astore n => match st with
    | .inr (.inr v) :: r => mm_ok ls n = true ∧ Kn (mm_set ls n (some (.inr (.inr v)))) r M d u
    | _ => False
  | .astore_n n => match st with
    | .inr (.inr v) :: r => mm_ok ls n.val = true ∧ Kn (mm_set ls n.val (some (.inr (.inr v)))) r M d u
    | _ => False
  | .iinc n x => match mm_nth ls n with
    | some (some (.inl y)) => mm_ok ls n = true ∧ Kn (mm_set ls n (some (mm_I (y + x)))) st M d u
    | _ => False
  | .iadd => match st with
    | .inl b :: .inl a :: r => Kn ls (mm_I (a + b) :: r) M d u
    | _ => False
  | .isub => match st with
    | .inl b :: .inl a :: r => Kn ls (mm_I (a - b) :: r) M d u
    | _ => False
  | .imul => match st with
    | .inl b :: .inl a :: r => Kn ls (mm_I (a * b) :: r) M d u
    | _ => False
  | .idiv => match st with
    | .inl b :: .inl a :: r => InI a ∧ InI b ∧ 0 < b ∧ Kn ls (mm_I (a.tdiv b) :: r) M d u
    | _ => False
  | .irem => match st with
    | .inl b :: .inl a :: r => InI a ∧ InI b ∧ 0 < b ∧ Kn ls (mm_I (a.tmod b) :: r) M d u
    | _ => False
  | .ineg => match st with
    | .inl a :: r => Kn ls (mm_I (-a) :: r) M d u
    | _ => False
  | .iand => match st with
    | .inl b :: .inl a :: r => Kn ls (mm_I (mm_and a b) :: r) M d u
    | _ => False
  | .ior => match st with
    | .inl b :: .inl a :: r => Kn ls (mm_I (mm_or a b) :: r) M d u
    | _ => False
  | .ixor => match st with
    | .inl b :: .inl a :: r => Kn ls (mm_I (mm_xor a b) :: r) M d u
    | _ => False
  | .ishl => match st with
    | .inl b :: .inl a :: r => (0 ≤ b ∧ b < 32) ∧ Kn ls (mm_I (a * 2 ^ b.toNat) :: r) M d u
    | _ => False
  | .ishr => match st with
    | .inl b :: .inl a :: r => InI a ∧ (0 ≤ b ∧ b < 32) ∧ Kn ls (mm_I (a / 2 ^ b.toNat) :: r) M d u
    | _ => False
  | .i2l => match st with
    | .inl a :: r => Kn ls (mm_L (mm_w a) :: r) M d u
    | _ => False
  | .ladd => match st with
    | .inr (.inl b) :: .inr (.inl a) :: r => Kn ls (mm_L (a + b) :: r) M d u
    | _ => False
  | .lmul => match st with
    | .inr (.inl b) :: .inr (.inl a) :: r => Kn ls (mm_L (a * b) :: r) M d u
    | _ => False
  | .lcmp => match st with
    | .inr (.inl b) :: .inr (.inl a) :: r => (a = b ∨ (InL a ∧ InL b)) ∧ Kn ls (mm_I (if a = b then 0 else if a < b then -1 else 1) :: r) M d u
    | _ => False
  | .dup => match st with
    | .inr (.inl _) :: _ => False
    | v :: r => Kn ls (v :: v :: r) M d u
    | _ => False
  | .dup2 => match st with
    | v :: w :: r => mm_cat v = 1 ∧ mm_cat w = 1 ∧ Kn ls (v :: w :: v :: w :: r) M d u
    | _ => False
  | .pop => match st with
    | .inr (.inl _) :: _ => False
    | _ :: r => Kn ls r M d u
    | _ => False
  | .pop2 => match st with
    | .inr (.inl _) :: r => Kn ls r M d u
    | _ => False
  | .goto _ => Kj tgt ls st M d u
  | .ifCond .eq _ => match st with
    | .inl a :: r => InI a ∧ (a = 0 → Kj tgt ls r M d u) ∧ (a ≠ 0 → Kn ls r M d u)
    | _ => False
  | .ifCond .ne _ => match st with
    | .inl a :: r => InI a ∧ (a ≠ 0 → Kj tgt ls r M d u) ∧ (a = 0 → Kn ls r M d u)
    | _ => False
  | .ifCond .lt _ => match st with
    | .inl a :: r => InI a ∧ (a < 0 → Kj tgt ls r M d u) ∧ (0 ≤ a → Kn ls r M d u)
    | _ => False
  | .ifCond .ge _ => match st with
    | .inl a :: r => InI a ∧ (0 ≤ a → Kj tgt ls r M d u) ∧ (a < 0 → Kn ls r M d u)
    | _ => False
  | .ifCond .gt _ => match st with
    | .inl a :: r => InI a ∧ (0 < a → Kj tgt ls r M d u) ∧ (a ≤ 0 → Kn ls r M d u)
    | _ => False
  | .ifCond .le _ => match st with
    | .inl a :: r => InI a ∧ (a ≤ 0 → Kj tgt ls r M d u) ∧ (0 < a → Kn ls r M d u)
    | _ => False
  | .if_icmp .eq _ => match st with
    | .inl b :: .inl a :: r => InI a ∧ InI b ∧ (a = b → Kj tgt ls r M d u) ∧ (a ≠ b → Kn ls r M d u)
    | _ => False
  | .if_icmp .ne _ => match st with
    | .inl b :: .inl a :: r => InI a ∧ InI b ∧ (a ≠ b → Kj tgt ls r M d u) ∧ (a = b → Kn ls r M d u)
    | _ => False
  | .if_icmp .lt _ => match st with
    | .inl b :: .inl a :: r => InI a ∧ InI b ∧ (a < b → Kj tgt ls r M d u) ∧ (b ≤ a → Kn ls r M d u)
    | _ => False
  | .if_icmp .ge _ => match st with
    | .inl b :: .inl a :: r => InI a ∧ InI b ∧ (b ≤ a → Kj tgt ls r M d u) ∧ (a < b → Kn ls r M d u)
    | _ => False
  | .if_icmp .gt _ => match st with
    | .inl b :: .inl a :: r => InI a ∧ InI b ∧ (b < a → Kj tgt ls r M d u) ∧ (a ≤ b → Kn ls r M d u)
    | _ => False
  | .if_icmp .le _ => match st with
    | .inl b :: .inl a :: r => InI a ∧ InI b ∧ (a ≤ b → Kj tgt ls r M d u) ∧ (b < a → Kn ls r M d u)
    | _ => False
  | .if_acmp .eq _ => match st with
    | .inr (.inr (.inl b)) :: .inr (.inr (.inl a)) :: r => (a = 0 ∨ a ∈ mm_ids d) ∧ (b = 0 ∨ b ∈ mm_ids d) ∧ (a = b → Kj tgt ls r M d u) ∧ (a ≠ b → Kn ls r M d u)
    | _ => False
  | .if_acmp .ne _ => match st with
    | .inr (.inr (.inl b)) :: .inr (.inr (.inl a)) :: r => (a = 0 ∨ a ∈ mm_ids d) ∧ (b = 0 ∨ b ∈ mm_ids d) ∧ (a ≠ b → Kj tgt ls r M d u) ∧ (a = b → Kn ls r M d u)
    | _ => False
  | .ifnull _ => match st with
    | .inr (.inr (.inl a)) :: r => (a = 0 → Kj tgt ls r M d u) ∧ (a ≠ 0 → Kn ls r M d u)
    | _ => False
  | .ifnonnull _ => match st with
    | .inr (.inr (.inl a)) :: r => (a ≠ 0 → Kj tgt ls r M d u) ∧ (a = 0 → Kn ls r M d u)
    | _ => False
  | .getfield k => match F k, st with
    | some (0, 92), .inr (.inr (.inl o)) :: r => o = 28 ∧ Kn ls (mm_R 29 :: r) M d u
    | some (1, 92), .inr (.inr (.inl o)) :: r => o = 28 ∧ Kn ls (mm_I 0 :: r) M d u
    | some (rc, n), .inr (.inr (.inl o)) :: r => mm_is M d o rc ∧ (match mm_nth (mm_ft rc) n with
      | some (ft, base) => Kn ls (mm_fv ft base o (M o n) :: r) M d u
      | none => False)
    | _, _ => False
  | .putfield k => match F k, st with
    | some (rc, 91), v :: .inr (.inr (.inl o)) :: r => mm_is M d o 17 ∧ mm_pS rc v (fun x => Kn ls r (mm_up M o rc x) d u)
    | some (rc, n), v :: .inr (.inr (.inl o)) :: r => mm_is M d o rc ∧ (match mm_nth (mm_ft rc) n with
      | some (ft, _) => mm_pf ft v (fun x => Kn ls r (mm_up M o n x) d u)
      | none => False)
    | _, _ => False
  | .getstatic k => match F k with
    | some (0, 98) => Kn ls (mm_I 1 :: st) M d u
    | some (24, 98) => Kn ls (mm_R 24 :: st) M d u
    | some (25, 98) => Kn ls (mm_R 25 :: st) M d u
    | _ => False
  | .ldc k => match F k with
    | some (0, 97) => ∀ q : Nat, Kn ls (mm_X q :: st) M d u
    | some (28, 97) => Kn ls (mm_R 28 :: st) M d u
    | some (0, 96) => Kn ls (mm_I 2147483639 :: st) M d u
    | some (1, 96) => Kn ls (mm_I 2147483647 :: st) M d u
    | _ => False
  | .newarray .byte => match st with
    | .inl n :: r => (0 ≤ n ∧ n < 100000) ∧ u + 1 + n.toNat / 12 ≤ mu ∧ ∀ o : Nat, 100 ≤ o → o ∉ d → Kn ls (mm_R o :: r) (mm_nob M o 3 n) (d ++ [o]) (u + 1 + n.toNat / 12)
    | _ => False
  | .baload => match st with
    | .inl a :: .inr (.inr (.inl o)) :: r => (o = 24 ∨ o = 25) ∧ (0 ≤ a ∧ a < 100) ∧ ∀ x : Int, Kn ls (mm_I x :: r) M d u
    | _ => False
  | .bastore => match st with
    | .inl x :: .inl a :: .inr (.inr (.inl o)) :: r => mm_is M d o 3 ∧ (0 ≤ a ∧ a < (mm_ln M o : Int)) ∧ mm_ln M o < 2147483648 ∧ Kn ls r (mm_up M o a.toNat x) d u
    | _ => False
  | .i2b => match st with
    | .inl _ :: r => ∀ x : Int, Kn ls (mm_I x :: r) M d u
    | _ => False
  | .dup_x1 => match st with
    | v :: w :: r => mm_cat v = 1 ∧ mm_cat w = 1 ∧ Kn ls (v :: w :: v :: r) M d u
    | _ => False
  | .checkcast k => match F k, st with
    | some (0, 93), .inr (.inr (.inl o)) :: r => mm_is M d o 3 ∧ Kn ls (mm_R o :: r) M d u
    | _, _ => False
  | .invokespecial k => match F k, st with
    | some (0, 90), .inr (.inr (.inl o)) :: r => o ≠ 0 ∧ mm_cats r ≤ 8 ∧ Kn ls r M d u
    | _, _ => mm_call C mu hn Qr 2 k pc ls st M d u Kn Kj
  | .iaload => match st with
    | .inl a :: .inr (.inr (.inr q)) :: r => (match SC q with
      | some (n, xs) => (0 ≤ a ∧ a < (n : Int)) ∧ n < 2147483648 ∧ Kn ls (mm_I (xs a.toNat).toInt :: r) M d u
      | none => False)
    | .inl a :: .inr (.inr (.inl o)) :: r => mm_is M d o 1 ∧ (0 ≤ a ∧ a < (mm_ln M o : Int)) ∧ mm_ln M o < 2147483648 ∧ Kn ls (mm_I (M o a.toNat) :: r) M d u
    | _ => False
  | .iastore => match st with
    | .inl x :: .inl a :: .inr (.inr (.inl o)) :: r => mm_is M d o 1 ∧ (0 ≤ a ∧ a < (mm_ln M o : Int)) ∧ mm_ln M o < 2147483648 ∧ Kn ls r (mm_up M o a.toNat x) d u
    | _ => False
  | .aaload => match st with
    | .inl a :: .inr (.inr (.inl o)) :: r => mm_is M d o 2 ∧ (0 ≤ a ∧ a < (mm_ln M o : Int)) ∧ mm_ln M o < 2147483648 ∧ Kn ls (mm_R (8 + 2 * a.toNat) :: r) M d u
    | _ => False
  | .arraylength => match rt with
    | 20 => mm_lenJ st M d (fun st' => Kn ls st' M d u)
    | 21 => mm_lenJ st M d (fun st' => Kn ls st' M d u)
    | 24 => mm_lenJ st M d (fun st' => Kn ls st' M d u)
    | _ => match st with
    | .inr (.inr (.inr q)) :: r => (match SC q with
      | some (n, _) => n < 2147483648 ∧ Kn ls (mm_I (n : Int) :: r) M d u
      | none => False)
    | .inr (.inr (.inl o)) :: r => (mm_is M d o 1 ∨ mm_is M d o 2) ∧ mm_ln M o < 2147483648 ∧ Kn ls (mm_I (mm_ln M o : Int) :: r) M d u
    | _ => False
  | .invokevirtual k => match rt with
    | 24 => match F k with
      | some (0, 94) => mm_cloneJ mu st M d u (fun st' M' d' u' => Kn ls st' M' d' u')
      | _ => mm_call C mu hn Qr 0 k pc ls st M d u Kn Kj
    | _ => mm_call C mu hn Qr 0 k pc ls st M d u Kn Kj
  | .invokestatic k => match rt with
    | 24 => match F k with
      | some (0, 95) => mm_copyJ st M d (fun st' M' => Kn ls st' M' d u)
      | _ => mm_call C mu hn Qr 1 k pc ls st M d u Kn Kj
    | 20 => match F k with
      | some (0, 95) => mm_copyJ st M d (fun st' M' => Kn ls st' M' d u)
      | _ => mm_call C mu hn Qr 1 k pc ls st M d u Kn Kj
    | _ => mm_call C mu hn Qr 1 k pc ls st M d u Kn Kj
  | .new k => match F k with
    | some (rc, 99) => (rc = 16 ∨ rc = 17) ∧ u + 1 ≤ mu ∧ ∀ o : Nat, 100 ≤ o → o ∉ d → Kn ls (mm_R o :: st) (mm_nob M o rc 0) (d ++ [o]) (u + 1)
    | _ => mm_thr X mu hn Qr k pc rest st M d u
  | .return_ => mm_ret rt mu .return_ st M d u Qr
  | .ireturn => mm_ret rt mu .ireturn st M d u Qr
  | .lreturn => mm_ret rt mu .lreturn st M d u Qr
  | .areturn => mm_ret rt mu .areturn st M d u Qr
  | _ => False
/-- an instruction's length -/
def mm_len : Instr → Nat
  | .bipush _ => 2
  | .ldc _ => 2
  | .iload _ => 2
  | .lload _ => 2
  | .aload _ => 2
  | .istore _ => 2
  | .lstore _ => 2
  | .astore _ => 2
  | .newarray _ => 2
  | .sipush _ => 3
  | .ldc_w _ => 3
  | .ldc2_w _ => 3
  | .iinc _ _ => 3
  | .getfield _ => 3
  | .putfield _ => 3
  | .getstatic _ => 3
  | .invokevirtual _ => 3
  | .invokestatic _ => 3
  | .invokespecial _ => 3
  | .new _ => 3
  | .anewarray _ => 3
  | .checkcast _ => 3
  | .goto _ => 3
  | .ifCond _ _ => 3
  | .if_icmp _ _ => 3
  | .if_acmp _ _ => 3
  | .ifnull _ => 3
  | .ifnonnull _ => 3
  | _ => 1
def mm_tg (pc : Nat) (i : Instr) (t : Nat) : Bool :=
  match i with
  | .goto o => (pc : Int) + o == (t : Int)
  | .ifCond _ o => (pc : Int) + o == (t : Int)
  | .if_icmp _ o => (pc : Int) + o == (t : Int)
  | .if_acmp _ o => (pc : Int) + o == (t : Int)
  | .ifnull o => (pc : Int) + o == (t : Int)
  | .ifnonnull o => (pc : Int) + o == (t : Int)
  | _ => true
def mm_nx (pc : Nat) : List mm_E → Bool
  | [] => true
  | (q, _, _) :: _ => q == pc
/-- the list is the code -/
def mm_chk (b : ByteArray) : List mm_E → Bool
  | [] => true
  | (pc, i, t) :: r => decide (decode b pc = .ok (i, mm_len i)) && (mm_tg pc i t && (mm_nx (pc + mm_len i) r && mm_chk b r))
/-- the rest of the code from a place on -/
def mm_at (t : Nat) : List mm_E → List mm_E
  | [] => []
  | q :: r => bif q.1 == t then q :: r else mm_at t r
end
section
/-! names, by program out of claim/NAMES.whole.lean.txt -/
def RX0 : String := "Allstreets$Cursor"
def TX0 : u_T := fun k => match k with
  | 0 => ("Allstreets$Cursor", "town", "LAllstreets$Town;", true)
  | 1 => ("Allstreets$Cursor", "walk", "LAllstreets$Walk;", false)
  | 2 => ("Allstreets$Cursor", "place", "I", false)
  | 3 => ("Allstreets$Cursor", "told", "I", false)
  | _ => ("Allstreets$Cursor", "isLost", "Z", false)
def tyX0 : Nat → FieldType := fun k => match k with
  | 0 => .object "Allstreets$Town"
  | 1 => .object "Allstreets$Walk"
  | 2 => .int
  | 3 => .int
  | _ => .boolean
theorem nmX0 : ∀ a, a < 5 → ∀ b, b < 5 → a ≠ b → (TX0 a).2.1 ≠ (TX0 b).2.1 := by decide +kernel
theorem tyX0_ok : ∀ k, k < 5 → parseFieldDescriptor (TX0 k).2.2.1 = some (tyX0 k) := by decide +kernel
def RX1 : String := "Allstreets$Town"
def TX1 : u_T := fun k => match k with
  | 0 => ("Allstreets$Town", "froms", "[I", true)
  | 1 => ("Allstreets$Town", "tos", "[I", true)
  | 2 => ("Allstreets$Town", "outs", "[I", true)
  | 3 => ("Allstreets$Town", "ins", "[I", true)
  | 4 => ("Allstreets$Town", "count", "I", false)
  | 5 => ("Allstreets$Town", "oneWayOnly", "Z", false)
  | 6 => ("Allstreets$Town", "signs", "I", false)
  | _ => ("Allstreets$Town", "wordLength", "I", false)
def tyX1 : Nat → FieldType := fun k => match k with
  | 0 => .array .int
  | 1 => .array .int
  | 2 => .array .int
  | 3 => .array .int
  | 4 => .int
  | 5 => .boolean
  | 6 => .int
  | _ => .int
theorem nmX1 : ∀ a, a < 8 → ∀ b, b < 8 → a ≠ b → (TX1 a).2.1 ≠ (TX1 b).2.1 := by decide +kernel
theorem tyX1_ok : ∀ k, k < 8 → parseFieldDescriptor (TX1 k).2.2.1 = some (tyX1 k) := by decide +kernel
def RX2 : String := "Allstreets$Walk"
def TX2 : u_T := fun k => match k with
  | 0 => ("Allstreets$Walk", "town", "LAllstreets$Town;", true)
  | 1 => ("Allstreets$Walk", "steps", "[I", true)
  | 2 => ("Allstreets$Walk", "count", "I", false)
  | _ => ("Allstreets$Walk", "start", "I", false)
def tyX2 : Nat → FieldType := fun k => match k with
  | 0 => .object "Allstreets$Town"
  | 1 => .array .int
  | 2 => .int
  | _ => .int
theorem nmX2 : ∀ a, a < 4 → ∀ b, b < 4 → a ≠ b → (TX2 a).2.1 ≠ (TX2 b).2.1 := by decide +kernel
theorem tyX2_ok : ∀ k, k < 4 → parseFieldDescriptor (TX2 k).2.2.1 = some (tyX2 k) := by decide +kernel
def RX3 : String := "Allstreets"
def TX3 : u_T := fun k => match k with
  | 0 => ("Allstreets", "town", "LAllstreets$Town;", true)
  | 1 => ("Allstreets", "walks", "[LAllstreets$Walk;", true)
  | 2 => ("Allstreets", "trial", "LAllstreets$Walk;", true)
  | 3 => ("Allstreets", "pointer", "LAllstreets$Cursor;", true)
  | 4 => ("Allstreets", "acts", "I", false)
  | 5 => ("Allstreets", "refusals", "I", false)
  | _ => ("Allstreets", "knocks", "I", false)
def tyX3 : Nat → FieldType := fun k => match k with
  | 0 => .object "Allstreets$Town"
  | 1 => .array (.object "Allstreets$Walk")
  | 2 => .object "Allstreets$Walk"
  | 3 => .object "Allstreets$Cursor"
  | 4 => .int
  | 5 => .int
  | _ => .int
theorem nmX3 : ∀ a, a < 7 → ∀ b, b < 7 → a ≠ b → (TX3 a).2.1 ≠ (TX3 b).2.1 := by decide +kernel
theorem tyX3_ok : ∀ k, k < 7 → parseFieldDescriptor (TX3 k).2.2.1 = some (tyX3 k) := by decide +kernel
def RX4 : String := "AllstreetsLaw$Out"
def TX4 : u_T := fun k => match k with
  | 0 => ("AllstreetsLaw$Out", "n", "J", false)
  | _ => ("AllstreetsLaw$Out", "s", "Ljava/lang/String;", false)
def tyX4 : Nat → FieldType := fun k => match k with
  | 0 => .long
  | _ => .object "java/lang/String"
theorem nmX4 : ∀ a, a < 2 → ∀ b, b < 2 → a ≠ b → (TX4 a).2.1 ≠ (TX4 b).2.1 := by decide +kernel
theorem tyX4_ok : ∀ k, k < 2 → parseFieldDescriptor (TX4 k).2.2.1 = some (tyX4 k) := by decide +kernel
def RX5 : String := "AllstreetsModel"
def TX5 : u_T := fun k => match k with
  | 0 => ("AllstreetsModel", "thrown", "I", false)
  | 1 => ("AllstreetsModel", "streets", "I", false)
  | 2 => ("AllstreetsModel", "froms", "[I", true)
  | 3 => ("AllstreetsModel", "tos", "[I", true)
  | 4 => ("AllstreetsModel", "isOneWay", "Z", false)
  | 5 => ("AllstreetsModel", "signs", "I", false)
  | 6 => ("AllstreetsModel", "wordLength", "I", false)
  | 7 => ("AllstreetsModel", "steps", "[I", true)
  | 8 => ("AllstreetsModel", "lengths", "[I", true)
  | 9 => ("AllstreetsModel", "begins", "[I", true)
  | 10 => ("AllstreetsModel", "looked", "I", false)
  | 11 => ("AllstreetsModel", "place", "I", false)
  | 12 => ("AllstreetsModel", "told", "I", false)
  | 13 => ("AllstreetsModel", "isLost", "Z", false)
  | 14 => ("AllstreetsModel", "acts", "I", false)
  | 15 => ("AllstreetsModel", "undone", "I", false)
  | _ => ("AllstreetsModel", "knocks", "I", false)
def tyX5 : Nat → FieldType := fun k => match k with
  | 0 => .int
  | 1 => .int
  | 2 => .array .int
  | 3 => .array .int
  | 4 => .boolean
  | 5 => .int
  | 6 => .int
  | 7 => .array .int
  | 8 => .array .int
  | 9 => .array .int
  | 10 => .int
  | 11 => .int
  | 12 => .int
  | 13 => .boolean
  | 14 => .int
  | 15 => .int
  | _ => .int
theorem nmX5 : ∀ a, a < 17 → ∀ b, b < 17 → a ≠ b → (TX5 a).2.1 ≠ (TX5 b).2.1 := by decide +kernel
theorem tyX5_ok : ∀ k, k < 17 → parseFieldDescriptor (TX5 k).2.2.1 = some (tyX5 k) := by decide +kernel
def RL : String := "AllstreetsLaw"
abbrev cX0_init : ByteArray := prog_2_method_1_code
def yX0_init : MethodName := ⟨RX0, "<init>", "(LAllstreets$Town;)V"⟩
abbrev cX0_standOn : ByteArray := prog_2_method_2_code
def yX0_standOn : MethodName := ⟨RX0, "standOn", "(LAllstreets$Walk;I)V"⟩
abbrev cX0_vanish : ByteArray := prog_2_method_3_code
def yX0_vanish : MethodName := ⟨RX0, "vanish", "()V"⟩
abbrev cX0_loseOn : ByteArray := prog_2_method_4_code
def yX0_loseOn : MethodName := ⟨RX0, "loseOn", "(LAllstreets$Walk;)V"⟩
abbrev cX0_tell : ByteArray := prog_2_method_5_code
def yX0_tell : MethodName := ⟨RX0, "tell", "(Z)I"⟩
abbrev cX0_exchangeTold : ByteArray := prog_2_method_6_code
def yX0_exchangeTold : MethodName := ⟨RX0, "exchangeTold", "(I)I"⟩
abbrev cX0_letIn : ByteArray := prog_2_method_7_code
def yX0_letIn : MethodName := ⟨RX0, "letIn", "(I)I"⟩
abbrev cX0_removeTold : ByteArray := prog_2_method_8_code
def yX0_removeTold : MethodName := ⟨RX0, "removeTold", "()I"⟩
abbrev cX0_hasStep : ByteArray := prog_2_method_9_code
def yX0_hasStep : MethodName := ⟨RX0, "hasStep", "(Z)Z"⟩
abbrev cX0_placeAsked : ByteArray := prog_2_method_10_code
def yX0_placeAsked : MethodName := ⟨RX0, "placeAsked", "(Z)I"⟩
abbrev cX1_init : ByteArray := prog_3_method_1_code
def yX1_init : MethodName := ⟨RX1, "<init>", "()V"⟩
abbrev cX1_isCorner : ByteArray := prog_3_method_2_code
def yX1_isCorner : MethodName := ⟨RX1, "isCorner", "(I)Z"⟩
abbrev cX1_size : ByteArray := prog_3_method_3_code
def yX1_size : MethodName := ⟨RX1, "size", "()I"⟩
abbrev cX1_hasRoomFor : ByteArray := prog_3_method_4_code
def yX1_hasRoomFor : MethodName := ⟨RX1, "hasRoomFor", "(I)Z"⟩
abbrev cX1_isOneWay : ByteArray := prog_3_method_5_code
def yX1_isOneWay : MethodName := ⟨RX1, "isOneWay", "()Z"⟩
abbrev cX1_setOneWay : ByteArray := prog_3_method_6_code
def yX1_setOneWay : MethodName := ⟨RX1, "setOneWay", "(Z)V"⟩
abbrev cX1_isOfWords : ByteArray := prog_3_method_7_code
def yX1_isOfWords : MethodName := ⟨RX1, "isOfWords", "()Z"⟩
abbrev cX1_signCount : ByteArray := prog_3_method_8_code
def yX1_signCount : MethodName := ⟨RX1, "signCount", "()I"⟩
abbrev cX1_wordSize : ByteArray := prog_3_method_9_code
def yX1_wordSize : MethodName := ⟨RX1, "wordSize", "()I"⟩
abbrev cX1_signOf : ByteArray := prog_3_method_10_code
def yX1_signOf : MethodName := ⟨RX1, "signOf", "(I)I"⟩
abbrev cX1_addStreet : ByteArray := prog_3_method_11_code
def yX1_addStreet : MethodName := ⟨RX1, "addStreet", "(II)V"⟩
abbrev cX1_addRing : ByteArray := prog_3_method_12_code
def yX1_addRing : MethodName := ⟨RX1, "addRing", "(II)V"⟩
abbrev cX1_becomeWords : ByteArray := prog_3_method_13_code
def yX1_becomeWords : MethodName := ⟨RX1, "becomeWords", "(II)V"⟩
abbrev cX1_endWords : ByteArray := prog_3_method_14_code
def yX1_endWords : MethodName := ⟨RX1, "endWords", "()V"⟩
abbrev cX1_dropStreet : ByteArray := prog_3_method_15_code
def yX1_dropStreet : MethodName := ⟨RX1, "dropStreet", "(I)V"⟩
abbrev cX1_dropAll : ByteArray := prog_3_method_16_code
def yX1_dropAll : MethodName := ⟨RX1, "dropAll", "()V"⟩
abbrev cX1_swapEnds : ByteArray := prog_3_method_17_code
def yX1_swapEnds : MethodName := ⟨RX1, "swapEnds", "()V"⟩
abbrev cX1_fromOf : ByteArray := prog_3_method_18_code
def yX1_fromOf : MethodName := ⟨RX1, "fromOf", "(I)I"⟩
abbrev cX1_toOf : ByteArray := prog_3_method_19_code
def yX1_toOf : MethodName := ⟨RX1, "toOf", "(I)I"⟩
abbrev cX1_isLoop : ByteArray := prog_3_method_20_code
def yX1_isLoop : MethodName := ⟨RX1, "isLoop", "(I)Z"⟩
abbrev cX1_goalOf : ByteArray := prog_3_method_21_code
def yX1_goalOf : MethodName := ⟨RX1, "goalOf", "(I)I"⟩
abbrev cX1_sourceOf : ByteArray := prog_3_method_22_code
def yX1_sourceOf : MethodName := ⟨RX1, "sourceOf", "(I)I"⟩
abbrev cX1_leaving : ByteArray := prog_3_method_23_code
def yX1_leaving : MethodName := ⟨RX1, "leaving", "(II)I"⟩
abbrev cX1_comingTo : ByteArray := prog_3_method_24_code
def yX1_comingTo : MethodName := ⟨RX1, "comingTo", "(II)I"⟩
abbrev cX1_between : ByteArray := prog_3_method_25_code
def yX1_between : MethodName := ⟨RX1, "between", "(III)I"⟩
abbrev cX1_allStreets : ByteArray := prog_3_method_26_code
def yX1_allStreets : MethodName := ⟨RX1, "allStreets", "()I"⟩
abbrev cX1_outOf : ByteArray := prog_3_method_27_code
def yX1_outOf : MethodName := ⟨RX1, "outOf", "(I)I"⟩
abbrev cX1_inOf : ByteArray := prog_3_method_28_code
def yX1_inOf : MethodName := ⟨RX1, "inOf", "(I)I"⟩
abbrev cX1_oddCount : ByteArray := prog_3_method_29_code
def yX1_oddCount : MethodName := ⟨RX1, "oddCount", "(I)I"⟩
abbrev cX1_hangTogether : ByteArray := prog_3_method_30_code
def yX1_hangTogether : MethodName := ⟨RX1, "hangTogether", "(I)Z"⟩
abbrev cX1_isStartOf : ByteArray := prog_3_method_31_code
def yX1_isStartOf : MethodName := ⟨RX1, "isStartOf", "(II)Z"⟩
abbrev cX1_leastStart : ByteArray := prog_3_method_32_code
def yX1_leastStart : MethodName := ⟨RX1, "leastStart", "()I"⟩
abbrev cX1_waysAddUp : ByteArray := prog_3_method_33_code
def yX1_waysAddUp : MethodName := ⟨RX1, "waysAddUp", "()Z"⟩
abbrev cX1_stepOn : ByteArray := prog_3_method_34_code
def yX1_stepOn : MethodName := ⟨RX1, "stepOn", "(IIZ)I"⟩
abbrev cX1_stepToWhole : ByteArray := prog_3_method_35_code
def yX1_stepToWhole : MethodName := ⟨RX1, "stepToWhole", "(IIIZ)I"⟩
abbrev cX1_reachedInOnePass : ByteArray := prog_3_method_36_code
def yX1_reachedInOnePass : MethodName := ⟨RX1, "reachedInOnePass", "(II)I"⟩
abbrev cX1_countWays : ByteArray := prog_3_method_37_code
def yX1_countWays : MethodName := ⟨RX1, "countWays", "(I)V"⟩
abbrev cX1_isOddAsCounted : ByteArray := prog_3_method_38_code
def yX1_isOddAsCounted : MethodName := ⟨RX1, "isOddAsCounted", "(I)Z"⟩
abbrev cX1_isIn : ByteArray := prog_3_method_39_code
def yX1_isIn : MethodName := ⟨RX1, "isIn", "(II)Z"⟩
abbrev cX2_init : ByteArray := prog_4_method_1_code
def yX2_init : MethodName := ⟨RX2, "<init>", "(LAllstreets$Town;)V"⟩
abbrev cX2_size : ByteArray := prog_4_method_2_code
def yX2_size : MethodName := ⟨RX2, "size", "()I"⟩
abbrev cX2_firstCorner : ByteArray := prog_4_method_3_code
def yX2_firstCorner : MethodName := ⟨RX2, "firstCorner", "()I"⟩
abbrev cX2_lastCorner : ByteArray := prog_4_method_4_code
def yX2_lastCorner : MethodName := ⟨RX2, "lastCorner", "()I"⟩
abbrev cX2_cornerOf : ByteArray := prog_4_method_5_code
def yX2_cornerOf : MethodName := ⟨RX2, "cornerOf", "(I)I"⟩
abbrev cX2_stepOf : ByteArray := prog_4_method_6_code
def yX2_stepOf : MethodName := ⟨RX2, "stepOf", "(I)I"⟩
abbrev cX2_placeOf : ByteArray := prog_4_method_7_code
def yX2_placeOf : MethodName := ⟨RX2, "placeOf", "(I)I"⟩
abbrev cX2_placeOfCorner : ByteArray := prog_4_method_8_code
def yX2_placeOfCorner : MethodName := ⟨RX2, "placeOfCorner", "(I)I"⟩
abbrev cX2_isHome : ByteArray := prog_4_method_9_code
def yX2_isHome : MethodName := ⟨RX2, "isHome", "()Z"⟩
abbrev cX2_isWhole : ByteArray := prog_4_method_10_code
def yX2_isWhole : MethodName := ⟨RX2, "isWhole", "()Z"⟩
abbrev cX2_hasBackward : ByteArray := prog_4_method_11_code
def yX2_hasBackward : MethodName := ⟨RX2, "hasBackward", "()Z"⟩
abbrev cX2_restart : ByteArray := prog_4_method_12_code
def yX2_restart : MethodName := ⟨RX2, "restart", "(I)V"⟩
abbrev cX2_renumberBehind : ByteArray := prog_4_method_13_code
def yX2_renumberBehind : MethodName := ⟨RX2, "renumberBehind", "(I)V"⟩
abbrev cX2_putIn : ByteArray := prog_4_method_14_code
def yX2_putIn : MethodName := ⟨RX2, "putIn", "(II)V"⟩
abbrev cX2_putAhead : ByteArray := prog_4_method_15_code
def yX2_putAhead : MethodName := ⟨RX2, "putAhead", "(I)V"⟩
abbrev cX2_takeOut : ByteArray := prog_4_method_16_code
def yX2_takeOut : MethodName := ⟨RX2, "takeOut", "(I)V"⟩
abbrev cX2_takeOutFirst : ByteArray := prog_4_method_17_code
def yX2_takeOutFirst : MethodName := ⟨RX2, "takeOutFirst", "()V"⟩
abbrev cX2_exchange : ByteArray := prog_4_method_18_code
def yX2_exchange : MethodName := ⟨RX2, "exchange", "(II)V"⟩
abbrev cX2_walkStreet : ByteArray := prog_4_method_19_code
def yX2_walkStreet : MethodName := ⟨RX2, "walkStreet", "(IZ)I"⟩
abbrev cX2_stepBack : ByteArray := prog_4_method_20_code
def yX2_stepBack : MethodName := ⟨RX2, "stepBack", "(Z)I"⟩
abbrev cX2_goOn : ByteArray := prog_4_method_21_code
def yX2_goOn : MethodName := ⟨RX2, "goOn", "(IZ)I"⟩
abbrev cX2_fillUp : ByteArray := prog_4_method_22_code
def yX2_fillUp : MethodName := ⟨RX2, "fillUp", "(Z)I"⟩
abbrev cX2_canTakeIn : ByteArray := prog_4_method_23_code
def yX2_canTakeIn : MethodName := ⟨RX2, "canTakeIn", "(LAllstreets$Walk;)Z"⟩
abbrev cX2_takeIn : ByteArray := prog_4_method_24_code
def yX2_takeIn : MethodName := ⟨RX2, "takeIn", "(LAllstreets$Walk;I)V"⟩
abbrev cX2_meetingPlace : ByteArray := prog_4_method_25_code
def yX2_meetingPlace : MethodName := ⟨RX2, "meetingPlace", "(LAllstreets$Walk;)I"⟩
abbrev cX2_giveOut : ByteArray := prog_4_method_26_code
def yX2_giveOut : MethodName := ⟨RX2, "giveOut", "(IILAllstreets$Walk;)V"⟩
abbrev cX2_turnOrder : ByteArray := prog_4_method_27_code
def yX2_turnOrder : MethodName := ⟨RX2, "turnOrder", "()V"⟩
abbrev cX2_turnSteps : ByteArray := prog_4_method_28_code
def yX2_turnSteps : MethodName := ⟨RX2, "turnSteps", "()V"⟩
abbrev cX2_turnBy : ByteArray := prog_4_method_29_code
def yX2_turnBy : MethodName := ⟨RX2, "turnBy", "(I)V"⟩
abbrev cX2_takeAllOf : ByteArray := prog_4_method_30_code
def yX2_takeAllOf : MethodName := ⟨RX2, "takeAllOf", "(LAllstreets$Walk;)V"⟩
abbrev cX2_fillInOrder : ByteArray := prog_4_method_31_code
def yX2_fillInOrder : MethodName := ⟨RX2, "fillInOrder", "(Z)V"⟩
abbrev cX2_becomeNeighbour : ByteArray := prog_4_method_32_code
def yX2_becomeNeighbour : MethodName := ⟨RX2, "becomeNeighbour", "(Z)I"⟩
abbrev cX2_isSameTurned : ByteArray := prog_4_method_33_code
def yX2_isSameTurned : MethodName := ⟨RX2, "isSameTurned", "(LAllstreets$Walk;I)Z"⟩
abbrev cX2_turnTo : ByteArray := prog_4_method_34_code
def yX2_turnTo : MethodName := ⟨RX2, "turnTo", "(LAllstreets$Walk;)I"⟩
abbrev cX2_placeOfWord : ByteArray := prog_4_method_35_code
def yX2_placeOfWord : MethodName := ⟨RX2, "placeOfWord", "(II)I"⟩
abbrev cX2_isTrueWalk : ByteArray := prog_4_method_36_code
def yX2_isTrueWalk : MethodName := ⟨RX2, "isTrueWalk", "()Z"⟩
abbrev cX2_leadsBack : ByteArray := prog_4_method_37_code
def yX2_leadsBack : MethodName := ⟨RX2, "leadsBack", "()Z"⟩
abbrev cX2_hasWord : ByteArray := prog_4_method_38_code
def yX2_hasWord : MethodName := ⟨RX2, "hasWord", "(II)Z"⟩
abbrev cX2_notWalked : ByteArray := prog_4_method_39_code
def yX2_notWalked : MethodName := ⟨RX2, "notWalked", "()I"⟩
abbrev cX3_init : ByteArray := prog_1_method_1_code
def yX3_init : MethodName := ⟨RX3, "<init>", "()V"⟩
abbrev cX3_lay : ByteArray := prog_1_method_2_code
def yX3_lay : MethodName := ⟨RX3, "lay", "(II)I"⟩
abbrev cX3_layRing : ByteArray := prog_1_method_3_code
def yX3_layRing : MethodName := ⟨RX3, "layRing", "(II)I"⟩
abbrev cX3_words : ByteArray := prog_1_method_4_code
def yX3_words : MethodName := ⟨RX3, "words", "(II)I"⟩
abbrev cX3_close : ByteArray := prog_1_method_5_code
def yX3_close : MethodName := ⟨RX3, "close", "(I)I"⟩
abbrev cX3_clear : ByteArray := prog_1_method_6_code
def yX3_clear : MethodName := ⟨RX3, "clear", "()I"⟩
abbrev cX3_oneWay : ByteArray := prog_1_method_7_code
def yX3_oneWay : MethodName := ⟨RX3, "oneWay", "(Z)I"⟩
abbrev cX3_turnTown : ByteArray := prog_1_method_8_code
def yX3_turnTown : MethodName := ⟨RX3, "turnTown", "()I"⟩
abbrev cX3_streets : ByteArray := prog_1_method_9_code
def yX3_streets : MethodName := ⟨RX3, "streets", "()I"⟩
abbrev cX3_end : ByteArray := prog_1_method_10_code
def yX3_end : MethodName := ⟨RX3, "end", "(IZ)I"⟩
abbrev cX3_ways : ByteArray := prog_1_method_11_code
def yX3_ways : MethodName := ⟨RX3, "ways", "(II)I"⟩
abbrev cX3_odd : ByteArray := prog_1_method_12_code
def yX3_odd : MethodName := ⟨RX3, "odd", "()I"⟩
abbrev cX3_hangs : ByteArray := prog_1_method_13_code
def yX3_hangs : MethodName := ⟨RX3, "hangs", "()Z"⟩
abbrev cX3_kind : ByteArray := prog_1_method_14_code
def yX3_kind : MethodName := ⟨RX3, "kind", "()I"⟩
abbrev cX3_isStart : ByteArray := prog_1_method_15_code
def yX3_isStart : MethodName := ⟨RX3, "isStart", "(I)Z"⟩
abbrev cX3_rule : ByteArray := prog_1_method_16_code
def yX3_rule : MethodName := ⟨RX3, "rule", "(I)I"⟩
abbrev cX3_begin : ByteArray := prog_1_method_17_code
def yX3_begin : MethodName := ⟨RX3, "begin", "(II)I"⟩
abbrev cX3_step : ByteArray := prog_1_method_18_code
def yX3_step : MethodName := ⟨RX3, "step", "(IIZ)I"⟩
abbrev cX3_back : ByteArray := prog_1_method_19_code
def yX3_back : MethodName := ⟨RX3, "back", "(IZ)I"⟩
abbrev cX3_on : ByteArray := prog_1_method_20_code
def yX3_on : MethodName := ⟨RX3, "on", "(IZ)I"⟩
abbrev cX3_complete : ByteArray := prog_1_method_21_code
def yX3_complete : MethodName := ⟨RX3, "complete", "(IZ)I"⟩
abbrev cX3_splice : ByteArray := prog_1_method_22_code
def yX3_splice : MethodName := ⟨RX3, "splice", "(III)I"⟩
abbrev cX3_join : ByteArray := prog_1_method_23_code
def yX3_join : MethodName := ⟨RX3, "join", "(II)I"⟩
abbrev cX3_cut : ByteArray := prog_1_method_24_code
def yX3_cut : MethodName := ⟨RX3, "cut", "(IIII)I"⟩
abbrev cX3_turnRound : ByteArray := prog_1_method_25_code
def yX3_turnRound : MethodName := ⟨RX3, "turnRound", "(I)I"⟩
abbrev cX3_rotate : ByteArray := prog_1_method_26_code
def yX3_rotate : MethodName := ⟨RX3, "rotate", "(II)I"⟩
abbrev cX3_first : ByteArray := prog_1_method_27_code
def yX3_first : MethodName := ⟨RX3, "first", "(IIZ)I"⟩
abbrev cX3_next : ByteArray := prog_1_method_28_code
def yX3_next : MethodName := ⟨RX3, "next", "(IZ)I"⟩
abbrev cX3_copy : ByteArray := prog_1_method_29_code
def yX3_copy : MethodName := ⟨RX3, "copy", "(II)I"⟩
abbrev cX3_length : ByteArray := prog_1_method_30_code
def yX3_length : MethodName := ⟨RX3, "length", "(I)I"⟩
abbrev cX3_cornerAt : ByteArray := prog_1_method_31_code
def yX3_cornerAt : MethodName := ⟨RX3, "cornerAt", "(II)I"⟩
abbrev cX3_stepAt : ByteArray := prog_1_method_32_code
def yX3_stepAt : MethodName := ⟨RX3, "stepAt", "(II)I"⟩
abbrev cX3_find : ByteArray := prog_1_method_33_code
def yX3_find : MethodName := ⟨RX3, "find", "(II)I"⟩
abbrev cX3_is : ByteArray := prog_1_method_34_code
def yX3_is : MethodName := ⟨RX3, "is", "(IZ)Z"⟩
abbrev cX3_same : ByteArray := prog_1_method_35_code
def yX3_same : MethodName := ⟨RX3, "same", "(II)Z"⟩
abbrev cX3_turnOf : ByteArray := prog_1_method_36_code
def yX3_turnOf : MethodName := ⟨RX3, "turnOf", "(II)I"⟩
abbrev cX3_text : ByteArray := prog_1_method_37_code
def yX3_text : MethodName := ⟨RX3, "text", "(II)Ljava/lang/String;"⟩
abbrev cX3_wordAt : ByteArray := prog_1_method_38_code
def yX3_wordAt : MethodName := ⟨RX3, "wordAt", "(III)I"⟩
abbrev cX3_cursor : ByteArray := prog_1_method_39_code
def yX3_cursor : MethodName := ⟨RX3, "cursor", "(II)I"⟩
abbrev cX3_cursorGo : ByteArray := prog_1_method_40_code
def yX3_cursorGo : MethodName := ⟨RX3, "cursorGo", "(Z)I"⟩
abbrev cX3_cursorSet : ByteArray := prog_1_method_41_code
def yX3_cursorSet : MethodName := ⟨RX3, "cursorSet", "(I)I"⟩
abbrev cX3_cursorAdd : ByteArray := prog_1_method_42_code
def yX3_cursorAdd : MethodName := ⟨RX3, "cursorAdd", "(I)I"⟩
abbrev cX3_cursorRemove : ByteArray := prog_1_method_43_code
def yX3_cursorRemove : MethodName := ⟨RX3, "cursorRemove", "()I"⟩
abbrev cX3_cursorCan : ByteArray := prog_1_method_44_code
def yX3_cursorCan : MethodName := ⟨RX3, "cursorCan", "(Z)Z"⟩
abbrev cX3_cursorPlace : ByteArray := prog_1_method_45_code
def yX3_cursorPlace : MethodName := ⟨RX3, "cursorPlace", "(Z)I"⟩
abbrev cX3_house : ByteArray := prog_1_method_46_code
def yX3_house : MethodName := ⟨RX3, "house", "(I)I"⟩
abbrev cX3_knock : ByteArray := prog_1_method_47_code
def yX3_knock : MethodName := ⟨RX3, "knock", "()I"⟩
abbrev cX3_isSound : ByteArray := prog_1_method_48_code
def yX3_isSound : MethodName := ⟨RX3, "isSound", "()Z"⟩
abbrev cX3_digest : ByteArray := prog_1_method_49_code
def yX3_digest : MethodName := ⟨RX3, "digest", "()J"⟩
abbrev cX3_counted : ByteArray := prog_1_method_50_code
def yX3_counted : MethodName := ⟨RX3, "counted", "(I)I"⟩
abbrev cX3_countedMove : ByteArray := prog_1_method_51_code
def yX3_countedMove : MethodName := ⟨RX3, "countedMove", "(LAllstreets$Walk;I)I"⟩
abbrev cX3_countedGrowth : ByteArray := prog_1_method_52_code
def yX3_countedGrowth : MethodName := ⟨RX3, "countedGrowth", "(LAllstreets$Walk;I)I"⟩
abbrev cX3_empty : ByteArray := prog_1_method_53_code
def yX3_empty : MethodName := ⟨RX3, "empty", "()V"⟩
abbrev cX3_anyIsBackward : ByteArray := prog_1_method_54_code
def yX3_anyIsBackward : MethodName := ⟨RX3, "anyIsBackward", "()Z"⟩
abbrev cX3_walkOf : ByteArray := prog_1_method_55_code
def yX3_walkOf : MethodName := ⟨RX3, "walkOf", "(I)LAllstreets$Walk;"⟩
abbrev cX3_checkCorner : ByteArray := prog_1_method_56_code
def yX3_checkCorner : MethodName := ⟨RX3, "checkCorner", "(I)V"⟩
abbrev cX3_checkStreet : ByteArray := prog_1_method_57_code
def yX3_checkStreet : MethodName := ⟨RX3, "checkStreet", "(I)V"⟩
abbrev cX3_checkIndex : ByteArray := prog_1_method_58_code
def yX3_checkIndex : MethodName := ⟨RX3, "checkIndex", "(II)V"⟩
abbrev cX3_checkRange : ByteArray := prog_1_method_59_code
def yX3_checkRange : MethodName := ⟨RX3, "checkRange", "(III)V"⟩
abbrev cX3_numberAt : ByteArray := prog_1_method_60_code
def yX3_numberAt : MethodName := ⟨RX3, "numberAt", "(LAllstreets$Walk;II)I"⟩
abbrev cX3_hasEachWordOnce : ByteArray := prog_1_method_61_code
def yX3_hasEachWordOnce : MethodName := ⟨RX3, "hasEachWordOnce", "(LAllstreets$Walk;)Z"⟩
abbrev cX3_digestOfTown : ByteArray := prog_1_method_62_code
def yX3_digestOfTown : MethodName := ⟨RX3, "digestOfTown", "(J)J"⟩
abbrev cX3_digestOfWalk : ByteArray := prog_1_method_63_code
def yX3_digestOfWalk : MethodName := ⟨RX3, "digestOfWalk", "(JI)J"⟩
abbrev cX3_mixed : ByteArray := prog_1_method_64_code
def yX3_mixed : MethodName := ⟨RX3, "mixed", "(JJ)J"⟩
abbrev cX3_numberOf : ByteArray := prog_1_method_65_code
def yX3_numberOf : MethodName := ⟨RX3, "numberOf", "(Z)I"⟩
abbrev cX3_powerOf : ByteArray := prog_1_method_66_code
def yX3_powerOf : MethodName := ⟨RX3, "powerOf", "(II)I"⟩
abbrev cX4_init : ByteArray := prog_6_method_1_code
def yX4_init : MethodName := ⟨RX4, "<init>", "()V"⟩
abbrev cX5_init : ByteArray := prog_7_method_1_code
def yX5_init : MethodName := ⟨RX5, "<init>", "()V"⟩
abbrev cX5_isIn : ByteArray := prog_7_method_3_code
def yX5_isIn : MethodName := ⟨RX5, "isIn", "(III)Z"⟩
abbrev cX5_one : ByteArray := prog_7_method_4_code
def yX5_one : MethodName := ⟨RX5, "one", "(Z)I"⟩
abbrev cX5_refuse : ByteArray := prog_7_method_5_code
def yX5_refuse : MethodName := ⟨RX5, "refuse", "(ZI)Z"⟩
abbrev cX5_start : ByteArray := prog_7_method_6_code
def yX5_start : MethodName := ⟨RX5, "start", "(ZI)Z"⟩
abbrev cX5_act : ByteArray := prog_7_method_7_code
def yX5_act : MethodName := ⟨RX5, "act", "(I)I"⟩
abbrev cX5_cannot : ByteArray := prog_7_method_8_code
def yX5_cannot : MethodName := ⟨RX5, "cannot", "()I"⟩
abbrev cX5_isNoCorner : ByteArray := prog_7_method_9_code
def yX5_isNoCorner : MethodName := ⟨RX5, "isNoCorner", "(I)Z"⟩
abbrev cX5_isNoStreet : ByteArray := prog_7_method_10_code
def yX5_isNoStreet : MethodName := ⟨RX5, "isNoStreet", "(I)Z"⟩
abbrev cX5_isNoWalk : ByteArray := prog_7_method_11_code
def yX5_isNoWalk : MethodName := ⟨RX5, "isNoWalk", "(I)Z"⟩
abbrev cX5_all : ByteArray := prog_7_method_12_code
def yX5_all : MethodName := ⟨RX5, "all", "()I"⟩
abbrev cX5_has : ByteArray := prog_7_method_13_code
def yX5_has : MethodName := ⟨RX5, "has", "(II)Z"⟩
abbrev cX5_waysOf : ByteArray := prog_7_method_14_code
def yX5_waysOf : MethodName := ⟨RX5, "waysOf", "(III)I"⟩
abbrev cX5_isOdd : ByteArray := prog_7_method_15_code
def yX5_isOdd : MethodName := ⟨RX5, "isOdd", "(II)Z"⟩
abbrev cX5_oddOf : ByteArray := prog_7_method_16_code
def yX5_oddOf : MethodName := ⟨RX5, "oddOf", "(I)I"⟩
abbrev cX5_hang : ByteArray := prog_7_method_17_code
def yX5_hang : MethodName := ⟨RX5, "hang", "(I)Z"⟩
abbrev cX5_isStartOf : ByteArray := prog_7_method_18_code
def yX5_isStartOf : MethodName := ⟨RX5, "isStartOf", "(II)Z"⟩
abbrev cX5_leastStart : ByteArray := prog_7_method_19_code
def yX5_leastStart : MethodName := ⟨RX5, "leastStart", "()I"⟩
abbrev cX5_kindOf : ByteArray := prog_7_method_20_code
def yX5_kindOf : MethodName := ⟨RX5, "kindOf", "()I"⟩
abbrev cX5_laid : ByteArray := prog_7_method_21_code
def yX5_laid : MethodName := ⟨RX5, "laid", "(II)V"⟩
abbrev cX5_endWords : ByteArray := prog_7_method_22_code
def yX5_endWords : MethodName := ⟨RX5, "endWords", "()V"⟩
abbrev cX5_emptied : ByteArray := prog_7_method_23_code
def yX5_emptied : MethodName := ⟨RX5, "emptied", "()V"⟩
abbrev cX5_goesFrom : ByteArray := prog_7_method_24_code
def yX5_goesFrom : MethodName := ⟨RX5, "goesFrom", "(I)I"⟩
abbrev cX5_comesTo : ByteArray := prog_7_method_25_code
def yX5_comesTo : MethodName := ⟨RX5, "comesTo", "(I)I"⟩
abbrev cX5_between : ByteArray := prog_7_method_26_code
def yX5_between : MethodName := ⟨RX5, "between", "(III)I"⟩
abbrev cX5_leaving : ByteArray := prog_7_method_27_code
def yX5_leaving : MethodName := ⟨RX5, "leaving", "(II)I"⟩
abbrev cX5_coming : ByteArray := prog_7_method_28_code
def yX5_coming : MethodName := ⟨RX5, "coming", "(II)I"⟩
abbrev cX5_stepOf : ByteArray := prog_7_method_29_code
def yX5_stepOf : MethodName := ⟨RX5, "stepOf", "(II)I"⟩
abbrev cX5_cornerOf : ByteArray := prog_7_method_30_code
def yX5_cornerOf : MethodName := ⟨RX5, "cornerOf", "(II)I"⟩
abbrev cX5_endOf : ByteArray := prog_7_method_31_code
def yX5_endOf : MethodName := ⟨RX5, "endOf", "(I)I"⟩
abbrev cX5_placeOf : ByteArray := prog_7_method_32_code
def yX5_placeOf : MethodName := ⟨RX5, "placeOf", "(II)I"⟩
abbrev cX5_setOf : ByteArray := prog_7_method_33_code
def yX5_setOf : MethodName := ⟨RX5, "setOf", "(I)I"⟩
abbrev cX5_isHome : ByteArray := prog_7_method_34_code
def yX5_isHome : MethodName := ⟨RX5, "isHome", "(I)Z"⟩
abbrev cX5_isWhole : ByteArray := prog_7_method_35_code
def yX5_isWhole : MethodName := ⟨RX5, "isWhole", "(I)Z"⟩
abbrev cX5_put : ByteArray := prog_7_method_36_code
def yX5_put : MethodName := ⟨RX5, "put", "(III)V"⟩
abbrev cX5_take : ByteArray := prog_7_method_37_code
def yX5_take : MethodName := ⟨RX5, "take", "(II)I"⟩
abbrev cX5_lose : ByteArray := prog_7_method_38_code
def yX5_lose : MethodName := ⟨RX5, "lose", "(I)V"⟩
abbrev cX5_copied : ByteArray := prog_7_method_39_code
def yX5_copied : MethodName := ⟨RX5, "copied", "(II)V"⟩
abbrev cX5_turned : ByteArray := prog_7_method_40_code
def yX5_turned : MethodName := ⟨RX5, "turned", "(I)V"⟩
abbrev cX5_rotated : ByteArray := prog_7_method_41_code
def yX5_rotated : MethodName := ⟨RX5, "rotated", "(II)V"⟩
abbrev cX5_gone : ByteArray := prog_7_method_42_code
def yX5_gone : MethodName := ⟨RX5, "gone", "(IIZ)I"⟩
abbrev cX5_completed : ByteArray := prog_7_method_43_code
def yX5_completed : MethodName := ⟨RX5, "completed", "(IZ)I"⟩
abbrev cX5_fitting : ByteArray := prog_7_method_44_code
def yX5_fitting : MethodName := ⟨RX5, "fitting", "(IIZ)I"⟩
abbrev cX5_filled : ByteArray := prog_7_method_45_code
def yX5_filled : MethodName := ⟨RX5, "filled", "(IZ)V"⟩
abbrev cX5_isSame : ByteArray := prog_7_method_46_code
def yX5_isSame : MethodName := ⟨RX5, "isSame", "(II)Z"⟩
abbrev cX5_isTurnedBy : ByteArray := prog_7_method_47_code
def yX5_isTurnedBy : MethodName := ⟨RX5, "isTurnedBy", "(III)Z"⟩
abbrev cX5_turnTo : ByteArray := prog_7_method_48_code
def yX5_turnTo : MethodName := ⟨RX5, "turnTo", "(II)I"⟩
abbrev cX5_wordIn : ByteArray := prog_7_method_49_code
def yX5_wordIn : MethodName := ⟨RX5, "wordIn", "(III)I"⟩
abbrev cX5_lay : ByteArray := prog_7_method_50_code
def yX5_lay : MethodName := ⟨RX5, "lay", "(II)I"⟩
abbrev cX5_layRing : ByteArray := prog_7_method_51_code
def yX5_layRing : MethodName := ⟨RX5, "layRing", "(II)I"⟩
abbrev cX5_words : ByteArray := prog_7_method_52_code
def yX5_words : MethodName := ⟨RX5, "words", "(II)I"⟩
abbrev cX5_close : ByteArray := prog_7_method_53_code
def yX5_close : MethodName := ⟨RX5, "close", "(I)I"⟩
abbrev cX5_clear : ByteArray := prog_7_method_54_code
def yX5_clear : MethodName := ⟨RX5, "clear", "()I"⟩
abbrev cX5_oneWay : ByteArray := prog_7_method_55_code
def yX5_oneWay : MethodName := ⟨RX5, "oneWay", "(Z)I"⟩
abbrev cX5_turnTown : ByteArray := prog_7_method_56_code
def yX5_turnTown : MethodName := ⟨RX5, "turnTown", "()I"⟩
abbrev cX5_streets : ByteArray := prog_7_method_57_code
def yX5_streets : MethodName := ⟨RX5, "streets", "()I"⟩
abbrev cX5_end : ByteArray := prog_7_method_58_code
def yX5_end : MethodName := ⟨RX5, "end", "(IZ)I"⟩
abbrev cX5_ways : ByteArray := prog_7_method_59_code
def yX5_ways : MethodName := ⟨RX5, "ways", "(II)I"⟩
abbrev cX5_odd : ByteArray := prog_7_method_60_code
def yX5_odd : MethodName := ⟨RX5, "odd", "()I"⟩
abbrev cX5_hangs : ByteArray := prog_7_method_61_code
def yX5_hangs : MethodName := ⟨RX5, "hangs", "()Z"⟩
abbrev cX5_kind : ByteArray := prog_7_method_62_code
def yX5_kind : MethodName := ⟨RX5, "kind", "()I"⟩
abbrev cX5_isStart : ByteArray := prog_7_method_63_code
def yX5_isStart : MethodName := ⟨RX5, "isStart", "(I)Z"⟩
abbrev cX5_ruleOf : ByteArray := prog_7_method_64_code
def yX5_ruleOf : MethodName := ⟨RX5, "ruleOf", "(I)I"⟩
abbrev cX5_rule : ByteArray := prog_7_method_65_code
def yX5_rule : MethodName := ⟨RX5, "rule", "(I)I"⟩
abbrev cX5_begin : ByteArray := prog_7_method_66_code
def yX5_begin : MethodName := ⟨RX5, "begin", "(II)I"⟩
abbrev cX5_step : ByteArray := prog_7_method_67_code
def yX5_step : MethodName := ⟨RX5, "step", "(IIZ)I"⟩
abbrev cX5_back : ByteArray := prog_7_method_68_code
def yX5_back : MethodName := ⟨RX5, "back", "(IZ)I"⟩
abbrev cX5_on : ByteArray := prog_7_method_69_code
def yX5_on : MethodName := ⟨RX5, "on", "(IZ)I"⟩
abbrev cX5_complete : ByteArray := prog_7_method_70_code
def yX5_complete : MethodName := ⟨RX5, "complete", "(IZ)I"⟩
abbrev cX5_isNoRound : ByteArray := prog_7_method_71_code
def yX5_isNoRound : MethodName := ⟨RX5, "isNoRound", "(II)Z"⟩
abbrev cX5_spliced : ByteArray := prog_7_method_72_code
def yX5_spliced : MethodName := ⟨RX5, "spliced", "(III)V"⟩
abbrev cX5_splice : ByteArray := prog_7_method_73_code
def yX5_splice : MethodName := ⟨RX5, "splice", "(III)I"⟩
abbrev cX5_join : ByteArray := prog_7_method_74_code
def yX5_join : MethodName := ⟨RX5, "join", "(II)I"⟩
abbrev cX5_cut : ByteArray := prog_7_method_75_code
def yX5_cut : MethodName := ⟨RX5, "cut", "(IIII)I"⟩
abbrev cX5_turnRound : ByteArray := prog_7_method_76_code
def yX5_turnRound : MethodName := ⟨RX5, "turnRound", "(I)I"⟩
abbrev cX5_rotate : ByteArray := prog_7_method_77_code
def yX5_rotate : MethodName := ⟨RX5, "rotate", "(II)I"⟩
abbrev cX5_first : ByteArray := prog_7_method_78_code
def yX5_first : MethodName := ⟨RX5, "first", "(IIZ)I"⟩
abbrev cX5_next : ByteArray := prog_7_method_79_code
def yX5_next : MethodName := ⟨RX5, "next", "(IZ)I"⟩
abbrev cX5_copy : ByteArray := prog_7_method_80_code
def yX5_copy : MethodName := ⟨RX5, "copy", "(II)I"⟩
abbrev cX5_length : ByteArray := prog_7_method_81_code
def yX5_length : MethodName := ⟨RX5, "length", "(I)I"⟩
abbrev cX5_cornerAt : ByteArray := prog_7_method_82_code
def yX5_cornerAt : MethodName := ⟨RX5, "cornerAt", "(II)I"⟩
abbrev cX5_stepAt : ByteArray := prog_7_method_83_code
def yX5_stepAt : MethodName := ⟨RX5, "stepAt", "(II)I"⟩
abbrev cX5_find : ByteArray := prog_7_method_84_code
def yX5_find : MethodName := ⟨RX5, "find", "(II)I"⟩
abbrev cX5_is : ByteArray := prog_7_method_85_code
def yX5_is : MethodName := ⟨RX5, "is", "(IZ)Z"⟩
abbrev cX5_same : ByteArray := prog_7_method_86_code
def yX5_same : MethodName := ⟨RX5, "same", "(II)Z"⟩
abbrev cX5_turnOf : ByteArray := prog_7_method_87_code
def yX5_turnOf : MethodName := ⟨RX5, "turnOf", "(II)I"⟩
abbrev cX5_text : ByteArray := prog_7_method_88_code
def yX5_text : MethodName := ⟨RX5, "text", "(II)Ljava/lang/String;"⟩
abbrev cX5_wordAt : ByteArray := prog_7_method_89_code
def yX5_wordAt : MethodName := ⟨RX5, "wordAt", "(III)I"⟩
abbrev cX5_isThere : ByteArray := prog_7_method_90_code
def yX5_isThere : MethodName := ⟨RX5, "isThere", "()Z"⟩
abbrev cX5_cursor : ByteArray := prog_7_method_91_code
def yX5_cursor : MethodName := ⟨RX5, "cursor", "(II)I"⟩
abbrev cX5_canGo : ByteArray := prog_7_method_92_code
def yX5_canGo : MethodName := ⟨RX5, "canGo", "(Z)Z"⟩
abbrev cX5_cursorGo : ByteArray := prog_7_method_93_code
def yX5_cursorGo : MethodName := ⟨RX5, "cursorGo", "(Z)I"⟩
abbrev cX5_cursorSet : ByteArray := prog_7_method_94_code
def yX5_cursorSet : MethodName := ⟨RX5, "cursorSet", "(I)I"⟩
abbrev cX5_fittingHere : ByteArray := prog_7_method_95_code
def yX5_fittingHere : MethodName := ⟨RX5, "fittingHere", "(I)I"⟩
abbrev cX5_cursorAdd : ByteArray := prog_7_method_96_code
def yX5_cursorAdd : MethodName := ⟨RX5, "cursorAdd", "(I)I"⟩
abbrev cX5_cursorRemove : ByteArray := prog_7_method_97_code
def yX5_cursorRemove : MethodName := ⟨RX5, "cursorRemove", "()I"⟩
abbrev cX5_cursorCan : ByteArray := prog_7_method_98_code
def yX5_cursorCan : MethodName := ⟨RX5, "cursorCan", "(Z)Z"⟩
abbrev cX5_placeTold : ByteArray := prog_7_method_99_code
def yX5_placeTold : MethodName := ⟨RX5, "placeTold", "(Z)I"⟩
abbrev cX5_cursorPlace : ByteArray := prog_7_method_100_code
def yX5_cursorPlace : MethodName := ⟨RX5, "cursorPlace", "(Z)I"⟩
abbrev cX5_houseOf : ByteArray := prog_7_method_101_code
def yX5_houseOf : MethodName := ⟨RX5, "houseOf", "(I)I"⟩
abbrev cX5_house : ByteArray := prog_7_method_102_code
def yX5_house : MethodName := ⟨RX5, "house", "(I)I"⟩
abbrev cX5_knock : ByteArray := prog_7_method_103_code
def yX5_knock : MethodName := ⟨RX5, "knock", "()I"⟩
abbrev cX5_isWalk : ByteArray := prog_7_method_104_code
def yX5_isWalk : MethodName := ⟨RX5, "isWalk", "(I)Z"⟩
abbrev cX5_isCounted : ByteArray := prog_7_method_105_code
def yX5_isCounted : MethodName := ⟨RX5, "isCounted", "()Z"⟩
abbrev cX5_isCompleted : ByteArray := prog_7_method_106_code
def yX5_isCompleted : MethodName := ⟨RX5, "isCompleted", "()Z"⟩
abbrev cX5_isAllSo : ByteArray := prog_7_method_107_code
def yX5_isAllSo : MethodName := ⟨RX5, "isAllSo", "()Z"⟩
abbrev cX5_isSound : ByteArray := prog_7_method_108_code
def yX5_isSound : MethodName := ⟨RX5, "isSound", "()Z"⟩
abbrev cX5_add : ByteArray := prog_7_method_109_code
def yX5_add : MethodName := ⟨RX5, "add", "(JJ)J"⟩
abbrev cX5_addTown : ByteArray := prog_7_method_110_code
def yX5_addTown : MethodName := ⟨RX5, "addTown", "(J)J"⟩
abbrev cX5_addWalk : ByteArray := prog_7_method_111_code
def yX5_addWalk : MethodName := ⟨RX5, "addWalk", "(JI)J"⟩
abbrev cX5_digest : ByteArray := prog_7_method_112_code
def yX5_digest : MethodName := ⟨RX5, "digest", "()J"⟩
abbrev cL_lay : ByteArray := method_2_code
def yL_lay : MethodName := ⟨RL, "lay", "(LAllstreets;IILAllstreetsLaw$Out;)I"⟩
abbrev cL_layRing : ByteArray := method_3_code
def yL_layRing : MethodName := ⟨RL, "layRing", "(LAllstreets;IILAllstreetsLaw$Out;)I"⟩
abbrev cL_words : ByteArray := method_4_code
def yL_words : MethodName := ⟨RL, "words", "(LAllstreets;IILAllstreetsLaw$Out;)I"⟩
abbrev cL_close : ByteArray := method_5_code
def yL_close : MethodName := ⟨RL, "close", "(LAllstreets;ILAllstreetsLaw$Out;)I"⟩
abbrev cL_end : ByteArray := method_6_code
def yL_end : MethodName := ⟨RL, "end", "(LAllstreets;IZLAllstreetsLaw$Out;)I"⟩
abbrev cL_ways : ByteArray := method_7_code
def yL_ways : MethodName := ⟨RL, "ways", "(LAllstreets;IILAllstreetsLaw$Out;)I"⟩
abbrev cL_isStart : ByteArray := method_8_code
def yL_isStart : MethodName := ⟨RL, "isStart", "(LAllstreets;ILAllstreetsLaw$Out;)I"⟩
abbrev cL_rule : ByteArray := method_9_code
def yL_rule : MethodName := ⟨RL, "rule", "(LAllstreets;ILAllstreetsLaw$Out;)I"⟩
abbrev cL_begin : ByteArray := method_10_code
def yL_begin : MethodName := ⟨RL, "begin", "(LAllstreets;IILAllstreetsLaw$Out;)I"⟩
abbrev cL_step : ByteArray := method_11_code
def yL_step : MethodName := ⟨RL, "step", "(LAllstreets;IIZLAllstreetsLaw$Out;)I"⟩
abbrev cL_back : ByteArray := method_12_code
def yL_back : MethodName := ⟨RL, "back", "(LAllstreets;IZLAllstreetsLaw$Out;)I"⟩
abbrev cL_on : ByteArray := method_13_code
def yL_on : MethodName := ⟨RL, "on", "(LAllstreets;IZLAllstreetsLaw$Out;)I"⟩
abbrev cL_complete : ByteArray := method_14_code
def yL_complete : MethodName := ⟨RL, "complete", "(LAllstreets;IZLAllstreetsLaw$Out;)I"⟩
abbrev cL_splice : ByteArray := method_15_code
def yL_splice : MethodName := ⟨RL, "splice", "(LAllstreets;IIILAllstreetsLaw$Out;)I"⟩
abbrev cL_join : ByteArray := method_16_code
def yL_join : MethodName := ⟨RL, "join", "(LAllstreets;IILAllstreetsLaw$Out;)I"⟩
abbrev cL_cut : ByteArray := method_17_code
def yL_cut : MethodName := ⟨RL, "cut", "(LAllstreets;IIIILAllstreetsLaw$Out;)I"⟩
abbrev cL_turnRound : ByteArray := method_18_code
def yL_turnRound : MethodName := ⟨RL, "turnRound", "(LAllstreets;ILAllstreetsLaw$Out;)I"⟩
abbrev cL_rotate : ByteArray := method_19_code
def yL_rotate : MethodName := ⟨RL, "rotate", "(LAllstreets;IILAllstreetsLaw$Out;)I"⟩
abbrev cL_first : ByteArray := method_20_code
def yL_first : MethodName := ⟨RL, "first", "(LAllstreets;IIZLAllstreetsLaw$Out;)I"⟩
abbrev cL_next : ByteArray := method_21_code
def yL_next : MethodName := ⟨RL, "next", "(LAllstreets;IZLAllstreetsLaw$Out;)I"⟩
abbrev cL_copy : ByteArray := method_22_code
def yL_copy : MethodName := ⟨RL, "copy", "(LAllstreets;IILAllstreetsLaw$Out;)I"⟩
abbrev cL_length : ByteArray := method_23_code
def yL_length : MethodName := ⟨RL, "length", "(LAllstreets;ILAllstreetsLaw$Out;)I"⟩
abbrev cL_cornerAt : ByteArray := method_24_code
def yL_cornerAt : MethodName := ⟨RL, "cornerAt", "(LAllstreets;IILAllstreetsLaw$Out;)I"⟩
abbrev cL_stepAt : ByteArray := method_25_code
def yL_stepAt : MethodName := ⟨RL, "stepAt", "(LAllstreets;IILAllstreetsLaw$Out;)I"⟩
abbrev cL_find : ByteArray := method_26_code
def yL_find : MethodName := ⟨RL, "find", "(LAllstreets;IILAllstreetsLaw$Out;)I"⟩
abbrev cL_is : ByteArray := method_27_code
def yL_is : MethodName := ⟨RL, "is", "(LAllstreets;IZLAllstreetsLaw$Out;)I"⟩
abbrev cL_same : ByteArray := method_28_code
def yL_same : MethodName := ⟨RL, "same", "(LAllstreets;IILAllstreetsLaw$Out;)I"⟩
abbrev cL_turnOf : ByteArray := method_29_code
def yL_turnOf : MethodName := ⟨RL, "turnOf", "(LAllstreets;IILAllstreetsLaw$Out;)I"⟩
abbrev cL_text : ByteArray := method_30_code
def yL_text : MethodName := ⟨RL, "text", "(LAllstreets;IILAllstreetsLaw$Out;)I"⟩
abbrev cL_wordAt : ByteArray := method_31_code
def yL_wordAt : MethodName := ⟨RL, "wordAt", "(LAllstreets;IIILAllstreetsLaw$Out;)I"⟩
abbrev cL_cursor : ByteArray := method_32_code
def yL_cursor : MethodName := ⟨RL, "cursor", "(LAllstreets;IILAllstreetsLaw$Out;)I"⟩
abbrev cL_cursorSet : ByteArray := method_33_code
def yL_cursorSet : MethodName := ⟨RL, "cursorSet", "(LAllstreets;ILAllstreetsLaw$Out;)I"⟩
abbrev cL_cursorAdd : ByteArray := method_34_code
def yL_cursorAdd : MethodName := ⟨RL, "cursorAdd", "(LAllstreets;ILAllstreetsLaw$Out;)I"⟩
abbrev cL_house : ByteArray := method_35_code
def yL_house : MethodName := ⟨RL, "house", "(LAllstreets;ILAllstreetsLaw$Out;)I"⟩
abbrev cL_law : ByteArray := code
def yL_law : MethodName := ⟨RL, "law", "([I)Z"⟩
end
section
/-! what the small machine's state is on the machine, and each step's soundness -/
/-! the system's two classes of texts -/
def RXA : String := "java/lang/AbstractStringBuilder"
def RXB : String := "java/lang/StringBuilder"
def RXS : String := "java/lang/String"
def TXB : u_T := fun k => match k with
  | 0 => (RXA, "value", "[B", false)
  | 1 => (RXA, "coder", "B", false)
  | 2 => (RXA, "maybeLatin1", "Z", false)
  | _ => (RXA, "count", "I", false)
def tyXB : Nat → FieldType := fun k => match k with
  | 0 => .array .byte
  | 1 => .byte
  | 2 => .boolean
  | _ => .int
theorem nmXB : ∀ a, a < 4 → ∀ b, b < 4 → a ≠ b → (TXB a).2.1 ≠ (TXB b).2.1 := by decide +kernel
theorem tyXB_ok : ∀ k, k < 4 → parseFieldDescriptor (TXB k).2.2.1 = some (tyXB k) := by decide +kernel
def TXS : u_T := fun k => match k with
  | 0 => (RXS, "value", "[B", true)
  | 1 => (RXS, "coder", "B", true)
  | 2 => (RXS, "hash", "I", false)
  | _ => (RXS, "hashIsZero", "Z", false)
def tyXS : Nat → FieldType := fun k => match k with
  | 0 => .array .byte
  | 1 => .byte
  | 2 => .int
  | _ => .boolean
theorem nmXS : ∀ a, a < 4 → ∀ b, b < 4 → a ≠ b → (TXS a).2.1 ≠ (TXS b).2.1 := by decide +kernel
theorem tyXS_ok : ∀ k, k < 4 → parseFieldDescriptor (TXS k).2.2.1 = some (tyXS k) := by decide +kernel
def mm_cl : List vw_C := [(RX3, TX3, 7), (RX1, TX1, 8), (RX2, TX2, 4), (RX0, TX0, 5), (RX5, TX5, 17), (RX4, TX4, 2), (RXB, TXB, 4), (RXS, TXS, 4)]
def mm_tt : List (Nat → FieldType) := [tyX3, tyX1, tyX2, tyX0, tyX5, tyX4, tyXB, tyXS]
/-- a byte as it lies in a row -/
def mm_b8 (x : Int) : Int32 := (Int8.ofInt x).toInt32
abbrev mm_En : Type := ClassId × ClassId × ClassId
def mm_ty (E : mm_En) : List (ClassId × FieldType) := [(E.1, .int), (E.2.1, .byte), (E.2.2, .object RX2)]
def mm_ad (Ad : Nat → Nat) (o : Nat) : Nat := if o < 100 then Ad o else o - 100
def mm_rn (Ad : Nat → Nat) (o : Nat) : Option Nat := if o = 0 then none else some (mm_ad Ad o)
def mm_cc (Ad : Nat → Nat) : mm_V → Value
  | .inl x => .int (Int32.ofInt x)
  | .inr (.inl x) => .long (Int64.ofInt x)
  | .inr (.inr (.inl o)) => va_rf (mm_rn Ad o)
  | .inr (.inr (.inr q)) => .ref q
def mm_fs (Ad : Nat → Nat) (M : mm_M) (o : Nat) (l : List (Nat × Nat)) : List Value := l.mapIdx (fun k q => mm_cc Ad (mm_fv q.1 q.2 o (M o k)))
def mm_el (E : mm_En) (Ad : Nat → Nat) (M : mm_M) (o : Nat) : va_E :=
  match mm_kd M o with
  | 1 => .inl (E.1, mm_ln M o, .inl (fun j => Int32.ofInt (M o j)))
  | 2 => .inl (E.2.2, mm_ln M o, .inr (.inr (.inr (.inr (fun j => some (mm_ad Ad (8 + 2 * j)))))))
  | 3 => .inl (E.2.1, mm_ln M o, .inl (fun j => mm_b8 (M o j)))
  | k => .inr (k - 10, mm_fs Ad M o (mm_ft k))
def mm_ws (E : mm_En) (Ad : Nat → Nat) (M : mm_M) (d : List Nat) : va_W := (mm_ids d).map (fun o => (mm_ad Ad o, mm_el E Ad M o))
theorem mm_idx {E : mm_En} {Ad : Nat → Nat} {M : mm_M} {d : List Nat} {o : Nat} (h : o ∈ mm_ids d) : ∃ q0 : Nat, (mm_ids d)[q0]? = some o ∧ (mm_ws E Ad M d)[q0]? = some (mm_ad Ad o, mm_el E Ad M o) := by
  obtain ⟨q0, hq⟩ := List.getElem?_of_mem h
  exact ⟨q0, hq, by simp [mm_ws, hq]⟩
theorem mm_kd_up {M M' : mm_M} {o o' : Nat} (ho : o ≠ 0) (h : ∀ x, x ≠ o → M' x = M x) : mm_kd M' o' = mm_kd M o' ∧ mm_ln M' o' = mm_ln M o' := by
  simp only [mm_kd, mm_ln, h 0 (Ne.symm ho), and_self]
theorem mm_wset {E : mm_En} {Ad : Nat → Nat} {M M' : mm_M} {d : List Nat} {o q0 : Nat} {A : Nat → Prop} (hD : va_D A (mm_ws E Ad M d)) (hq : (mm_ids d)[q0]? = some o) (ho : o ≠ 0) (h : ∀ x, x ≠ o → M' x = M x) :
    (mm_ws E Ad M d).set q0 (mm_ad Ad o, mm_el E Ad M' o) = mm_ws E Ad M' d := by
  apply List.ext_getElem?
  intro k
  have hw : ∀ {M : mm_M} {j x : Nat}, (mm_ids d)[j]? = some x → (mm_ws E Ad M d)[j]? = some (mm_ad Ad x, mm_el E Ad M x) := fun hj => by simp [mm_ws, hj]
  by_cases hk : k = q0
  · subst hk
    have hl := (List.getElem?_eq_some_iff.mp (hw (M := M) hq)).1
    rw [List.getElem?_set_self hl, hw hq]
  · rw [List.getElem?_set_ne (Ne.symm hk)]
    cases hx : (mm_ids d)[k]? with
    | none => simp [mm_ws, hx]
    | some x =>
      rw [hw hx, hw hx]
      have hxo : x ≠ o := by
        intro e
        subst e
        exact hk (hD.1 k q0 _ _ (hw hx) (hw hq) rfl)
      have e := mm_kd_up (o' := x) ho h
      simp only [mm_el, e.1, e.2, mm_fs, h x hxo]
theorem mm_catv (Ad : Nat → Nat) (v : mm_V) : (mm_cc Ad v).category = mm_cat v := by
  rcases v with x | x | o | q
  · rfl
  · rfl
  · simp only [mm_cc, mm_cat]
    cases mm_rn Ad o <;> rfl
  · rfl
theorem mm_catsum (Ad : Nat → Nat) (l : List mm_V) : ((l.map (mm_cc Ad)).map fun v => v.category).sum = mm_cats l := by
  induction l with
  | nil => rfl
  | cons a l ih => simp only [List.map_cons, List.sum_cons, ih, mm_catv, mm_cats]
/-- the locals -/
def mm_Lo (Ad : Nat → Nat) (nL : Nat) (ls : mm_Ls) (L : Array Slot) : Prop := L.size = nL ∧ lv_wf L ∧ ls.length = nL ∧ ∀ (i : Nat) (v : mm_V), mm_nth ls i = some (some v) → L[i]? = some (.val (mm_cc Ad v))
def mm_as (Ad : Nat → Nat) : mm_Ls → Nat → List (Nat × Value)
  | [], _ => []
  | none :: l, n => mm_as Ad l (n + 1)
  | some v :: l, n => (n, mm_cc Ad v) :: mm_as Ad l (n + 1)
theorem mm_as_mem {Ad : Nat → Nat} {q : Nat × Value} : ∀ (ls : mm_Ls) (n : Nat), q ∈ mm_as Ad ls n ↔ ∃ (i : Nat) (v : mm_V), mm_nth ls i = some (some v) ∧ q = (n + i, mm_cc Ad v)
  | [], n => by simp [mm_as, mm_nth]
  | none :: l, n => by
    rw [mm_as, mm_as_mem l (n + 1)]
    constructor
    · rintro ⟨i, v, h, e⟩
      exact ⟨i + 1, v, h, by rw [e, Nat.add_right_comm, Nat.add_assoc]⟩
    · rintro ⟨i, v, h, e⟩
      cases i with
      | zero => simp [mm_nth] at h
      | succ i => exact ⟨i, v, h, by rw [e, Nat.add_right_comm, Nat.add_assoc]⟩
  | some w :: l, n => by
    rw [mm_as, List.mem_cons, mm_as_mem l (n + 1)]
    constructor
    · rintro (e | ⟨i, v, h, e⟩)
      · exact ⟨0, w, rfl, e⟩
      · exact ⟨i + 1, v, h, by rw [e, Nat.add_right_comm, Nat.add_assoc]⟩
    · rintro ⟨i, v, h, e⟩
      cases i with
      | zero =>
        simp only [mm_nth, Option.some.injEq] at h
        subst h
        exact Or.inl e
      | succ i => exact Or.inr ⟨i, v, h, by rw [e, Nat.add_right_comm, Nat.add_assoc]⟩
theorem mm_lo_has {Ad : Nat → Nat} {nL : Nat} {ls : mm_Ls} {L : Array Slot} (h : mm_Lo Ad nL ls L) : lv_has L nL (mm_as Ad ls 0) := by
  refine ⟨h.1, h.2.1, fun q hq => ?_⟩
  obtain ⟨i, v, h1, rfl⟩ := (mm_as_mem ls 0).mp hq
  simpa using h.2.2.2 i v h1
theorem mm_nth_set {α : Type} {x : α} : ∀ (l : List α) (i j : Nat), i < l.length → mm_nth (mm_set l i x) j = if j = i then some x else mm_nth l j
  | [], i, j, h => by simp at h
  | a :: l, 0, j, h => by cases j <;> simp [mm_set, mm_nth]
  | a :: l, i + 1, j, h => by
    cases j with
    | zero => simp [mm_set, mm_nth]
    | succ j =>
      simp only [mm_set, mm_nth, Nat.add_right_cancel_iff]
      exact mm_nth_set l i j (by simpa using h)
theorem mm_set_len {α : Type} {x : α} : ∀ (l : List α) (i : Nat), (mm_set l i x).length = l.length
  | [], _ => rfl
  | a :: l, 0 => rfl
  | a :: l, i + 1 => by simp only [mm_set, List.length_cons, mm_set_len l i]
theorem mm_ok_lt : ∀ (ls : mm_Ls) (i : Nat), mm_ok ls i = true → i < ls.length ∧ ∀ (k : Nat) (v : mm_V), k + 1 = i → mm_nth ls k = some (some v) → mm_cat v = 1
  | [], i, h => by simp [mm_ok] at h
  | a :: l, 0, h => ⟨by simp, fun k v hk => by omega⟩
  | a :: l, i + 1, h => by
    simp only [mm_ok, Bool.and_eq_true] at h
    obtain ⟨h1, h2⟩ := mm_ok_lt l i h.2
    refine ⟨by simpa using h1, fun k v hk hv => ?_⟩
    cases k with
    | succ k => exact h2 k v (by omega) hv
    | zero =>
      have hi : i = 0 := by omega
      subst hi
      simp only [mm_nth, Option.some.injEq] at hv
      subst hv
      rcases v with x | x | o | q <;> first | rfl | (simp [mm_isL] at h)
theorem mm_lo_set {Ad : Nat → Nat} {nL : Nat} {ls : mm_Ls} {L L' : Array Slot} {i : Nat} {v : mm_V} {lv' : List (Nat × Value)} (h : mm_Lo Ad nL ls L) (hk : mm_ok ls i = true)
    (hl : (i, mm_cc Ad v) :: (mm_as Ad ls 0).filter (fun q => !(q.1 == i) && !(q.1 + 1 == i && q.2.category == 2)) = lv') (h' : lv_has L' nL lv') : mm_Lo Ad nL (mm_set ls i (some v)) L' := by
  obtain ⟨hi, hp⟩ := mm_ok_lt ls i hk
  subst hl
  refine ⟨h'.1, h'.2.1, by rw [mm_set_len]; exact h.2.2.1, fun j w hj => ?_⟩
  rw [mm_nth_set ls i j hi] at hj
  by_cases hji : j = i
  · rw [if_pos hji] at hj
    cases hj
    rw [hji]
    exact h'.2.2 _ List.mem_cons_self
  · rw [if_neg hji] at hj
    refine h'.2.2 (j, mm_cc Ad w) (List.mem_cons_of_mem _ (List.mem_filter.mpr ⟨(mm_as_mem ls 0).mpr ⟨j, w, hj, by simp⟩, ?_⟩))
    simp only [Bool.and_eq_true, Bool.not_eq_true', beq_eq_false_iff_ne, ne_eq, Bool.and_eq_false_iff]
    refine ⟨hji, ?_⟩
    by_cases e : j + 1 = i
    · right
      rw [mm_catv, hp j w e hj]
      decide
    · exact Or.inl e
theorem mm_lo_set2 {Ad : Nat → Nat} {nL : Nat} {ls : mm_Ls} {L L' : Array Slot} {i : Nat} {v : mm_V} {lv' : List (Nat × Value)} (h : mm_Lo Ad nL ls L) (hk : mm_ok ls i = true) (hi1 : i + 1 < ls.length)
    (hl : (i, mm_cc Ad v) :: (mm_as Ad ls 0).filter (fun q => !(q.1 == i) && (!(q.1 == i + 1) && !(q.1 + 1 == i && q.2.category == 2))) = lv') (h' : lv_has L' nL lv') : mm_Lo Ad nL (mm_set (mm_set ls (i + 1) none) i (some v)) L' := by
  obtain ⟨hi, hp⟩ := mm_ok_lt ls i hk
  subst hl
  refine ⟨h'.1, h'.2.1, by rw [mm_set_len, mm_set_len]; exact h.2.2.1, fun j w hj => ?_⟩
  rw [mm_nth_set _ i j (by rw [mm_set_len]; exact hi)] at hj
  by_cases hji : j = i
  · rw [if_pos hji] at hj
    cases hj
    rw [hji]
    exact h'.2.2 _ List.mem_cons_self
  · rw [if_neg hji, mm_nth_set _ (i + 1) j hi1] at hj
    by_cases hji1 : j = i + 1
    · rw [if_pos hji1] at hj
      cases hj
    · rw [if_neg hji1] at hj
      refine h'.2.2 (j, mm_cc Ad w) (List.mem_cons_of_mem _ (List.mem_filter.mpr ⟨(mm_as_mem ls 0).mpr ⟨j, w, hj, by simp⟩, ?_⟩))
      simp only [Bool.and_eq_true, Bool.not_eq_true', beq_eq_false_iff_ne, ne_eq, Bool.and_eq_false_iff]
      refine ⟨hji, hji1, ?_⟩
      by_cases e : j + 1 = i
      · right
        rw [mm_catv, hp j w e hj]
        decide
      · exact Or.inl e
/-! numbers -/
theorem mm_toInt {x : Int} (h : InI x) : (Int32.ofInt x).toInt = x := Int32.toInt_ofInt_of_le (by have := h.1; omega) (by have := h.2; omega)
theorem mm_toL {x : Int} (h : InL x) : (Int64.ofInt x).toInt = x := Int64.toInt_ofInt_of_le (by have := h.1; omega) (by have := h.2; omega)
theorem mm_inj {x y : Int} (hx : InI x) (hy : InI y) : Int32.ofInt x = Int32.ofInt y ↔ x = y := ⟨fun h => by rw [← mm_toInt hx, ← mm_toInt hy, h], fun h => by rw [h]⟩
theorem mm_lt {x y : Int} (hx : InI x) (hy : InI y) : Int32.ofInt x < Int32.ofInt y ↔ x < y := by rw [Int32.lt_iff_toInt_lt, mm_toInt hx, mm_toInt hy]
theorem mm_le {x y : Int} (hx : InI x) (hy : InI y) : Int32.ofInt x ≤ Int32.ofInt y ↔ x ≤ y := by rw [Int32.le_iff_toInt_le, mm_toInt hx, mm_toInt hy]
theorem mm_z0 : (0 : Int32) = Int32.ofInt 0 := rfl
theorem mm_i0 : InI 0 := by unfold InI; omega
theorem mm_vin {a : Int} {n : Nat} (h : 0 ≤ a ∧ a < (n : Int)) (hn : n < 2147483648) : vp_in (Int32.ofInt a) n ∧ (Int32.ofInt a).toNatClampNeg = a.toNat := by
  have hi : InI a := ⟨by omega, by omega⟩
  have e := mm_toInt hi
  constructor
  · rw [vp_in_iff, e]
    exact h
  · show (Int32.ofInt a).toInt.toNat = a.toNat
    rw [e]
theorem mm_div {a b : Int} (ha : InI a) (hb : InI b) (h : 0 < b) : Int32.ofInt a / Int32.ofInt b = Int32.ofInt (a.tdiv b) := (Int32.ofInt_tdiv (by exact ha.1) (by have := ha.2; show a ≤ 2147483647; omega) (by exact hb.1) (by have := hb.2; show b ≤ 2147483647; omega)).symm
theorem mm_rem {a b : Int} (ha : InI a) (hb : InI b) (h : 0 < b) : Int32.ofInt a - Int32.ofInt a / Int32.ofInt b * Int32.ofInt b = Int32.ofInt (a.tmod b) := by
  rw [mm_div ha hb h, ← Int32.ofInt_mul, ← Int32.ofInt_sub]
  congr 1
  have := Int.mul_tdiv_add_tmod a b
  rw [Int.mul_comm b] at this
  omega
theorem mm_sm : ∀ k : Nat, k < 32 → ((Int32.ofNat k &&& 31).toBitVec.smod 32).toNat = k := by decide +kernel
theorem mm_sm2 {b : Int} (h : 0 ≤ b ∧ b < 32) : ((Int32.ofInt b &&& 31).toBitVec.smod 32).toNat = b.toNat := by
  obtain ⟨k, rfl⟩ := Int.eq_ofNat_of_zero_le h.1
  rw [Int32.ofInt_eq_ofNat]
  exact mm_sm k (by omega)
theorem mm_shl {a b : Int} (h : 0 ≤ b ∧ b < 32) : Int32.ofInt a <<< (Int32.ofInt b &&& 31) = Int32.ofInt (a * 2 ^ b.toNat) := by
  apply Int32.toBitVec_inj.mp
  show (Int32.ofInt a).toBitVec <<< ((Int32.ofInt b &&& 31).toBitVec.smod 32).toNat = _
  rw [mm_sm2 h, Int32.toBitVec_ofInt, Int32.toBitVec_ofInt, BitVec.ofInt_mul, BitVec.shiftLeft_eq_mul_twoPow]
  congr 1
  apply BitVec.eq_of_toNat_eq
  have e : (2 : Int) ^ b.toNat = ((2 ^ b.toNat : Nat) : Int) := by norm_cast
  rw [BitVec.toNat_twoPow, BitVec.toNat_ofInt, e]
  norm_cast
theorem mm_shr {a b : Int} (ha : InI a) (h : 0 ≤ b ∧ b < 32) : Int32.ofInt a >>> (Int32.ofInt b &&& 31) = Int32.ofInt (a / 2 ^ b.toNat) := by
  apply Int32.toInt_inj.mp
  rw [pk_shr _ _ _ (mm_sm2 h), mm_toInt ha, Int.shiftRight_eq_div_pow]
  have hp : (0 : Int) < 2 ^ b.toNat := Int.pow_pos (by decide)
  have h1 : (-2147483648 : Int) ≤ a / 2 ^ b.toNat := by
    by_cases hn : a < 0
    · have := Int.le_ediv_of_mul_le hp (a := -2147483648) (b := a) (c := 2 ^ b.toNat) (by
        have h2 : (1 : Int) ≤ 2 ^ b.toNat := hp
        have := ha.1
        have : (-2147483648 : Int) * 2 ^ b.toNat ≤ -2147483648 * 1 := by
          omega
        omega)
      exact this
    · have := Int.ediv_nonneg (Int.not_lt.mp hn) (Int.le_of_lt hp)
      omega
  have h2 : a / 2 ^ b.toNat < 2147483648 := by
    by_cases hn : a < 0
    · have := Int.ediv_neg_of_neg_of_pos hn hp
      omega
    · have := Int.ediv_le_self (2 ^ b.toNat) (Int.not_lt.mp hn)
      have := ha.2
      omega
  rw [mm_toInt ⟨h1, h2⟩]
  norm_cast
end
section
/-! each step of the small machine is one of the machine -/
section MZ
variable {p : Program} {l : Launch} {e : Env} {R : Room} {s : State} {m : MethodId} {args : Array Value} {below : List Frame} {meth : Method} {c : Code} {Qm : State → Prop}
variable {cc : ByteArray} {own : String} {nL : Nat} {Ts : List Cond} {D : va_G} {E : mm_En} {Ad : Nat → Nat} {A : Nat → Prop}
/-- the machine goes on from here to its end -/
def mm_Z (p : Program) (l : Launch) (e : Env) (R : Room) (s : State) (m : MethodId) (args : Array Value) (below : List Frame) (meth : Method) (c : Code) (Qm : State → Prop) (nL : Nat) (D : va_G) (E : mm_En) (Ad : Nat → Nat) (A : Nat → Prop)
    (pc : Nat) (ls : mm_Ls) (st : List mm_V) (M : mm_M) (d : List Nat) (u : Nat) : Prop :=
  ∀ (H : Heap) (locs : List Loc) (L : Array Slot), mm_Lo Ad nL ls L → va_P D mm_cl (mm_ws E Ad M d) H → va_D A (mm_ws E Ad M d) → va_S A s.heap H locs → W p l e R s m args below meth c H locs u (12 * u) Qm (F0 m pc L (st.map (mm_cc Ad)))
/-- what stays the same in a method's frame -/
def mm_Cx (p : Program) (s : State) (m : MethodId) (args : Array Value) (c : Code) (cc : ByteArray) (own : String) (nL : Nat) (Ts : List Cond) (D : va_G) (E : mm_En) (A : Nat → Prop) : Prop :=
  p.tables.exec = Jvm.exec ∧ c.code = cc ∧ c.maxLocals = nL ∧ s.vm.findClass own = some m.cls ∧ (∀ w ∈ Ts, w.before args s = true) ∧ va_K D mm_cl (mm_ty E) s ∧ (∀ q, s.heap.size ≤ q → A q) ∧ ∀ q ∈ mm_cl, ∀ w ∈ u_ws q.1 q.2.1 q.2.2, w ∈ Ts
variable {pc tgt : Nat} {ls : mm_Ls} {st : List mm_V} {M : mm_M} {d : List Nat} {u : Nat}
theorem mm_tgt {o : Int} (h : ((pc : Int) + o == (tgt : Int)) = true) : (pc : Int) + o = (tgt : Int) := eq_of_beq h
theorem mz_iconst {n : Int} (X : mm_Cx p s m args c cc own nL Ts D E A) (hd : decode cc pc = .ok (.iconst n, 1)) (k : mm_Z p l e R s m args below meth c Qm nL D E Ad A (pc + 1) ls (mm_I n :: st) M d u) : mm_Z p l e R s m args below meth c Qm nL D E Ad A pc ls st M d u :=
  fun H locs L hL hP hD hS => lv_iconst X.1 X.2.1 hd rfl (k H locs L hL hP hD hS)
theorem mz_bipush {n : Int} (X : mm_Cx p s m args c cc own nL Ts D E A) (hd : decode cc pc = .ok (.bipush n, 2)) (hn : -128 ≤ n ∧ n < 128) (k : mm_Z p l e R s m args below meth c Qm nL D E Ad A (pc + 2) ls (mm_I n :: st) M d u) : mm_Z p l e R s m args below meth c Qm nL D E Ad A pc ls st M d u :=
  fun H locs L hL hP hD hS => lv_bipush (v := Int32.ofInt n) X.1 X.2.1 hd (by
    apply Int32.toInt_inj.mp
    rw [mm_toInt ⟨by omega, by omega⟩, Int8.toInt_toInt32, Int8.toInt_ofInt_of_le (by omega) (by omega)]) (k H locs L hL hP hD hS)
theorem mz_sipush {n : Int} (X : mm_Cx p s m args c cc own nL Ts D E A) (hd : decode cc pc = .ok (.sipush n, 3)) (hn : -32768 ≤ n ∧ n < 32768) (k : mm_Z p l e R s m args below meth c Qm nL D E Ad A (pc + 3) ls (mm_I n :: st) M d u) : mm_Z p l e R s m args below meth c Qm nL D E Ad A pc ls st M d u :=
  fun H locs L hL hP hD hS => lv_sipush (v := Int32.ofInt n) X.1 X.2.1 hd (by
    apply Int32.toInt_inj.mp
    rw [mm_toInt ⟨by omega, by omega⟩, Int16.toInt_toInt32, Int16.toInt_ofInt_of_le (by omega) (by omega)]) (k H locs L hL hP hD hS)
theorem mz_lconst {n : Fin 2} (X : mm_Cx p s m args c cc own nL Ts D E A) (hd : decode cc pc = .ok (.lconst n, 1)) (k : mm_Z p l e R s m args below meth c Qm nL D E Ad A (pc + 1) ls (mm_L (n.val : Int) :: st) M d u) : mm_Z p l e R s m args below meth c Qm nL D E Ad A pc ls st M d u :=
  fun H locs L hL hP hD hS => lv_lconst (v := Int64.ofInt (n.val : Int)) X.1 X.2.1 hd (by rw [Int64.ofInt_eq_ofNat]) (k H locs L hL hP hD hS)
theorem mz_ldc2 {k0 : Nat} {x : Int} (X : mm_Cx p s m args c cc own nL Ts D E A) (hd : decode cc pc = .ok (.ldc2_w k0, 3)) (hw : Jvm.Cond.constantLong own k0 (Int64.ofInt x) ∈ Ts) (k : mm_Z p l e R s m args below meth c Qm nL D E Ad A (pc + 3) ls (mm_L x :: st) M d u) : mm_Z p l e R s m args below meth c Qm nL D E Ad A pc ls st M d u :=
  fun H locs L hL hP hD hS => lv_ldc2 X.1 X.2.1 X.2.2.2.1 (X.2.2.2.2.1 _ hw) hd (k H locs L hL hP hD hS)
theorem mz_null (X : mm_Cx p s m args c cc own nL Ts D E A) (hd : decode cc pc = .ok (.aconst_null, 1)) (k : mm_Z p l e R s m args below meth c Qm nL D E Ad A (pc + 1) ls (mm_R 0 :: st) M d u) : mm_Z p l e R s m args below meth c Qm nL D E Ad A pc ls st M d u :=
  fun H locs L hL hP hD hS => lv_null X.1 X.2.1 hd (k H locs L hL hP hD hS)
theorem mz_iload {n : Nat} {x : Int} (X : mm_Cx p s m args c cc own nL Ts D E A) (hd : decode cc pc = .ok (.iload n, 2)) (hx : mm_nth ls n = some (some (mm_I x))) (k : mm_Z p l e R s m args below meth c Qm nL D E Ad A (pc + 2) ls (mm_I x :: st) M d u) : mm_Z p l e R s m args below meth c Qm nL D E Ad A pc ls st M d u :=
  fun H locs L hL hP hD hS => lv_iload X.1 X.2.1 hd (hL.2.2.2 n _ hx) (k H locs L hL hP hD hS)
theorem mz_iload_n {n : Fin 4} {x : Int} (X : mm_Cx p s m args c cc own nL Ts D E A) (hd : decode cc pc = .ok (.iload_n n, 1)) (hx : mm_nth ls n.val = some (some (mm_I x))) (k : mm_Z p l e R s m args below meth c Qm nL D E Ad A (pc + 1) ls (mm_I x :: st) M d u) : mm_Z p l e R s m args below meth c Qm nL D E Ad A pc ls st M d u :=
  fun H locs L hL hP hD hS => lv_iload_n X.1 X.2.1 hd rfl (hL.2.2.2 n.val _ hx) (k H locs L hL hP hD hS)
theorem mz_lload {n : Nat} {x : Int} (X : mm_Cx p s m args c cc own nL Ts D E A) (hd : decode cc pc = .ok (.lload n, 2)) (hx : mm_nth ls n = some (some (mm_L x))) (k : mm_Z p l e R s m args below meth c Qm nL D E Ad A (pc + 2) ls (mm_L x :: st) M d u) : mm_Z p l e R s m args below meth c Qm nL D E Ad A pc ls st M d u :=
  fun H locs L hL hP hD hS => lv_lload X.1 X.2.1 hd (hL.2.2.2 n _ hx) (k H locs L hL hP hD hS)
theorem mz_lload_n {n : Fin 4} {x : Int} (X : mm_Cx p s m args c cc own nL Ts D E A) (hd : decode cc pc = .ok (.lload_n n, 1)) (hx : mm_nth ls n.val = some (some (mm_L x))) (k : mm_Z p l e R s m args below meth c Qm nL D E Ad A (pc + 1) ls (mm_L x :: st) M d u) : mm_Z p l e R s m args below meth c Qm nL D E Ad A pc ls st M d u :=
  fun H locs L hL hP hD hS => lv_lload_n X.1 X.2.1 hd rfl (hL.2.2.2 n.val _ hx) (k H locs L hL hP hD hS)
theorem mm_rcases (Ad : Nat → Nat) (v : Nat ⊕ Nat) : mm_cc Ad (.inr (.inr v)) = .null ∨ ∃ q : Nat, mm_cc Ad (.inr (.inr v)) = .ref q := by
  rcases v with o | q
  · by_cases h : o = 0
    · left
      simp only [mm_cc, mm_rn, h, if_true, va_rf]
    · right
      exact ⟨mm_ad Ad o, by simp only [mm_cc, mm_rn, h, if_false, va_rf]⟩
  · exact Or.inr ⟨q, rfl⟩
theorem mz_aload {n : Nat} {v : Nat ⊕ Nat} (X : mm_Cx p s m args c cc own nL Ts D E A) (hd : decode cc pc = .ok (.aload n, 2)) (hx : mm_nth ls n = some (some (.inr (.inr v)))) (k : mm_Z p l e R s m args below meth c Qm nL D E Ad A (pc + 2) ls (.inr (.inr v) :: st) M d u) : mm_Z p l e R s m args below meth c Qm nL D E Ad A pc ls st M d u := by
  intro H locs L hL hP hD hS
  have h1 := hL.2.2.2 n _ hx
  have h2 := k H locs L hL hP hD hS
  rw [List.map_cons] at h2
  rcases mm_rcases Ad v with h | ⟨q, h⟩ <;> rw [h] at h1 h2
  · exact lv_aloadN X.1 X.2.1 hd h1 h2
  · exact lv_aload X.1 X.2.1 hd h1 h2
theorem mz_aload_n {n : Fin 4} {v : Nat ⊕ Nat} (X : mm_Cx p s m args c cc own nL Ts D E A) (hd : decode cc pc = .ok (.aload_n n, 1)) (hx : mm_nth ls n.val = some (some (.inr (.inr v)))) (k : mm_Z p l e R s m args below meth c Qm nL D E Ad A (pc + 1) ls (.inr (.inr v) :: st) M d u) : mm_Z p l e R s m args below meth c Qm nL D E Ad A pc ls st M d u := by
  intro H locs L hL hP hD hS
  have h1 := hL.2.2.2 n.val _ hx
  have h2 := k H locs L hL hP hD hS
  rw [List.map_cons] at h2
  rcases mm_rcases Ad v with h | ⟨q, h⟩ <;> rw [h] at h1 h2
  · exact lv_aload_nN X.1 X.2.1 hd rfl h1 h2
  · exact lv_aload_n X.1 X.2.1 hd rfl h1 h2
theorem mm_lo_lt {L : Array Slot} {n : Nat} (hL : mm_Lo Ad nL ls L) (h : mm_ok ls n = true) : n < nL := by
  rw [← hL.2.2.1]
  exact (mm_ok_lt ls n h).1
theorem mz_istore {n : Nat} {x : Int} (X : mm_Cx p s m args c cc own nL Ts D E A) (hd : decode cc pc = .ok (.istore n, 2)) (hx : mm_ok ls n = true) (k : mm_Z p l e R s m args below meth c Qm nL D E Ad A (pc + 2) (mm_set ls n (some (mm_I x))) st M d u) : mm_Z p l e R s m args below meth c Qm nL D E Ad A pc ls (mm_I x :: st) M d u :=
  fun H locs L hL hP hD hS => lv_istore X.1 X.2.1 hd (mm_lo_has hL) (mm_lo_lt hL hx) rfl fun L' h' => k H locs L' (mm_lo_set (v := mm_I x) hL hx rfl h') hP hD hS
theorem mz_istore_n {n : Fin 4} {x : Int} (X : mm_Cx p s m args c cc own nL Ts D E A) (hd : decode cc pc = .ok (.istore_n n, 1)) (hx : mm_ok ls n.val = true) (k : mm_Z p l e R s m args below meth c Qm nL D E Ad A (pc + 1) (mm_set ls n.val (some (mm_I x))) st M d u) : mm_Z p l e R s m args below meth c Qm nL D E Ad A pc ls (mm_I x :: st) M d u :=
  fun H locs L hL hP hD hS => lv_istore_n X.1 X.2.1 hd rfl (mm_lo_has hL) (mm_lo_lt hL hx) rfl fun L' h' => k H locs L' (mm_lo_set (v := mm_I x) hL hx rfl h') hP hD hS
theorem mz_lstore {n : Nat} {x : Int} (X : mm_Cx p s m args c cc own nL Ts D E A) (hd : decode cc pc = .ok (.lstore n, 2)) (hx : mm_ok ls n = true) (h1 : n + 1 < ls.length) (k : mm_Z p l e R s m args below meth c Qm nL D E Ad A (pc + 2) (mm_set (mm_set ls (n + 1) none) n (some (mm_L x))) st M d u) : mm_Z p l e R s m args below meth c Qm nL D E Ad A pc ls (mm_L x :: st) M d u :=
  fun H locs L hL hP hD hS => lv_lstore X.1 X.2.1 hd (mm_lo_has hL) (by rw [← hL.2.2.1]; exact h1) rfl fun L' h' => k H locs L' (mm_lo_set2 (v := mm_L x) hL hx h1 rfl h') hP hD hS
theorem mz_lstore_n {n : Fin 4} {x : Int} (X : mm_Cx p s m args c cc own nL Ts D E A) (hd : decode cc pc = .ok (.lstore_n n, 1)) (hx : mm_ok ls n.val = true) (h1 : n.val + 1 < ls.length) (k : mm_Z p l e R s m args below meth c Qm nL D E Ad A (pc + 1) (mm_set (mm_set ls (n.val + 1) none) n.val (some (mm_L x))) st M d u) : mm_Z p l e R s m args below meth c Qm nL D E Ad A pc ls (mm_L x :: st) M d u :=
  fun H locs L hL hP hD hS => lv_lstore_n X.1 X.2.1 hd rfl (mm_lo_has hL) (by rw [← hL.2.2.1]; exact h1) rfl fun L' h' => k H locs L' (mm_lo_set2 (v := mm_L x) hL hx h1 rfl h') hP hD hS
theorem mz_astore {n : Nat} {v : Nat ⊕ Nat} (X : mm_Cx p s m args c cc own nL Ts D E A) (hd : decode cc pc = .ok (.astore n, 2)) (hx : mm_ok ls n = true) (k : mm_Z p l e R s m args below meth c Qm nL D E Ad A (pc + 2) (mm_set ls n (some (.inr (.inr v)))) st M d u) : mm_Z p l e R s m args below meth c Qm nL D E Ad A pc ls (.inr (.inr v) :: st) M d u := by
  intro H locs L hL hP hD hS
  rw [List.map_cons]
  have h1 : ∀ {L' : Array Slot} {lv' : List (Nat × Value)}, (n, mm_cc Ad (.inr (.inr v))) :: (mm_as Ad ls 0).filter (fun q => !(q.1 == n) && !(q.1 + 1 == n && q.2.category == 2)) = lv' → lv_has L' nL lv' → mm_Lo Ad nL (mm_set ls n (some (.inr (.inr v)))) L' := fun a b => mm_lo_set hL hx a b
  rcases mm_rcases Ad v with h | ⟨q, h⟩ <;> rw [h] at h1 ⊢
  · exact lv_astoreN X.1 X.2.1 hd (mm_lo_has hL) (mm_lo_lt hL hx) rfl fun L' h' => k H locs L' (h1 rfl h') hP hD hS
  · exact lv_astore X.1 X.2.1 hd (mm_lo_has hL) (mm_lo_lt hL hx) rfl fun L' h' => k H locs L' (h1 rfl h') hP hD hS
theorem mz_astore_n {n : Fin 4} {v : Nat ⊕ Nat} (X : mm_Cx p s m args c cc own nL Ts D E A) (hd : decode cc pc = .ok (.astore_n n, 1)) (hx : mm_ok ls n.val = true) (k : mm_Z p l e R s m args below meth c Qm nL D E Ad A (pc + 1) (mm_set ls n.val (some (.inr (.inr v)))) st M d u) : mm_Z p l e R s m args below meth c Qm nL D E Ad A pc ls (.inr (.inr v) :: st) M d u := by
  intro H locs L hL hP hD hS
  rw [List.map_cons]
  have h1 : ∀ {L' : Array Slot} {lv' : List (Nat × Value)}, (n.val, mm_cc Ad (.inr (.inr v))) :: (mm_as Ad ls 0).filter (fun q => !(q.1 == n.val) && !(q.1 + 1 == n.val && q.2.category == 2)) = lv' → lv_has L' nL lv' → mm_Lo Ad nL (mm_set ls n.val (some (.inr (.inr v)))) L' := fun a b => mm_lo_set hL hx a b
  rcases mm_rcases Ad v with h | ⟨q, h⟩ <;> rw [h] at h1 ⊢
  · exact lv_astore_nN X.1 X.2.1 hd rfl (mm_lo_has hL) (mm_lo_lt hL hx) rfl fun L' h' => k H locs L' (h1 rfl h') hP hD hS
  · exact lv_astore_n X.1 X.2.1 hd rfl (mm_lo_has hL) (mm_lo_lt hL hx) rfl fun L' h' => k H locs L' (h1 rfl h') hP hD hS
theorem mm_nth_lt {α : Type} : ∀ {l : List α} {n : Nat} {x : α}, mm_nth l n = some x → n < l.length
  | [], n, x, h => by simp [mm_nth] at h
  | a :: l, 0, x, h => by simp
  | a :: l, n + 1, x, h => by simpa using mm_nth_lt (l := l) h
theorem mz_iinc {n : Nat} {x y : Int} (X : mm_Cx p s m args c cc own nL Ts D E A) (hd : decode cc pc = .ok (.iinc n x, 3)) (hx : mm_nth ls n = some (some (mm_I y))) (hk : mm_ok ls n = true) (k : mm_Z p l e R s m args below meth c Qm nL D E Ad A (pc + 3) (mm_set ls n (some (mm_I (y + x)))) st M d u) : mm_Z p l e R s m args below meth c Qm nL D E Ad A pc ls st M d u := by
  intro H locs L hL hP hD hS
  obtain ⟨j, hj⟩ := List.getElem?_of_mem ((mm_as_mem (Ad := Ad) (q := (n, mm_cc Ad (mm_I y))) ls 0).mpr ⟨n, _, hx, by simp⟩)
  refine lv_iinc (v := Int32.ofInt (y + x)) X.1 X.2.1 hd (mm_lo_has hL) (k := j) hj (by rw [Int32.ofInt_add]) (mm_lo_lt hL hk) rfl fun L' h' => k H locs L' (mm_lo_set (v := mm_I (y + x)) hL hk rfl h') hP hD hS
theorem mz_iadd {x y : Int} (X : mm_Cx p s m args c cc own nL Ts D E A) (hd : decode cc pc = .ok (.iadd, 1)) (k : mm_Z p l e R s m args below meth c Qm nL D E Ad A (pc + 1) ls (mm_I (x + y) :: st) M d u) : mm_Z p l e R s m args below meth c Qm nL D E Ad A pc ls (mm_I y :: mm_I x :: st) M d u :=
  fun H locs L hL hP hD hS => lv_iadd X.1 X.2.1 hd (by rw [← Int32.ofInt_add]; exact k H locs L hL hP hD hS)
theorem mz_isub {x y : Int} (X : mm_Cx p s m args c cc own nL Ts D E A) (hd : decode cc pc = .ok (.isub, 1)) (k : mm_Z p l e R s m args below meth c Qm nL D E Ad A (pc + 1) ls (mm_I (x - y) :: st) M d u) : mm_Z p l e R s m args below meth c Qm nL D E Ad A pc ls (mm_I y :: mm_I x :: st) M d u :=
  fun H locs L hL hP hD hS => lv_isub X.1 X.2.1 hd (by rw [← Int32.ofInt_sub]; exact k H locs L hL hP hD hS)
theorem mz_imul {x y : Int} (X : mm_Cx p s m args c cc own nL Ts D E A) (hd : decode cc pc = .ok (.imul, 1)) (k : mm_Z p l e R s m args below meth c Qm nL D E Ad A (pc + 1) ls (mm_I (x * y) :: st) M d u) : mm_Z p l e R s m args below meth c Qm nL D E Ad A pc ls (mm_I y :: mm_I x :: st) M d u :=
  fun H locs L hL hP hD hS => lv_imul X.1 X.2.1 hd (by rw [← Int32.ofInt_mul]; exact k H locs L hL hP hD hS)
theorem mz_ineg {x : Int} (X : mm_Cx p s m args c cc own nL Ts D E A) (hd : decode cc pc = .ok (.ineg, 1)) (k : mm_Z p l e R s m args below meth c Qm nL D E Ad A (pc + 1) ls (mm_I (-x) :: st) M d u) : mm_Z p l e R s m args below meth c Qm nL D E Ad A pc ls (mm_I x :: st) M d u :=
  fun H locs L hL hP hD hS => lv_ineg X.1 X.2.1 hd (by rw [← Int32.ofInt_neg]; exact k H locs L hL hP hD hS)
theorem mz_iand {x y : Int} (X : mm_Cx p s m args c cc own nL Ts D E A) (hd : decode cc pc = .ok (.iand, 1)) (k : mm_Z p l e R s m args below meth c Qm nL D E Ad A (pc + 1) ls (mm_I (mm_and x y) :: st) M d u) : mm_Z p l e R s m args below meth c Qm nL D E Ad A pc ls (mm_I y :: mm_I x :: st) M d u :=
  fun H locs L hL hP hD hS => lv_iand X.1 X.2.1 hd (by have h := k H locs L hL hP hD hS; simp only [List.map_cons, mm_cc, mm_and, Int32.ofInt_toInt] at h; exact h)
theorem mz_ior {x y : Int} (X : mm_Cx p s m args c cc own nL Ts D E A) (hd : decode cc pc = .ok (.ior, 1)) (k : mm_Z p l e R s m args below meth c Qm nL D E Ad A (pc + 1) ls (mm_I (mm_or x y) :: st) M d u) : mm_Z p l e R s m args below meth c Qm nL D E Ad A pc ls (mm_I y :: mm_I x :: st) M d u :=
  fun H locs L hL hP hD hS => lv_ior X.1 X.2.1 hd (by have h := k H locs L hL hP hD hS; simp only [List.map_cons, mm_cc, mm_or, Int32.ofInt_toInt] at h; exact h)
theorem mz_ixor {x y : Int} (X : mm_Cx p s m args c cc own nL Ts D E A) (hd : decode cc pc = .ok (.ixor, 1)) (k : mm_Z p l e R s m args below meth c Qm nL D E Ad A (pc + 1) ls (mm_I (mm_xor x y) :: st) M d u) : mm_Z p l e R s m args below meth c Qm nL D E Ad A pc ls (mm_I y :: mm_I x :: st) M d u :=
  fun H locs L hL hP hD hS => lv_ixor X.1 X.2.1 hd (by have h := k H locs L hL hP hD hS; simp only [List.map_cons, mm_cc, mm_xor, Int32.ofInt_toInt] at h; exact h)
theorem mm_ne0 {y : Int} (hy : InI y) (h : 0 < y) : ¬ Int32.ofInt y = 0 := fun q => by
  have := (mm_inj hy mm_i0).mp q
  omega
theorem mz_idiv {x y : Int} (X : mm_Cx p s m args c cc own nL Ts D E A) (hd : decode cc pc = .ok (.idiv, 1)) (hx : InI x) (hy : InI y) (h0 : 0 < y) (k : mm_Z p l e R s m args below meth c Qm nL D E Ad A (pc + 1) ls (mm_I (x.tdiv y) :: st) M d u) : mm_Z p l e R s m args below meth c Qm nL D E Ad A pc ls (mm_I y :: mm_I x :: st) M d u :=
  fun H locs L hL hP hD hS => lv_idiv X.1 X.2.1 hd (mm_ne0 hy h0) (by rw [mm_div hx hy h0]; exact k H locs L hL hP hD hS)
theorem mz_irem {x y : Int} (X : mm_Cx p s m args c cc own nL Ts D E A) (hd : decode cc pc = .ok (.irem, 1)) (hx : InI x) (hy : InI y) (h0 : 0 < y) (k : mm_Z p l e R s m args below meth c Qm nL D E Ad A (pc + 1) ls (mm_I (x.tmod y) :: st) M d u) : mm_Z p l e R s m args below meth c Qm nL D E Ad A pc ls (mm_I y :: mm_I x :: st) M d u :=
  fun H locs L hL hP hD hS => lv_irem X.1 X.2.1 hd (mm_ne0 hy h0) (by rw [mm_rem hx hy h0]; exact k H locs L hL hP hD hS)
theorem mz_ishl {x y : Int} (X : mm_Cx p s m args c cc own nL Ts D E A) (hd : decode cc pc = .ok (.ishl, 1)) (h0 : 0 ≤ y ∧ y < 32) (k : mm_Z p l e R s m args below meth c Qm nL D E Ad A (pc + 1) ls (mm_I (x * 2 ^ y.toNat) :: st) M d u) : mm_Z p l e R s m args below meth c Qm nL D E Ad A pc ls (mm_I y :: mm_I x :: st) M d u :=
  fun H locs L hL hP hD hS => lv_ishl X.1 X.2.1 hd (by rw [mm_shl h0]; exact k H locs L hL hP hD hS)
theorem mz_ishr {x y : Int} (X : mm_Cx p s m args c cc own nL Ts D E A) (hd : decode cc pc = .ok (.ishr, 1)) (hx : InI x) (h0 : 0 ≤ y ∧ y < 32) (k : mm_Z p l e R s m args below meth c Qm nL D E Ad A (pc + 1) ls (mm_I (x / 2 ^ y.toNat) :: st) M d u) : mm_Z p l e R s m args below meth c Qm nL D E Ad A pc ls (mm_I y :: mm_I x :: st) M d u :=
  fun H locs L hL hP hD hS => lv_ishr X.1 X.2.1 hd (by rw [mm_shr hx h0]; exact k H locs L hL hP hD hS)
theorem mz_i2l {x : Int} (X : mm_Cx p s m args c cc own nL Ts D E A) (hd : decode cc pc = .ok (.i2l, 1)) (k : mm_Z p l e R s m args below meth c Qm nL D E Ad A (pc + 1) ls (mm_L (mm_w x) :: st) M d u) : mm_Z p l e R s m args below meth c Qm nL D E Ad A pc ls (mm_I x :: st) M d u :=
  fun H locs L hL hP hD hS => lv_i2l (v := Int64.ofInt (mm_w x)) X.1 X.2.1 hd (by
    apply Int64.toInt_inj.mp
    have h1 := Int32.le_toInt (Int32.ofInt x)
    have h2 := Int32.toInt_lt (Int32.ofInt x)
    unfold mm_w
    rw [Int32.toInt_toInt64, mm_toL ⟨by omega, by omega⟩]) (k H locs L hL hP hD hS)
theorem mz_ladd {x y : Int} (X : mm_Cx p s m args c cc own nL Ts D E A) (hd : decode cc pc = .ok (.ladd, 1)) (k : mm_Z p l e R s m args below meth c Qm nL D E Ad A (pc + 1) ls (mm_L (x + y) :: st) M d u) : mm_Z p l e R s m args below meth c Qm nL D E Ad A pc ls (mm_L y :: mm_L x :: st) M d u :=
  fun H locs L hL hP hD hS => lv_ladd X.1 X.2.1 hd (by rw [← Int64.ofInt_add]; exact k H locs L hL hP hD hS)
theorem mz_lmul {x y : Int} (X : mm_Cx p s m args c cc own nL Ts D E A) (hd : decode cc pc = .ok (.lmul, 1)) (k : mm_Z p l e R s m args below meth c Qm nL D E Ad A (pc + 1) ls (mm_L (x * y) :: st) M d u) : mm_Z p l e R s m args below meth c Qm nL D E Ad A pc ls (mm_L y :: mm_L x :: st) M d u :=
  fun H locs L hL hP hD hS => lv_lmul X.1 X.2.1 hd (by rw [← Int64.ofInt_mul]; exact k H locs L hL hP hD hS)
theorem mz_lcmp {x y : Int} (X : mm_Cx p s m args c cc own nL Ts D E A) (hd : decode cc pc = .ok (.lcmp, 1)) (hx : x = y ∨ (InL x ∧ InL y)) (k : mm_Z p l e R s m args below meth c Qm nL D E Ad A (pc + 1) ls (mm_I (if x = y then 0 else if x < y then -1 else 1) :: st) M d u) : mm_Z p l e R s m args below meth c Qm nL D E Ad A pc ls (mm_L y :: mm_L x :: st) M d u :=
  fun H locs L hL hP hD hS => W.lcmp X.1 X.2.1 hd (by
    have e1 : lg_cmp (Int64.ofInt x) (Int64.ofInt y) = Int32.ofInt (if x = y then 0 else if x < y then -1 else 1) := by
      unfold lg_cmp
      rcases hx with h | ⟨h1, h2⟩
      · subst h
        simp [Int64.lt_iff_toInt_lt]
      · simp only [gt_iff_lt, Int64.lt_iff_toInt_lt, ← Int64.toInt_inj, mm_toL h1, mm_toL h2]
        by_cases a : x = y
        · simp [a]
        · by_cases b : x < y
          · rw [if_neg (by omega), if_neg a, if_neg a, if_pos b]; rfl
          · rw [if_pos (by omega), if_neg a, if_neg b]; rfl
    rw [e1]; exact k H locs L hL hP hD hS)
theorem mz_dup {v : mm_V} (X : mm_Cx p s m args c cc own nL Ts D E A) (hd : decode cc pc = .ok (.dup, 1)) (hv : mm_cat v = 1) (k : mm_Z p l e R s m args below meth c Qm nL D E Ad A (pc + 1) ls (v :: v :: st) M d u) : mm_Z p l e R s m args below meth c Qm nL D E Ad A pc ls (v :: st) M d u :=
  fun H locs L hL hP hD hS => lv_dup X.1 X.2.1 hd (by rw [mm_catv]; exact hv) (k H locs L hL hP hD hS)
theorem mz_dup2 {v w : mm_V} (X : mm_Cx p s m args c cc own nL Ts D E A) (hd : decode cc pc = .ok (.dup2, 1)) (hv : mm_cat v = 1) (hw : mm_cat w = 1) (k : mm_Z p l e R s m args below meth c Qm nL D E Ad A (pc + 1) ls (v :: w :: v :: w :: st) M d u) : mm_Z p l e R s m args below meth c Qm nL D E Ad A pc ls (v :: w :: st) M d u :=
  fun H locs L hL hP hD hS => lv_dup2_11 X.1 X.2.1 hd (by rw [mm_catv]; exact hv) (by rw [mm_catv]; exact hw) (k H locs L hL hP hD hS)
theorem mz_pop {v : mm_V} (X : mm_Cx p s m args c cc own nL Ts D E A) (hd : decode cc pc = .ok (.pop, 1)) (hv : mm_cat v = 1) (k : mm_Z p l e R s m args below meth c Qm nL D E Ad A (pc + 1) ls st M d u) : mm_Z p l e R s m args below meth c Qm nL D E Ad A pc ls (v :: st) M d u :=
  fun H locs L hL hP hD hS => lv_pop X.1 X.2.1 hd (by rw [mm_catv]; exact hv) (k H locs L hL hP hD hS)
theorem mz_pop2 {x : Int} (X : mm_Cx p s m args c cc own nL Ts D E A) (hd : decode cc pc = .ok (.pop2, 1)) (k : mm_Z p l e R s m args below meth c Qm nL D E Ad A (pc + 1) ls st M d u) : mm_Z p l e R s m args below meth c Qm nL D E Ad A pc ls (mm_L x :: st) M d u :=
  fun H locs L hL hP hD hS => lv_pop2_2 (va := mm_cc Ad (mm_L x)) X.1 X.2.1 hd rfl (k H locs L hL hP hD hS)
theorem mz_goto {o : Int} (X : mm_Cx p s m args c cc own nL Ts D E A) (hd : decode cc pc = .ok (.goto o, 3)) (ht : (pc : Int) + o = (tgt : Int)) (k : mm_Z p l e R s m args below meth c Qm nL D E Ad A tgt ls st M d u) : mm_Z p l e R s m args below meth c Qm nL D E Ad A pc ls st M d u :=
  fun H locs L hL hP hD hS => lv_goto X.1 X.2.1 hd ht (k H locs L hL hP hD hS)
theorem mz_icmp_eq {x y o : Int} (X : mm_Cx p s m args c cc own nL Ts D E A) (hd : decode cc pc = .ok (.if_icmp .eq o, 3)) (ht : (pc : Int) + o = (tgt : Int)) (hx : InI x) (hy : InI y) (kt : x = y → mm_Z p l e R s m args below meth c Qm nL D E Ad A tgt ls st M d u) (kf : x ≠ y → mm_Z p l e R s m args below meth c Qm nL D E Ad A (pc + 3) ls st M d u) : mm_Z p l e R s m args below meth c Qm nL D E Ad A pc ls (mm_I y :: mm_I x :: st) M d u :=
  fun H locs L hL hP hD hS => lv_icmp_eq X.1 X.2.1 hd ht (fun q => kt ((mm_inj hx hy).mp q) H locs L hL hP hD hS) (fun q => kf (fun h => q ((mm_inj hx hy).mpr h)) H locs L hL hP hD hS)
theorem mz_if_eq {x o : Int} (X : mm_Cx p s m args c cc own nL Ts D E A) (hd : decode cc pc = .ok (.ifCond .eq o, 3)) (ht : (pc : Int) + o = (tgt : Int)) (hx : InI x) (kt : x = 0 → mm_Z p l e R s m args below meth c Qm nL D E Ad A tgt ls st M d u) (kf : x ≠ 0 → mm_Z p l e R s m args below meth c Qm nL D E Ad A (pc + 3) ls st M d u) : mm_Z p l e R s m args below meth c Qm nL D E Ad A pc ls (mm_I x :: st) M d u :=
  have hy := mm_i0
  fun H locs L hL hP hD hS => lv_if_eq X.1 X.2.1 hd ht (fun q => kt ((mm_inj hx hy).mp q) H locs L hL hP hD hS) (fun q => kf (fun h => q ((mm_inj hx hy).mpr h)) H locs L hL hP hD hS)
theorem mz_icmp_ne {x y o : Int} (X : mm_Cx p s m args c cc own nL Ts D E A) (hd : decode cc pc = .ok (.if_icmp .ne o, 3)) (ht : (pc : Int) + o = (tgt : Int)) (hx : InI x) (hy : InI y) (kt : x ≠ y → mm_Z p l e R s m args below meth c Qm nL D E Ad A tgt ls st M d u) (kf : x = y → mm_Z p l e R s m args below meth c Qm nL D E Ad A (pc + 3) ls st M d u) : mm_Z p l e R s m args below meth c Qm nL D E Ad A pc ls (mm_I y :: mm_I x :: st) M d u :=
  fun H locs L hL hP hD hS => lv_icmp_ne X.1 X.2.1 hd ht (fun q => kt (fun h => q ((mm_inj hx hy).mpr h)) H locs L hL hP hD hS) (fun q => kf ((mm_inj hx hy).mp q) H locs L hL hP hD hS)
theorem mz_if_ne {x o : Int} (X : mm_Cx p s m args c cc own nL Ts D E A) (hd : decode cc pc = .ok (.ifCond .ne o, 3)) (ht : (pc : Int) + o = (tgt : Int)) (hx : InI x) (kt : x ≠ 0 → mm_Z p l e R s m args below meth c Qm nL D E Ad A tgt ls st M d u) (kf : x = 0 → mm_Z p l e R s m args below meth c Qm nL D E Ad A (pc + 3) ls st M d u) : mm_Z p l e R s m args below meth c Qm nL D E Ad A pc ls (mm_I x :: st) M d u :=
  have hy := mm_i0
  fun H locs L hL hP hD hS => lv_if_ne X.1 X.2.1 hd ht (fun q => kt (fun h => q ((mm_inj hx hy).mpr h)) H locs L hL hP hD hS) (fun q => kf ((mm_inj hx hy).mp q) H locs L hL hP hD hS)
theorem mz_icmp_lt {x y o : Int} (X : mm_Cx p s m args c cc own nL Ts D E A) (hd : decode cc pc = .ok (.if_icmp .lt o, 3)) (ht : (pc : Int) + o = (tgt : Int)) (hx : InI x) (hy : InI y) (kt : x < y → mm_Z p l e R s m args below meth c Qm nL D E Ad A tgt ls st M d u) (kf : y ≤ x → mm_Z p l e R s m args below meth c Qm nL D E Ad A (pc + 3) ls st M d u) : mm_Z p l e R s m args below meth c Qm nL D E Ad A pc ls (mm_I y :: mm_I x :: st) M d u :=
  fun H locs L hL hP hD hS => lv_icmp_lt X.1 X.2.1 hd ht (fun q => kt ((mm_lt hx hy).mp q) H locs L hL hP hD hS) (fun q => kf (Int.not_lt.mp fun h => q ((mm_lt hx hy).mpr h)) H locs L hL hP hD hS)
theorem mz_if_lt {x o : Int} (X : mm_Cx p s m args c cc own nL Ts D E A) (hd : decode cc pc = .ok (.ifCond .lt o, 3)) (ht : (pc : Int) + o = (tgt : Int)) (hx : InI x) (kt : x < 0 → mm_Z p l e R s m args below meth c Qm nL D E Ad A tgt ls st M d u) (kf : 0 ≤ x → mm_Z p l e R s m args below meth c Qm nL D E Ad A (pc + 3) ls st M d u) : mm_Z p l e R s m args below meth c Qm nL D E Ad A pc ls (mm_I x :: st) M d u :=
  have hy := mm_i0
  fun H locs L hL hP hD hS => lv_if_lt X.1 X.2.1 hd ht (fun q => kt ((mm_lt hx hy).mp q) H locs L hL hP hD hS) (fun q => kf (Int.not_lt.mp fun h => q ((mm_lt hx hy).mpr h)) H locs L hL hP hD hS)
theorem mz_icmp_ge {x y o : Int} (X : mm_Cx p s m args c cc own nL Ts D E A) (hd : decode cc pc = .ok (.if_icmp .ge o, 3)) (ht : (pc : Int) + o = (tgt : Int)) (hx : InI x) (hy : InI y) (kt : y ≤ x → mm_Z p l e R s m args below meth c Qm nL D E Ad A tgt ls st M d u) (kf : x < y → mm_Z p l e R s m args below meth c Qm nL D E Ad A (pc + 3) ls st M d u) : mm_Z p l e R s m args below meth c Qm nL D E Ad A pc ls (mm_I y :: mm_I x :: st) M d u :=
  fun H locs L hL hP hD hS => lv_icmp_ge X.1 X.2.1 hd ht (fun q => kt ((mm_le hy hx).mp q) H locs L hL hP hD hS) (fun q => kf (Int.not_le.mp fun h => q ((mm_le hy hx).mpr h)) H locs L hL hP hD hS)
theorem mz_if_ge {x o : Int} (X : mm_Cx p s m args c cc own nL Ts D E A) (hd : decode cc pc = .ok (.ifCond .ge o, 3)) (ht : (pc : Int) + o = (tgt : Int)) (hx : InI x) (kt : 0 ≤ x → mm_Z p l e R s m args below meth c Qm nL D E Ad A tgt ls st M d u) (kf : x < 0 → mm_Z p l e R s m args below meth c Qm nL D E Ad A (pc + 3) ls st M d u) : mm_Z p l e R s m args below meth c Qm nL D E Ad A pc ls (mm_I x :: st) M d u :=
  have hy := mm_i0
  fun H locs L hL hP hD hS => lv_if_ge X.1 X.2.1 hd ht (fun q => kt ((mm_le hy hx).mp q) H locs L hL hP hD hS) (fun q => kf (Int.not_le.mp fun h => q ((mm_le hy hx).mpr h)) H locs L hL hP hD hS)
theorem mz_icmp_gt {x y o : Int} (X : mm_Cx p s m args c cc own nL Ts D E A) (hd : decode cc pc = .ok (.if_icmp .gt o, 3)) (ht : (pc : Int) + o = (tgt : Int)) (hx : InI x) (hy : InI y) (kt : y < x → mm_Z p l e R s m args below meth c Qm nL D E Ad A tgt ls st M d u) (kf : x ≤ y → mm_Z p l e R s m args below meth c Qm nL D E Ad A (pc + 3) ls st M d u) : mm_Z p l e R s m args below meth c Qm nL D E Ad A pc ls (mm_I y :: mm_I x :: st) M d u :=
  fun H locs L hL hP hD hS => lv_icmp_gt X.1 X.2.1 hd ht (fun q => kt ((mm_lt hy hx).mp q) H locs L hL hP hD hS) (fun q => kf (Int.not_lt.mp fun h => q ((mm_lt hy hx).mpr h)) H locs L hL hP hD hS)
theorem mz_if_gt {x o : Int} (X : mm_Cx p s m args c cc own nL Ts D E A) (hd : decode cc pc = .ok (.ifCond .gt o, 3)) (ht : (pc : Int) + o = (tgt : Int)) (hx : InI x) (kt : 0 < x → mm_Z p l e R s m args below meth c Qm nL D E Ad A tgt ls st M d u) (kf : x ≤ 0 → mm_Z p l e R s m args below meth c Qm nL D E Ad A (pc + 3) ls st M d u) : mm_Z p l e R s m args below meth c Qm nL D E Ad A pc ls (mm_I x :: st) M d u :=
  have hy := mm_i0
  fun H locs L hL hP hD hS => lv_if_gt X.1 X.2.1 hd ht (fun q => kt ((mm_lt hy hx).mp q) H locs L hL hP hD hS) (fun q => kf (Int.not_lt.mp fun h => q ((mm_lt hy hx).mpr h)) H locs L hL hP hD hS)
theorem mz_icmp_le {x y o : Int} (X : mm_Cx p s m args c cc own nL Ts D E A) (hd : decode cc pc = .ok (.if_icmp .le o, 3)) (ht : (pc : Int) + o = (tgt : Int)) (hx : InI x) (hy : InI y) (kt : x ≤ y → mm_Z p l e R s m args below meth c Qm nL D E Ad A tgt ls st M d u) (kf : y < x → mm_Z p l e R s m args below meth c Qm nL D E Ad A (pc + 3) ls st M d u) : mm_Z p l e R s m args below meth c Qm nL D E Ad A pc ls (mm_I y :: mm_I x :: st) M d u :=
  fun H locs L hL hP hD hS => lv_icmp_le X.1 X.2.1 hd ht (fun q => kt ((mm_le hx hy).mp q) H locs L hL hP hD hS) (fun q => kf (Int.not_le.mp fun h => q ((mm_le hx hy).mpr h)) H locs L hL hP hD hS)
theorem mz_if_le {x o : Int} (X : mm_Cx p s m args c cc own nL Ts D E A) (hd : decode cc pc = .ok (.ifCond .le o, 3)) (ht : (pc : Int) + o = (tgt : Int)) (hx : InI x) (kt : x ≤ 0 → mm_Z p l e R s m args below meth c Qm nL D E Ad A tgt ls st M d u) (kf : 0 < x → mm_Z p l e R s m args below meth c Qm nL D E Ad A (pc + 3) ls st M d u) : mm_Z p l e R s m args below meth c Qm nL D E Ad A pc ls (mm_I x :: st) M d u :=
  have hy := mm_i0
  fun H locs L hL hP hD hS => lv_if_le X.1 X.2.1 hd ht (fun q => kt ((mm_le hx hy).mp q) H locs L hL hP hD hS) (fun q => kf (Int.not_le.mp fun h => q ((mm_le hx hy).mpr h)) H locs L hL hP hD hS)
end MZ
end
section
/-! fields, rows, references; then one theorem over all steps -/
def mm_FL (own : String) (rc n idx : Nat) : Jvm.Cond := match mm_cl[rc - 10]? with
  | some (_, T, _) => .fieldLink own idx (T n).1 (T n).2.1 (T n).2.2.1
  | none => .initialized own
def mm_FN (own host : String) (rc n idx : Nat) : Jvm.Cond := match mm_cl[rc - 10]? with
  | some (_, T, _) => .fieldLinkNest own idx (T n).1 (T n).2.1 (T n).2.2.1 host
  | none => .initialized own
def mm_fk (ft : Nat) (ty : FieldType) (fin : Bool) : Bool :=
  match ft, ty with
  | 0, .int => !fin
  | 1, .boolean => !fin
  | 2, .long => !fin
  | 3, .object _ => !fin
  | 3, .array _ => !fin
  | 4, .object _ => !fin
  | 5, _ => fin
  | 6, _ => fin
  | 7, .byte => !fin
  | 8, .array _ => fin
  | 9, .byte => fin
  | _, _ => false
def mm_fk2 (q : Option (Nat × Nat)) (ty : FieldType) (fin : Bool) : Bool := match q with
  | some (ft, _) => mm_fk ft ty fin
  | none => false
def mm_cf (rc n ft : Nat) : Prop := ∃ (C : String) (T : u_T) (N : Nat) (t : Nat → FieldType), mm_cl[rc - 10]? = some (C, T, N) ∧ 10 ≤ rc ∧ n < N ∧ n < (mm_ft rc).length ∧ (∀ k, k < N → parseFieldDescriptor (T k).2.2.1 = some (t k)) ∧ (∀ a, a < N → ∀ b, b < N → a ≠ b → (T a).2.1 ≠ (T b).2.1) ∧ mm_fk ft (t n) (T n).2.2.2 = true
theorem mm_cls (rc n ft base : Nat) (h : mm_nth (mm_ft rc) n = some (ft, base)) : mm_cf rc n ft := by
  have hl := mm_nth_lt h
  match rc, h, hl with
  | 10, h, hl =>
    have h1 := (by decide +kernel : ∀ n, n < 7 → mm_fk2 (mm_nth (mm_ft 10) n) (tyX3 n) (TX3 n).2.2.2 = true) n hl
    rw [h] at h1
    exact ⟨_, _, _, tyX3, rfl, by decide, hl, hl, tyX3_ok, nmX3, h1⟩
  | 11, h, hl =>
    have h1 := (by decide +kernel : ∀ n, n < 8 → mm_fk2 (mm_nth (mm_ft 11) n) (tyX1 n) (TX1 n).2.2.2 = true) n hl
    rw [h] at h1
    exact ⟨_, _, _, tyX1, rfl, by decide, hl, hl, tyX1_ok, nmX1, h1⟩
  | 12, h, hl =>
    have h1 := (by decide +kernel : ∀ n, n < 4 → mm_fk2 (mm_nth (mm_ft 12) n) (tyX2 n) (TX2 n).2.2.2 = true) n hl
    rw [h] at h1
    exact ⟨_, _, _, tyX2, rfl, by decide, hl, hl, tyX2_ok, nmX2, h1⟩
  | 13, h, hl =>
    have h1 := (by decide +kernel : ∀ n, n < 5 → mm_fk2 (mm_nth (mm_ft 13) n) (tyX0 n) (TX0 n).2.2.2 = true) n hl
    rw [h] at h1
    exact ⟨_, _, _, tyX0, rfl, by decide, hl, hl, tyX0_ok, nmX0, h1⟩
  | 14, h, hl =>
    have h1 := (by decide +kernel : ∀ n, n < 17 → mm_fk2 (mm_nth (mm_ft 14) n) (tyX5 n) (TX5 n).2.2.2 = true) n hl
    rw [h] at h1
    exact ⟨_, _, _, tyX5, rfl, by decide, hl, hl, tyX5_ok, nmX5, h1⟩
  | 15, h, hl =>
    have h1 := (by decide +kernel : ∀ n, n < 2 → mm_fk2 (mm_nth (mm_ft 15) n) (tyX4 n) (TX4 n).2.2.2 = true) n hl
    rw [h] at h1
    exact ⟨_, _, _, tyX4, rfl, by decide, hl, hl, tyX4_ok, nmX4, h1⟩
  | 16, h, hl =>
    have h1 := (by decide +kernel : ∀ n, n < 4 → mm_fk2 (mm_nth (mm_ft 16) n) (tyXB n) (TXB n).2.2.2 = true) n hl
    rw [h] at h1
    exact ⟨_, _, _, tyXB, rfl, by decide, hl, hl, tyXB_ok, nmXB, h1⟩
  | 17, h, hl =>
    have h1 := (by decide +kernel : ∀ n, n < 4 → mm_fk2 (mm_nth (mm_ft 17) n) (tyXS n) (TXS n).2.2.2 = true) n hl
    rw [h] at h1
    exact ⟨_, _, _, tyXS, rfl, by decide, hl, hl, tyXS_ok, nmXS, h1⟩
  | 0, h, hl => simp [mm_ft] at hl
  | 1, h, hl => simp [mm_ft] at hl
  | 2, h, hl => simp [mm_ft] at hl
  | 3, h, hl => simp [mm_ft] at hl
  | 4, h, hl => simp [mm_ft] at hl
  | 5, h, hl => simp [mm_ft] at hl
  | 6, h, hl => simp [mm_ft] at hl
  | 7, h, hl => simp [mm_ft] at hl
  | 8, h, hl => simp [mm_ft] at hl
  | 9, h, hl => simp [mm_ft] at hl
  | rc + 18, h, hl => simp [mm_ft] at hl
theorem mm_el_obj {E : mm_En} {Ad : Nat → Nat} {M : mm_M} {o rc : Nat} (h : mm_kd M o = rc) (h10 : 10 ≤ rc) : mm_el E Ad M o = .inr (rc - 10, mm_fs Ad M o (mm_ft rc)) := by
  obtain ⟨k, rfl⟩ : ∃ k, rc = k + 10 := ⟨rc - 10, by omega⟩
  simp only [mm_el, h]
theorem mm_nth_eq {α : Type} : ∀ (l : List α) (n : Nat), mm_nth l n = l[n]?
  | [], n => by simp [mm_nth]
  | a :: l, 0 => by simp [mm_nth]
  | a :: l, n + 1 => by simp [mm_nth, mm_nth_eq l n]
theorem mm_fs_get {Ad : Nat → Nat} {M : mm_M} {o n ft base : Nat} {l : List (Nat × Nat)} (h : mm_nth l n = some (ft, base)) : (mm_fs Ad M o l)[n]? = some (mm_cc Ad (mm_fv ft base o (M o n))) := by
  rw [mm_nth_eq] at h
  simp [mm_fs, List.getElem?_mapIdx, h]
theorem mm_fs_set {Ad : Nat → Nat} {M : mm_M} {o n ft base : Nat} {x : Int} {l : List (Nat × Nat)} {v : Value} (h : mm_nth l n = some (ft, base)) (hv : v = mm_cc Ad (mm_fv ft base o x)) : (mm_fs Ad M o l).set n v = mm_fs Ad (mm_up M o n x) o l := by
  rw [mm_nth_eq] at h
  have hlt := (List.getElem?_eq_some_iff.mp h).1
  apply List.ext_getElem?
  intro k
  by_cases hk : k = n
  · subst hk
    rw [List.getElem?_set_self (by simpa [mm_fs] using hlt)]
    simp [mm_fs, List.getElem?_mapIdx, h, mm_up, hv]
  · rw [List.getElem?_set_ne (Ne.symm hk)]
    simp [mm_fs, List.getElem?_mapIdx, mm_up, hk]
theorem mm_up_o {M : mm_M} {o n : Nat} {x : Int} : ∀ y, y ≠ o → mm_up M o n x y = M y := by
  intro y hy
  funext k
  simp [mm_up, hy]
theorem mm_is0 {M : mm_M} {d : List Nat} {o rc : Nat} (h : mm_is M d o (rc + 1)) : o ≠ 0 := by
  intro e
  subst e
  have h1 : mm_kd M 0 = rc + 1 := h.1
  have h2 : mm_kd M 0 = 0 := rfl
  omega
section MZ
variable {p : Program} {l : Launch} {e : Env} {R : Room} {s : State} {m : MethodId} {args : Array Value} {below : List Frame} {meth : Method} {c : Code} {Qm : State → Prop}
variable {cc : ByteArray} {own : String} {nL : Nat} {Ts : List Jvm.Cond} {D : va_G} {E : mm_En} {Ad : Nat → Nat} {A : Nat → Prop}
variable {pc tgt : Nat} {ls : mm_Ls} {st : List mm_V} {M : mm_M} {d : List Nat} {u : Nat}
/-- a field's link: plain, or of a nest mate -/
def mm_lk (own : String) (Ts : List Jvm.Cond) (rc n idx : Nat) : Prop := mm_FL own rc n idx ∈ Ts ∨ ∃ host, mm_FN own host rc n idx ∈ Ts
def mm_rcn (rc : Nat) : String := if rc = 16 then RXB else RXS
def mm_sn (c : Nat) : String × String × String := if c = 0 then (RXS, "COMPACT_STRINGS", "Z") else if c = 24 then ("java/lang/Integer", "DigitOnes", "[B") else ("java/lang/Integer", "DigitTens", "[B")
def mm_acW (own : String) (k : Nat) : List Jvm.Cond := [.methodLink own k arraycopyName, .native arraycopyName, .static arraycopyName, .initialized "java/lang/System"]
def mm_clW (own : String) (k : Nat) : List Jvm.Cond := [.methodLink own k ⟨"[B", "clone", "()Ljava/lang/Object;"⟩, .sameMethod "[B" "java/lang/Object" "clone" "()Ljava/lang/Object;", .native ⟨"java/lang/Object", "clone", "()Ljava/lang/Object;"⟩, .instanceMethod ⟨"java/lang/Object", "clone", "()Ljava/lang/Object;"⟩, .selects "[B" ⟨"[B", "clone", "()Ljava/lang/Object;"⟩ ⟨"java/lang/Object", "clone", "()Ljava/lang/Object;"⟩]
/-- the words of the other entries of a pool: 99 a class that is made, 98 a static field, 97 a text, 96 a number, 95 arraycopy, 94 a row's clone, 93 a cast to byte rows, 92 a text's field, 91 the same as it is made, 90 Object's constructor -/
def mm_wk (own : String) (rc n k : Nat) : List Jvm.Cond := match n with
  | 99 => [.classLink own k (mm_rcn rc), .instantiable (mm_rcn rc) 4, .initialized (mm_rcn rc)]
  | 98 => [.fieldLink own k (mm_sn rc).1 (mm_sn rc).2.1 (mm_sn rc).2.2]
  | 96 => [.constant own k (if rc = 0 then 2147483639 else 2147483647)]
  | 95 => mm_acW own k
  | 94 => mm_clW own k
  | 93 => [.classLink own k "[B"]
  | 92 => [.fieldLink own k RXS (TXS (if rc = 0 then 0 else 1)).2.1 (TXS (if rc = 0 then 0 else 1)).2.2.1]
  | 91 => [.fieldLink own k RXS (TXS rc).2.1 (TXS rc).2.2.1]
  | 90 => [.methodLink own k Lib.objectInit, .instanceMethod Lib.objectInit, .code Lib.objectInit ⟨#[0xb1]⟩ 1 none]
  | _ => []
/-- a pool's entry: a field's link, or another's words -/
def mm_lj (own : String) (Ts : List Jvm.Cond) (rc n idx : Nat) : Prop := (n < 90 ∧ mm_lk own Ts rc n idx) ∨ (90 ≤ n ∧ (∀ w ∈ mm_wk own rc n idx, w ∈ Ts) ∧ (n = 97 → (rc = 0 ∧ ((own = RX3 ∧ idx = 240) ∨ (own = RX5 ∧ idx = 216))) ∨ (rc = 28 ∧ own = RX5 ∧ idx = 221)) ∧ (n = 91 → own = RXS))
theorem mz_getf {k rc n ft base o : Nat} (X : mm_Cx p s m args c cc own nL Ts D E A) (hd : decode cc pc = .ok (.getfield k, 3)) (hk : mm_lk own Ts rc n k) (hf : mm_nth (mm_ft rc) n = some (ft, base)) (ho : mm_is M d o rc)
    (kk : mm_Z p l e R s m args below meth c Qm nL D E Ad A (pc + 3) ls (mm_fv ft base o (M o n) :: st) M d u) : mm_Z p l e R s m args below meth c Qm nL D E Ad A pc ls (mm_R o :: st) M d u := by
  intro H locs L hL hP hD hS
  obtain ⟨C, T, N, t, hc, h10, hn, hn2, hty, hnm, hfk⟩ := mm_cls rc n ft base hf
  obtain ⟨q0, hq, hw⟩ := mm_idx (E := E) (Ad := Ad) (M := M) ho.2
  rw [mm_el_obj ho.1 h10] at hw
  have hne : o ≠ 0 := by
    obtain ⟨k', rfl⟩ : ∃ k', rc = k' + 1 := ⟨rc - 1, by omega⟩
    exact mm_is0 ho
  have hin := X.2.2.2.2.2.2.2 _ (List.mem_of_getElem? hc)
  have e1 : mm_cc Ad (mm_R o) = .ref (mm_ad Ad o) := by simp only [mm_cc, mm_rn, hne, if_false, va_rf]
  rw [List.map_cons, e1]
  have hsame : ∀ x, s.fieldFound? (T n).1 (T n).2.1 (T n).2.2.1 = some x → s.fieldFound? (T n).1 (T n).2.1 (T n).2.2.1 = some x := fun x h => h
  rcases hk with hk | ⟨host, hk⟩
  · simp only [mm_FL, hc] at hk
    exact va_get X.1 X.2.1 X.2.2.2.2.1 hin X.2.2.2.1 X.2.2.2.2.2.1 hP q0 hw hc n hn (X.2.2.2.2.1 _ hk) hsame (mm_fs_get hf) hd (kk H locs L hL hP hD hS)
  · simp only [mm_FN, hc] at hk
    exact va_getN X.1 X.2.1 X.2.2.2.2.1 hin X.2.2.2.1 X.2.2.2.2.2.1 hP q0 hw hc n hn (X.2.2.2.2.1 _ hk) hsame (mm_fs_get hf) hd (kk H locs L hL hP hD hS)
/-- what may be stored in a field -/
theorem mm_pfit {ft base o : Nat} {v : mm_V} {ty : FieldType} {K : Int → Prop} (h : mm_pf ft v K) (hk : mm_fk ft ty false = true) : ∃ x, K x ∧ mm_cc Ad v = mm_cc Ad (mm_fv ft base o x) ∧ narrow ty (mm_cc Ad v) = mm_cc Ad v ∧ fits ty (mm_cc Ad v) = true := by
  unfold mm_pf at h
  split at h
  · rename_i x
    cases ty <;> simp [mm_fk] at hk
    exact ⟨x, h, rfl, rfl, rfl⟩
  · rename_i x
    cases ty <;> simp [mm_fk] at hk
    refine ⟨x, h.2, rfl, ?_, ?_⟩ <;> rcases h.1 with rfl | rfl <;> simp only [mm_cc] <;> decide
  · rename_i x
    cases ty <;> simp [mm_fk] at hk
    exact ⟨x, h, rfl, rfl, rfl⟩
  · rename_i o'
    cases ty <;> simp [mm_fk] at hk
    all_goals (refine ⟨(o' : Int), h, by simp [mm_fv], ?_, ?_⟩ <;> simp only [mm_cc] <;> cases mm_rn Ad o' <;> rfl)
  · rename_i q
    cases ty <;> simp [mm_fk] at hk
    refine ⟨(q : Int) + 1, h, ?_, rfl, rfl⟩
    simp only [mm_fv]
    rw [if_neg (by omega), show ((q : Int) + 1 - 1).toNat = q by omega]
  · rename_i x
    cases ty <;> simp [mm_fk] at hk
    obtain ⟨rfl, h⟩ := h
    exact ⟨0, h, rfl, rfl, rfl⟩
  · exact h.elim
theorem mm_pff {ft : Nat} {v : mm_V} {ty : FieldType} {fin : Bool} {K : Int → Prop} (h : mm_pf ft v K) (hk : mm_fk ft ty fin = true) : fin = false := by
  unfold mm_pf at h
  split at h <;> first | exact h.elim | (cases ty <;> simp_all [mm_fk])
theorem mz_putf {k rc n ft base o : Nat} {v : mm_V} (X : mm_Cx p s m args c cc own nL Ts D E A) (hd : decode cc pc = .ok (.putfield k, 3)) (hk : mm_lk own Ts rc n k) (hf : mm_nth (mm_ft rc) n = some (ft, base)) (ho : mm_is M d o rc)
    (kk : mm_pf ft v (fun x => mm_Z p l e R s m args below meth c Qm nL D E Ad A (pc + 3) ls st (mm_up M o n x) d u)) : mm_Z p l e R s m args below meth c Qm nL D E Ad A pc ls (v :: mm_R o :: st) M d u := by
  intro H locs L hL hP hD hS
  obtain ⟨C, T, N, t, hc, h10, hn, hn2, hty, hnm, hfk⟩ := mm_cls rc n ft base hf
  have hfin := mm_pff kk hfk
  rw [hfin] at hfk
  obtain ⟨x, hx, he, h1, h2⟩ := mm_pfit (Ad := Ad) (base := base) (o := o) kk hfk
  obtain ⟨q0, hq, hw⟩ := mm_idx (E := E) (Ad := Ad) (M := M) ho.2
  have hne : o ≠ 0 := by
    obtain ⟨k', rfl⟩ : ∃ k', rc = k' + 1 := ⟨rc - 1, by omega⟩
    exact mm_is0 ho
  have hw0 := mm_wset (M' := mm_up M o n x) hD hq hne mm_up_o
  have hkd : mm_kd (mm_up M o n x) o = rc := by rw [(mm_kd_up (M := M) (o' := o) hne mm_up_o).1]; exact ho.1
  rw [mm_el_obj hkd h10, ← mm_fs_set hf he] at hw0
  rw [mm_el_obj ho.1 h10] at hw
  have hin := X.2.2.2.2.2.2.2 _ (List.mem_of_getElem? hc)
  have e1 : mm_cc Ad (mm_R o) = .ref (mm_ad Ad o) := by simp only [mm_cc, mm_rn, hne, if_false, va_rf]
  rw [List.map_cons, List.map_cons, e1]
  have hsame : ∀ x, s.fieldFound? (T n).1 (T n).2.1 (T n).2.2.1 = some x → s.fieldFound? (T n).1 (T n).2.1 (T n).2.2.1 = some x := fun x h => h
  have hlen : n < (mm_fs Ad M o (mm_ft rc)).length := by simpa [mm_fs] using hn2
  rcases hk with hk | ⟨host, hk⟩
  · simp only [mm_FL, hc] at hk
    refine va_put X.1 X.2.1 X.2.2.2.2.1 hin t hty hnm X.2.2.2.1 X.2.2.2.2.2.1 hP hD hS q0 hw hc n hn (X.2.2.2.2.1 _ hk) hsame hfin (hty n hn) h1 h2 hlen hd (fun H1 locs1 hP1 hD1 hS1 => ?_)
    rw [hw0] at hP1 hD1
    exact hx H1 locs1 L hL hP1 hD1 hS1
  · simp only [mm_FN, hc] at hk
    refine va_putN X.1 X.2.1 X.2.2.2.2.1 hin t hty hnm X.2.2.2.1 X.2.2.2.2.2.1 hP hD hS q0 hw hc n hn (X.2.2.2.2.1 _ hk) hsame hfin (hty n hn) h1 h2 hlen hd (fun H1 locs1 hP1 hD1 hS1 => ?_)
    rw [hw0] at hP1 hD1
    exact hx H1 locs1 L hL hP1 hD1 hS1
theorem mm_ref {o : Nat} (h : o ≠ 0) : mm_cc Ad (mm_R o) = .ref (mm_ad Ad o) := by simp only [mm_cc, mm_rn, h, if_false, va_rf]
theorem mz_iald {a : Int} {o : Nat} (X : mm_Cx p s m args c cc own nL Ts D E A) (hd : decode cc pc = .ok (.iaload, 1)) (ho : mm_is M d o 1) (ha : 0 ≤ a ∧ a < (mm_ln M o : Int)) (hn : mm_ln M o < 2147483648)
    (kk : mm_Z p l e R s m args below meth c Qm nL D E Ad A (pc + 1) ls (mm_I (M o a.toNat) :: st) M d u) : mm_Z p l e R s m args below meth c Qm nL D E Ad A pc ls (mm_I a :: mm_R o :: st) M d u := by
  intro H locs L hL hP hD hS
  obtain ⟨q0, hq, hw⟩ := mm_idx (E := E) (Ad := Ad) (M := M) ho.2
  obtain ⟨hin, hcl⟩ := mm_vin ha hn
  simp only [mm_el, ho.1] at hw
  rw [List.map_cons, List.map_cons, mm_ref (mm_is0 ho)]
  refine va_iald X.1 X.2.1 X.2.2.2.2.2.1 hP q0 0 hw rfl hin hd ?_
  rw [hcl]
  exact kk H locs L hL hP hD hS
theorem mz_iast {a x : Int} {o : Nat} (X : mm_Cx p s m args c cc own nL Ts D E A) (hd : decode cc pc = .ok (.iastore, 1)) (ho : mm_is M d o 1) (ha : 0 ≤ a ∧ a < (mm_ln M o : Int)) (hn : mm_ln M o < 2147483648)
    (kk : mm_Z p l e R s m args below meth c Qm nL D E Ad A (pc + 1) ls st (mm_up M o a.toNat x) d u) : mm_Z p l e R s m args below meth c Qm nL D E Ad A pc ls (mm_I x :: mm_I a :: mm_R o :: st) M d u := by
  intro H locs L hL hP hD hS
  obtain ⟨q0, hq, hw⟩ := mm_idx (E := E) (Ad := Ad) (M := M) ho.2
  obtain ⟨hin, hcl⟩ := mm_vin ha hn
  have hne := mm_is0 ho
  have hw0 := mm_wset (M' := mm_up M o a.toNat x) hD hq hne mm_up_o
  have hkd := mm_kd_up (M := M) (M' := mm_up M o a.toNat x) (o' := o) hne mm_up_o
  simp only [mm_el, ho.1] at hw
  simp only [mm_el, hkd.1, hkd.2, ho.1] at hw0
  rw [List.map_cons, List.map_cons, List.map_cons, mm_ref hne]
  refine va_iast X.1 X.2.1 X.2.2.2.2.2.1 hP hD hS q0 0 hw rfl hin hd (fun H1 locs1 hP1 hD1 hS1 => ?_)
  have hf : upd (fun j => Int32.ofInt (M o j)) (Int32.ofInt a).toNatClampNeg (Int32.ofInt x) = fun j => Int32.ofInt (mm_up M o a.toNat x o j) := by
    funext j
    rw [hcl]
    by_cases hj : j = a.toNat <;> simp [upd, mm_up, hj]
  rw [hf, hw0] at hP1 hD1
  exact kk H1 locs1 L hL hP1 hD1 hS1
theorem mz_aald {a : Int} {o : Nat} (X : mm_Cx p s m args c cc own nL Ts D E A) (hd : decode cc pc = .ok (.aaload, 1)) (ho : mm_is M d o 2) (ha : 0 ≤ a ∧ a < (mm_ln M o : Int)) (hn : mm_ln M o < 2147483648)
    (kk : mm_Z p l e R s m args below meth c Qm nL D E Ad A (pc + 1) ls (mm_R (8 + 2 * a.toNat) :: st) M d u) : mm_Z p l e R s m args below meth c Qm nL D E Ad A pc ls (mm_I a :: mm_R o :: st) M d u := by
  intro H locs L hL hP hD hS
  obtain ⟨q0, hq, hw⟩ := mm_idx (E := E) (Ad := Ad) (M := M) ho.2
  obtain ⟨hin, hcl⟩ := mm_vin ha hn
  simp only [mm_el, ho.1] at hw
  rw [List.map_cons, List.map_cons, mm_ref (mm_is0 ho)]
  refine va_aldq X.1 X.2.1 X.2.2.2.2.2.1 hP q0 2 hw rfl hin hd ?_
  rw [hcl]
  have h := kk H locs L hL hP hD hS
  rw [List.map_cons, mm_ref (by omega)] at h
  exact h
theorem mz_alen {o : Nat} (X : mm_Cx p s m args c cc own nL Ts D E A) (hd : decode cc pc = .ok (.arraylength, 1)) (ho : mm_is M d o 1 ∨ mm_is M d o 2) (hn : mm_ln M o < 2147483648)
    (kk : mm_Z p l e R s m args below meth c Qm nL D E Ad A (pc + 1) ls (mm_I (mm_ln M o : Int) :: st) M d u) : mm_Z p l e R s m args below meth c Qm nL D E Ad A pc ls (mm_R o :: st) M d u := by
  intro H locs L hL hP hD hS
  rcases ho with ho | ho
  all_goals
    obtain ⟨q0, hq, hw⟩ := mm_idx (E := E) (Ad := Ad) (M := M) ho.2
    simp only [mm_el, ho.1] at hw
    rw [List.map_cons, mm_ref (mm_is0 ho)]
  · exact va_alen X.1 X.2.1 X.2.2.2.2.2.1 hP q0 0 hw rfl (v := Int32.ofInt (mm_ln M o : Int)) (by rw [Int32.ofInt_eq_ofNat]) hd (kk H locs L hL hP hD hS)
  · exact va_alen X.1 X.2.1 X.2.2.2.2.2.1 hP q0 2 hw rfl (v := Int32.ofInt (mm_ln M o : Int)) (by rw [Int32.ofInt_eq_ofNat]) hd (kk H locs L hL hP hD hS)
theorem mm_rninj {a b : Nat} (hD : va_D A (mm_ws E Ad M d)) (ha : a = 0 ∨ a ∈ mm_ids d) (hb : b = 0 ∨ b ∈ mm_ids d) : mm_rn Ad a = mm_rn Ad b ↔ a = b := by
  constructor
  · intro h
    by_cases a0 : a = 0 <;> by_cases b0 : b = 0
    · rw [a0, b0]
    · simp [mm_rn, a0, b0] at h
    · simp [mm_rn, a0, b0] at h
    · obtain ⟨i, hi, hwi⟩ := mm_idx (E := E) (Ad := Ad) (M := M) (ha.resolve_left a0)
      obtain ⟨j, hj, hwj⟩ := mm_idx (E := E) (Ad := Ad) (M := M) (hb.resolve_left b0)
      simp only [mm_rn, a0, b0, if_false, Option.some.injEq] at h
      have e1 := hD.1 i j _ _ hwi hwj h
      subst e1
      exact Option.some.inj (hi.symm.trans hj)
  · intro h
    rw [h]
theorem mz_acmp_eq {a b : Nat} {o : Int} (X : mm_Cx p s m args c cc own nL Ts D E A) (hd : decode cc pc = .ok (.if_acmp .eq o, 3)) (ht : (pc : Int) + o = (tgt : Int)) (ha : a = 0 ∨ a ∈ mm_ids d) (hb : b = 0 ∨ b ∈ mm_ids d)
    (kt : a = b → mm_Z p l e R s m args below meth c Qm nL D E Ad A tgt ls st M d u) (kf : a ≠ b → mm_Z p l e R s m args below meth c Qm nL D E Ad A (pc + 3) ls st M d u) : mm_Z p l e R s m args below meth c Qm nL D E Ad A pc ls (mm_R b :: mm_R a :: st) M d u :=
  fun H locs L hL hP hD hS => lv_acmp_eq (rx := mm_rn Ad a) (ry := mm_rn Ad b) X.1 X.2.1 hd ht (fun q => kt ((mm_rninj hD ha hb).mp q) H locs L hL hP hD hS) (fun q => kf (fun z => q ((mm_rninj hD ha hb).mpr z)) H locs L hL hP hD hS)
theorem mz_acmp_ne {a b : Nat} {o : Int} (X : mm_Cx p s m args c cc own nL Ts D E A) (hd : decode cc pc = .ok (.if_acmp .ne o, 3)) (ht : (pc : Int) + o = (tgt : Int)) (ha : a = 0 ∨ a ∈ mm_ids d) (hb : b = 0 ∨ b ∈ mm_ids d)
    (kt : a ≠ b → mm_Z p l e R s m args below meth c Qm nL D E Ad A tgt ls st M d u) (kf : a = b → mm_Z p l e R s m args below meth c Qm nL D E Ad A (pc + 3) ls st M d u) : mm_Z p l e R s m args below meth c Qm nL D E Ad A pc ls (mm_R b :: mm_R a :: st) M d u :=
  fun H locs L hL hP hD hS => lv_acmp_ne (rx := mm_rn Ad a) (ry := mm_rn Ad b) X.1 X.2.1 hd ht (fun q => kt (fun z => q ((mm_rninj hD ha hb).mpr z)) H locs L hL hP hD hS) (fun q => kf ((mm_rninj hD ha hb).mp q) H locs L hL hP hD hS)
theorem mz_ifnull {a : Nat} {o : Int} (X : mm_Cx p s m args c cc own nL Ts D E A) (hd : decode cc pc = .ok (.ifnull o, 3)) (ht : (pc : Int) + o = (tgt : Int))
    (kt : a = 0 → mm_Z p l e R s m args below meth c Qm nL D E Ad A tgt ls st M d u) (kf : a ≠ 0 → mm_Z p l e R s m args below meth c Qm nL D E Ad A (pc + 3) ls st M d u) : mm_Z p l e R s m args below meth c Qm nL D E Ad A pc ls (mm_R a :: st) M d u := by
  intro H locs L hL hP hD hS
  by_cases h : a = 0
  · have e1 : mm_cc Ad (mm_R a) = .null := by simp only [mm_cc, mm_rn, h, if_true, va_rf]
    rw [List.map_cons, e1]
    exact lv_ifnullN X.1 X.2.1 hd ht (kt h H locs L hL hP hD hS)
  · rw [List.map_cons, mm_ref h]
    exact lv_ifnull X.1 X.2.1 hd (kf h H locs L hL hP hD hS)
theorem mz_ifnonnull {a : Nat} {o : Int} (X : mm_Cx p s m args c cc own nL Ts D E A) (hd : decode cc pc = .ok (.ifnonnull o, 3)) (ht : (pc : Int) + o = (tgt : Int))
    (kt : a ≠ 0 → mm_Z p l e R s m args below meth c Qm nL D E Ad A tgt ls st M d u) (kf : a = 0 → mm_Z p l e R s m args below meth c Qm nL D E Ad A (pc + 3) ls st M d u) : mm_Z p l e R s m args below meth c Qm nL D E Ad A pc ls (mm_R a :: st) M d u := by
  intro H locs L hL hP hD hS
  by_cases h : a = 0
  · have e1 : mm_cc Ad (mm_R a) = .null := by simp only [mm_cc, mm_rn, h, if_true, va_rf]
    rw [List.map_cons, e1]
    exact lv_ifnonnullN X.1 X.2.1 hd (kf h H locs L hL hP hD hS)
  · rw [List.map_cons, mm_ref h]
    exact lv_ifnonnull X.1 X.2.1 hd ht (kt h H locs L hL hP hD hS)
/-- the script's rows: known, never written -/
def mm_SX (s : State) (A : Nat → Prop) (SC : Nat → Option (Nat × (Nat → Int32))) : Prop := ∀ (q n : Nat) (xs : Nat → Int32), SC q = some (n, xs) → va_X q n xs s s.heap ∧ q < s.heap.size ∧ ¬ A q
theorem mz_sld {a : Int} {q n : Nat} {xs : Nat → Int32} {SC : Nat → Option (Nat × (Nat → Int32))} (X : mm_Cx p s m args c cc own nL Ts D E A) (hd : decode cc pc = .ok (.iaload, 1)) (hS0 : mm_SX s A SC) (hq : SC q = some (n, xs)) (ha : 0 ≤ a ∧ a < (n : Int)) (hn : n < 2147483648)
    (kk : mm_Z p l e R s m args below meth c Qm nL D E Ad A (pc + 1) ls (mm_I (xs a.toNat).toInt :: st) M d u) : mm_Z p l e R s m args below meth c Qm nL D E Ad A pc ls (mm_I a :: mm_X q :: st) M d u := by
  intro H locs L hL hP hD hS
  obtain ⟨hX, hb, hA⟩ := hS0 q n xs hq
  obtain ⟨hin, hcl⟩ := mm_vin ha hn
  refine va_sld X.1 X.2.1 hX hb hA hS hin hd ?_
  rw [hcl]
  have h := kk H locs L hL hP hD hS
  rw [List.map_cons] at h
  simp only [mm_cc, Int32.ofInt_toInt] at h
  exact h
theorem mz_slen {q n : Nat} {xs : Nat → Int32} {SC : Nat → Option (Nat × (Nat → Int32))} (X : mm_Cx p s m args c cc own nL Ts D E A) (hd : decode cc pc = .ok (.arraylength, 1)) (hS0 : mm_SX s A SC) (hq : SC q = some (n, xs))
    (kk : mm_Z p l e R s m args below meth c Qm nL D E Ad A (pc + 1) ls (mm_I (n : Int) :: st) M d u) : mm_Z p l e R s m args below meth c Qm nL D E Ad A pc ls (mm_X q :: st) M d u := by
  intro H locs L hL hP hD hS
  obtain ⟨hX, hb, hA⟩ := hS0 q n xs hq
  have h := kk H locs L hL hP hD hS
  rw [List.map_cons] at h
  simp only [mm_cc, Int32.ofInt_eq_ofNat] at h
  exact va_slen X.1 X.2.1 hX hb hA hS hd h
end MZ
end
section
/-! steps that make objects, copy bytes, read the system's constants -/
/-- the system's constants: the flag of compact texts, the rows of digits, the texts that this code names -/
def mm_J (A : Nat → Prop) (Ad : Nat → Nat) (U : State) : Prop :=
  va_Z RXS "COMPACT_STRINGS" "Z" (.int 1) A U U.heap ∧
  (va_Z "java/lang/Integer" "DigitOnes" "[B" (.ref (Ad 24)) A U U.heap ∧ ∃ f : Nat → Int32, va_T .byte (Ad 24) 100 (fun j => .int (f j)) A U U.heap) ∧
  (va_Z "java/lang/Integer" "DigitTens" "[B" (.ref (Ad 25)) A U U.heap ∧ ∃ f : Nat → Int32, va_T .byte (Ad 25) 100 (fun j => .int (f j)) A U U.heap) ∧
  (∃ q, vk_R RX3 240 "" q U) ∧ (∃ q, vk_R RX5 216 "" q U) ∧
  vk_R RX5 221 "-" (Ad 28) U ∧ va_O RXS (Ad 28) A U U.heap ∧ va_OF RXS "coder" "B" (.int 0) (Ad 28) A U U.heap ∧ va_OF RXS "value" "[B" (.ref (Ad 29)) (Ad 28) A U U.heap ∧
  ∃ f : Nat → Int32, va_T .byte (Ad 29) 1 (fun j => .int (f j)) A U U.heap ∧ ∀ j, j < 1 → fits .byte (.int (f j)) = true
theorem mm_J.to {A A1 : Nat → Prop} {Ad : Nat → Nat} {s U : State} {H : Heap} (h : mm_J A Ad s) (hW : s.WarmedH U.vm) (hH : U.heap = H) (hq : ∀ q, q < s.heap.size → ¬ A q → H[q]? = s.heap[q]?) (hA : ∀ q, A1 q → A q) : mm_J A1 Ad U := by
  obtain ⟨h1, ⟨h2, f2, g2⟩, ⟨h3, f3, g3⟩, ⟨q4, h4⟩, ⟨q5, h5⟩, h6, h7, h8, h9, f10, g10, k10⟩ := h
  have vm := hW.alike
  subst hH
  exact ⟨(va_Z.moved vm (h1.kept hq)).narrow hA, ⟨(va_Z.moved vm (h2.kept hq)).narrow hA, f2, (va_T.moved vm (g2.kept hq)).narrow hA⟩, ⟨(va_Z.moved vm (h3.kept hq)).narrow hA, f3, (va_T.moved vm (g3.kept hq)).narrow hA⟩, ⟨q4, vk_R.warm hW h4⟩, ⟨q5, vk_R.warm hW h5⟩, vk_R.warm hW h6,
    (va_O.moved vm (h7.kept hq)).narrow hA, (va_OF.moved vm (h8.kept hq)).narrow hA, (va_OF.moved vm (h9.kept hq)).narrow hA, f10, (va_T.moved vm (g10.kept hq)).narrow hA, k10⟩
theorem mm_b8_fit (x : Int) : fits .byte (.int (mm_b8 x)) = true := by
  have h1 := Int8.toInt_lt (Int8.ofInt x)
  have h2 := Int8.le_toInt (Int8.ofInt x)
  have e : (mm_b8 x).toInt = (Int8.ofInt x).toInt := by simp [mm_b8]
  have e1 : (-128 : Int32).toInt = -128 := by decide
  have e2 : (127 : Int32).toInt = 127 := by decide
  simp only [fits, Bool.and_eq_true, decide_eq_true_eq, Int32.le_iff_toInt_le, e, e1, e2]
  omega
theorem mm_b8_nar (x : Int) : vp_nar .byte (Int32.ofInt x) = mm_b8 x := by simp [vp_nar, narrow, mm_b8]
/-- a byte row's content can be told by whole numbers -/
theorem mm_b8_of (v : Int32) (h : fits .byte (.int v) = true) : mm_b8 v.toInt = v := by
  have e1 : (-128 : Int32).toInt = -128 := by decide
  have e2 : (127 : Int32).toInt = 127 := by decide
  simp only [fits, Bool.and_eq_true, decide_eq_true_eq, Int32.le_iff_toInt_le, e1, e2] at h
  apply Int32.toInt_inj.mp
  simp only [mm_b8, Int8.toInt_toInt32]
  exact Int8.toInt_ofInt_of_le (by omega) (by omega)
theorem mm_el_any {E : mm_En} {Ad : Nat → Nat} {M : mm_M} {o : Nat} {h : Nat → Int} (ho : o ≠ 0) (hk : mm_kd M o = 3) : mm_el E Ad (mm_any M o h) o = .inl (E.2.1, mm_ln M o, .inl (fun j => mm_b8 (h j))) := by
  have e := mm_kd_up (M := M) (M' := mm_any M o h) (o' := o) ho (fun x hx => by funext j; simp [mm_any, hx])
  simp only [mm_el, e.1, e.2, hk, mm_any, if_true]
theorem mm_any_o {M : mm_M} {o : Nat} {h : Nat → Int} : ∀ y, y ≠ o → mm_any M o h y = M y := fun y hy => by funext j; simp [mm_any, hy]
/-- a world with a new object -/
theorem mm_nob_kd {M : mm_M} {o k : Nat} {n : Int} (ho : 100 ≤ o) (hn : 0 ≤ n) : mm_kd (mm_nob M o k n) o = k ∧ mm_ln (mm_nob M o k n) o = n.toNat := by
  have h1 : (0 : Nat) ≠ o := by omega
  have h2 : ¬ o < 100 := by omega
  have h3 : ¬ (2 * o + 1 = 2 * o) := by omega
  simp [mm_kd, mm_ln, mm_nob, h1, h2, h3]
theorem mm_nob_kd2 {M : mm_M} {o k x : Nat} {n : Int} (ho : 100 ≤ o) (hx : x ≠ o) : mm_kd (mm_nob M o k n) x = mm_kd M x ∧ mm_ln (mm_nob M o k n) x = mm_ln M x := by
  have h1 : (0 : Nat) ≠ o := by omega
  have h3 : ¬ (2 * x + 1 = 2 * o) := by omega
  have h4 : ¬ (2 * x = 2 * o) := by omega
  have h5 : ¬ (2 * x = 2 * o + 1) := by omega
  have h6 : ¬ (2 * x + 1 = 2 * o + 1) := by omega
  simp [mm_kd, mm_ln, mm_nob, h1, h3, h4, h5, h6, hx]
theorem mm_nob_o {M : mm_M} {o k x : Nat} {n : Int} (hx : x ≠ o) (h0 : x ≠ 0) : mm_nob M o k n x = M x := by
  funext j
  simp [mm_nob, hx, h0]
theorem mm_ws_nob {E : mm_En} {Ad : Nat → Nat} {M : mm_M} {d : List Nat} {o k : Nat} {n : Int} (ho : 100 ≤ o) (hd : o ∉ d) : mm_ws E Ad (mm_nob M o k n) (d ++ [o]) = mm_ws E Ad M d ++ [(o - 100, mm_el E Ad (mm_nob M o k n) o)] := by
  have e0 : mm_ids (d ++ [o]) = mm_ids d ++ [o] := by simp [mm_ids]
  have ead : mm_ad Ad o = o - 100 := by
    unfold mm_ad
    rw [if_neg (by omega)]
  unfold mm_ws
  rw [e0, List.map_append, List.map_cons, List.map_nil, ead]
  congr 1
  refine List.map_congr_left (fun x hx => ?_)
  have hxo : x ≠ o := by
    intro e
    subst e
    rcases List.mem_append.mp hx with h | h
    · simp only [mm_st, List.mem_cons, List.not_mem_nil, or_false] at h
      omega
    · exact hd h
  have ek := mm_nob_kd2 (M := M) (k := k) (n := n) ho hxo
  congr 1
  by_cases h0 : x = 0
  · subst h0
    simp only [mm_el, ek.1]
    rfl
  · simp only [mm_el, ek.1, ek.2, mm_fs, mm_nob_o hxo h0]
section MZ
variable {p : Program} {l : Launch} {e : Env} {R : Room} {s : State} {m : MethodId} {args : Array Value} {below : List Frame} {meth : Method} {c : Code} {Qm : State → Prop}
variable {cc : ByteArray} {own : String} {nL : Nat} {Ts : List Jvm.Cond} {D : va_G} {E : mm_En} {Ad : Nat → Nat} {A : Nat → Prop}
variable {pc tgt : Nat} {ls : mm_Ls} {st : List mm_V} {M : mm_M} {d : List Nat} {u mu : Nat}
theorem mz_i2b {a : Int} (X : mm_Cx p s m args c cc own nL Ts D E A) (hd : decode cc pc = .ok (.i2b, 1)) (k : ∀ x : Int, mm_Z p l e R s m args below meth c Qm nL D E Ad A (pc + 1) ls (mm_I x :: st) M d u) : mm_Z p l e R s m args below meth c Qm nL D E Ad A pc ls (mm_I a :: st) M d u := by
  intro H locs L hL hP hD hS
  have h := k ((Int32.ofInt a).toInt8.toInt32).toInt H locs L hL hP hD hS
  simp only [List.map_cons, mm_cc, Int32.ofInt_toInt] at h
  exact lv_i2b X.1 X.2.1 hd rfl h
theorem mz_dup_x1 {v w : mm_V} (X : mm_Cx p s m args c cc own nL Ts D E A) (hd : decode cc pc = .ok (.dup_x1, 1)) (hv : mm_cat v = 1) (hw : mm_cat w = 1) (k : mm_Z p l e R s m args below meth c Qm nL D E Ad A (pc + 1) ls (v :: w :: v :: st) M d u) : mm_Z p l e R s m args below meth c Qm nL D E Ad A pc ls (v :: w :: st) M d u :=
  fun H locs L hL hP hD hS => lv_dup_x1 X.1 X.2.1 hd (by rw [mm_catv]; exact hv) (by rw [mm_catv]; exact hw) (k H locs L hL hP hD hS)
theorem mz_ldcI {k : Nat} {v : Int} (X : mm_Cx p s m args c cc own nL Ts D E A) (hd : decode cc pc = .ok (.ldc k, 2)) (hw : Jvm.Cond.constant own k (Int32.ofInt v) ∈ Ts) (kk : mm_Z p l e R s m args below meth c Qm nL D E Ad A (pc + 2) ls (mm_I v :: st) M d u) : mm_Z p l e R s m args below meth c Qm nL D E Ad A pc ls st M d u :=
  fun H locs L hL hP hD hS => lv_ldc X.1 X.2.1 X.2.2.2.1 (X.2.2.2.2.1 _ hw) hd (kk H locs L hL hP hD hS)
theorem mz_ldcX {k q : Nat} {tx : String} (X : mm_Cx p s m args c cc own nL Ts D E A) (hd : decode cc pc = .ok (.ldc k, 2)) (hR : vk_R own k tx q s) {v : mm_V} (hv : mm_cc Ad v = .ref q) (kk : mm_Z p l e R s m args below meth c Qm nL D E Ad A (pc + 2) ls (v :: st) M d u) : mm_Z p l e R s m args below meth c Qm nL D E Ad A pc ls st M d u := by
  intro H locs L hL hP hD hS
  have h := kk H locs L hL hP hD hS
  rw [List.map_cons, hv] at h
  exact va_ldcS X.1 X.2.1 X.2.2.2.1 hR hd h
theorem mz_gets {k : Nat} {C n dd : String} {v : mm_V} (X : mm_Cx p s m args c cc own nL Ts D E A) (hd : decode cc pc = .ok (.getstatic k, 3)) (hw : Jvm.Cond.fieldLink own k C n dd ∈ Ts) (hZ : va_Z C n dd (mm_cc Ad v) A s s.heap) (kk : mm_Z p l e R s m args below meth c Qm nL D E Ad A (pc + 3) ls (v :: st) M d u) : mm_Z p l e R s m args below meth c Qm nL D E Ad A pc ls st M d u :=
  fun H locs L hL hP hD hS => va_gets X.1 X.2.1 hZ hS X.2.2.2.1 (X.2.2.2.2.1 _ hw) (fun _ h => h) hd (kk H locs L hL hP hD hS)
theorem mz_bald {a : Int} {o : Nat} {f : Nat → Int32} (X : mm_Cx p s m args c cc own nL Ts D E A) (hd : decode cc pc = .ok (.baload, 1)) (ho : 0 < o ∧ o < 100) (hT : va_T .byte (Ad o) 100 (fun j => .int (f j)) A s s.heap) (ha : 0 ≤ a ∧ a < 100) (k : ∀ x : Int, mm_Z p l e R s m args below meth c Qm nL D E Ad A (pc + 1) ls (mm_I x :: st) M d u) : mm_Z p l e R s m args below meth c Qm nL D E Ad A pc ls (mm_I a :: mm_R o :: st) M d u := by
  intro H locs L hL hP hD hS
  obtain ⟨hin, hcl⟩ := mm_vin (a := a) (n := 100) ⟨ha.1, by have := ha.2; omega⟩ (by decide)
  have h := k (f a.toNat).toInt H locs L hL hP hD hS
  simp only [List.map_cons, mm_cc, Int32.ofInt_toInt] at h
  have e1 : mm_cc Ad (mm_R o) = .ref (Ad o) := by rw [mm_ref (by omega)]; simp [mm_ad, ho.2]
  rw [List.map_cons, List.map_cons, e1]
  exact va_tb X.1 X.2.1 hT hS hin (by rw [hcl]) hd h
theorem mz_bast {a x : Int} {o : Nat} (X : mm_Cx p s m args c cc own nL Ts D E A) (hd : decode cc pc = .ok (.bastore, 1)) (ho : mm_is M d o 3) (ha : 0 ≤ a ∧ a < (mm_ln M o : Int)) (hn : mm_ln M o < 2147483648)
    (kk : mm_Z p l e R s m args below meth c Qm nL D E Ad A (pc + 1) ls st (mm_up M o a.toNat x) d u) : mm_Z p l e R s m args below meth c Qm nL D E Ad A pc ls (mm_I x :: mm_I a :: mm_R o :: st) M d u := by
  intro H locs L hL hP hD hS
  obtain ⟨q0, hq, hw⟩ := mm_idx (E := E) (Ad := Ad) (M := M) ho.2
  obtain ⟨hin, hcl⟩ := mm_vin ha hn
  have hne := mm_is0 ho
  have hw0 := mm_wset (M' := mm_up M o a.toNat x) hD hq hne mm_up_o
  have hkd := mm_kd_up (M := M) (M' := mm_up M o a.toNat x) (o' := o) hne mm_up_o
  simp only [mm_el, ho.1] at hw
  simp only [mm_el, hkd.1, hkd.2, ho.1] at hw0
  rw [List.map_cons, List.map_cons, List.map_cons, mm_ref hne]
  refine va_bast X.1 X.2.1 X.2.2.2.2.2.1 hP hD hS q0 1 hw rfl hin hd (fun H1 locs1 hP1 hD1 hS1 => ?_)
  have hf : upd (fun j => mm_b8 (M o j)) (Int32.ofInt a).toNatClampNeg (vp_nar .byte (Int32.ofInt x)) = fun j => mm_b8 (mm_up M o a.toNat x o j) := by
    funext j
    rw [hcl, mm_b8_nar]
    by_cases hj : j = a.toNat <;> simp [upd, mm_up, hj]
  rw [hf, hw0] at hP1 hD1
  exact kk H1 locs1 L hL hP1 hD1 hS1
theorem mm_num {a : Int} (h : 0 ≤ a ∧ a < 2147483648) : ¬ Int32.ofInt a < 0 ∧ (Int32.ofInt a).toNatClampNeg = a.toNat := by
  have hi : InI a := ⟨by omega, h.2⟩
  refine ⟨fun z => ?_, ?_⟩
  · rw [mm_z0, mm_lt hi mm_i0] at z
    omega
  · show (Int32.ofInt a).toInt.toNat = a.toNat
    rw [mm_toInt hi]
theorem mz_lenJ {K : List mm_V → Prop} (hJ : mm_J A Ad s) (X : mm_Cx p s m args c cc own nL Ts D E A) (hd : decode cc pc = .ok (.arraylength, 1)) (h : mm_lenJ st M d K)
    (kk : ∀ st', K st' → mm_Z p l e R s m args below meth c Qm nL D E Ad A (pc + 1) ls st' M d u) : mm_Z p l e R s m args below meth c Qm nL D E Ad A pc ls st M d u := by
  unfold mm_lenJ at h
  split at h
  · rename_i o r
    obtain ⟨ho, hn, hk⟩ := h
    rcases ho.2 with hm | h29
    · intro H locs L hL hP hD hS
      obtain ⟨q0, hq, hw⟩ := mm_idx (E := E) (Ad := Ad) (M := M) hm
      simp only [mm_el, ho.1] at hw
      rw [List.map_cons, mm_ref (mm_is0 (rc := 2) ⟨ho.1, hm⟩)]
      exact va_alen X.1 X.2.1 X.2.2.2.2.2.1 hP q0 1 hw rfl (v := Int32.ofInt (mm_ln M o : Int)) (by rw [Int32.ofInt_eq_ofNat]) hd (kk _ hk H locs L hL hP hD hS)
    · subst h29
      obtain ⟨f, hT, -⟩ := hJ.2.2.2.2.2.2.2.2.2
      intro H locs L hL hP hD hS
      have h := kk _ hk H locs L hL hP hD hS
      have e1 : mm_cc Ad (mm_R 29) = .ref (Ad 29) := by rw [mm_ref (by decide)]; rfl
      rw [List.map_cons, e1]
      exact va_tlen X.1 X.2.1 hT hS (v := Int32.ofInt (mm_ln M 29 : Int)) rfl hd h
  · exact h.elim
theorem mz_copyJ {k : Nat} {K : List mm_V → mm_M → Prop} (hJ : mm_J A Ad s) (X : mm_Cx p s m args c cc own nL Ts D E A) (hR : 5 < R.frames ∧ 82 ≤ R.locals) (hd : decode cc pc = .ok (.invokestatic k, 3)) (hw : ∀ w ∈ mm_acW own k, w ∈ Ts) (h : mm_copyJ st M d K)
    (kk : ∀ st' M', K st' M' → mm_Z p l e R s m args below meth c Qm nL D E Ad A (pc + 3) ls st' M' d u) : mm_Z p l e R s m args below meth c Qm nL D E Ad A pc ls st M d u := by
  have ww : ∀ w ∈ mm_acW own k, w.before args s = true := fun w h => X.2.2.2.2.1 _ (hw w h)
  have nw : nativeFrameWords "java/lang/System" "arraycopy" 5 + 11 ≤ 74 := by decide +kernel
  unfold mm_copyJ at h
  split at h
  · rename_i n dp b sp a r
    obtain ⟨ha, hb, h0, h1, h2, h3, h4, h5, h6, hc, hk⟩ := h
    intro H locs L hL hP hD hS
    obtain ⟨q1, hq1, hw1⟩ := mm_idx (E := E) (Ad := Ad) (M := M) hb.2
    have hne := mm_is0 hb
    have hwb := hw1
    simp only [mm_el, hb.1] at hw1
    obtain ⟨n1, n2⟩ := mm_num (a := n) ⟨h0, by omega⟩
    obtain ⟨s1, s2⟩ := mm_num (a := sp) ⟨h1, by omega⟩
    obtain ⟨d1, d2⟩ := mm_num (a := dp) ⟨h2, by omega⟩
    have hloc : ((r.map (mm_cc Ad)).map fun v => v.category).sum + (nativeFrameWords "java/lang/System" "arraycopy" 5 + 11) ≤ R.locals := by
      rw [mm_catsum]
      omega
    have fin : ∀ (f : Nat → Int32), (∀ j, j < n.toNat → fits .byte (.int (f (sp.toNat + j))) = true) → ∀ (H1 : Heap) (locs1 : List Loc),
        va_P D mm_cl ((mm_ws E Ad M d).set q1 (mm_ad Ad b, .inl (E.2.1, mm_ln M b, .inl (va_cpy f (fun j => mm_b8 (M b j)) sp.toNat dp.toNat n.toNat)))) H1 → va_D A ((mm_ws E Ad M d).set q1 (mm_ad Ad b, .inl (E.2.1, mm_ln M b, .inl (va_cpy f (fun j => mm_b8 (M b j)) sp.toNat dp.toNat n.toNat)))) → va_S A s.heap H1 locs1 →
        W p l e R s m args below meth c H1 locs1 u (12 * u) Qm (F0 m (pc + 3) L (r.map (mm_cc Ad))) := by
      intro f hf H1 locs1 hP1 hD1 hS1
      have e9 : va_cpy f (fun j => mm_b8 (M b j)) sp.toNat dp.toNat n.toNat = fun j => mm_b8 (va_cpy f (fun j => mm_b8 (M b j)) sp.toNat dp.toNat n.toNat j).toInt := by
        funext j
        refine (mm_b8_of _ ?_).symm
        unfold va_cpy
        split
        · rename_i hj
          exact hf (j - dp.toNat) (by omega)
        · exact mm_b8_fit _
      have hw0 := mm_wset (E := E) (M' := mm_any M b (fun j => (va_cpy f (fun j => mm_b8 (M b j)) sp.toNat dp.toNat n.toNat j).toInt)) hD hq1 hne mm_any_o
      rw [mm_el_any hne hb.1, ← e9] at hw0
      rw [hw0] at hP1 hD1
      exact kk _ _ (hk _) H1 locs1 L hL hP1 hD1 hS1
    have eb : mm_cc Ad (mm_R b) = .ref (mm_ad Ad b) := mm_ref hne
    rcases ha.2 with hm | h29
    · obtain ⟨q0, hq0, hw0⟩ := mm_idx (E := E) (Ad := Ad) (M := M) hm
      simp only [mm_el, ha.1] at hw0
      rw [List.map_cons, List.map_cons, List.map_cons, List.map_cons, List.map_cons, eb, mm_ref (mm_is0 (rc := 2) ⟨ha.1, hm⟩)]
      refine va_copyi X.1 X.2.1 (X.2.2.1.trans hL.1.symm) X.2.2.2.1 (ww _ (by simp [mm_acW])) (ww _ (by simp [mm_acW])) (ww _ (by simp [mm_acW])) (ww _ (by simp [mm_acW])) X.2.2.2.2.2.1 hP hD hS q0 q1 1 1 hw0 hw1 rfl rfl rfl s1 d1 n1 (by rw [s2, n2]; omega) (by rw [d2, n2]; omega) (fun i _ => mm_b8_fit _) (by omega) hloc hd ?_
      rw [s2, d2, n2]
      exact fin _ (fun j _ => mm_b8_fit _)
    · subst h29
      obtain ⟨f, hT, hf⟩ := hJ.2.2.2.2.2.2.2.2.2
      have e1 : mm_cc Ad (mm_R 29) = .ref (Ad 29) := by rw [mm_ref (by decide)]; rfl
      have l9 : mm_ln M 29 = 1 := rfl
      rw [l9] at h3
      rw [List.map_cons, List.map_cons, List.map_cons, List.map_cons, List.map_cons, eb, e1]
      refine vk_copyt X.1 X.2.1 (X.2.2.1.trans hL.1.symm) X.2.2.2.1 (ww _ (by simp [mm_acW])) (ww _ (by simp [mm_acW])) (ww _ (by simp [mm_acW])) (ww _ (by simp [mm_acW])) X.2.2.2.2.2.1 hP hD hS hT q1 1 hw1 rfl s1 d1 n1 (by rw [s2, n2]; omega) (by rw [d2, n2]; omega) (fun i hi => hf _ (by rw [n2] at hi; rw [s2]; omega)) (by omega) hloc hd ?_
      rw [s2, d2, n2]
      exact fin _ (fun j hj => hf _ (by omega))
  · exact h.elim
/-- a new object's number is new -/
theorem mm_fresh {q : Nat} {x : va_E} (hD : va_D A (mm_ws E Ad M d ++ [(q, x)])) : q + 100 ∉ d := by
  intro h
  have hm : q + 100 ∈ mm_ids d := List.mem_append_right _ h
  obtain ⟨k, hk, hw⟩ := mm_idx (E := E) (Ad := Ad) (M := M) hm
  have hl := (List.getElem?_eq_some_iff.mp hw).1
  have e := hD.1 k (mm_ws E Ad M d).length _ (q, x) (by rw [List.getElem?_append_left hl]; exact hw) (by simp) (by
    show mm_ad Ad (q + 100) = q
    unfold mm_ad
    rw [if_neg (by omega)]
    omega)
  omega
theorem mz_new {k rc : Nat} (X : mm_Cx p s m args c cc own nL Ts D E A) (hR : mu ≤ R.cells ∧ 12 * mu ≤ R.slots) (hd : decode cc pc = .ok (.new k, 3)) (hrc : rc = 16 ∨ rc = 17) (hw : ∀ w ∈ mm_wk own rc 99 k, w ∈ Ts) (hu : u + 1 ≤ mu)
    (kk : ∀ o : Nat, 100 ≤ o → o ∉ d → mm_Z p l e R s m args below meth c Qm nL D E Ad A (pc + 3) ls (mm_R o :: st) (mm_nob M o rc 0) (d ++ [o]) (u + 1)) : mm_Z p l e R s m args below meth c Qm nL D E Ad A pc ls st M d u := by
  have ww : ∀ w ∈ mm_wk own rc 99 k, w.before args s = true := fun w h => X.2.2.2.2.1 _ (hw w h)
  intro H locs L hL hP hD hS
  have fin : ∀ (fs : List Value), (∀ o, 100 ≤ o → mm_fs Ad (mm_nob M o rc 0) o (mm_ft rc) = fs) → ∀ (q : Nat) (H1 : Heap), va_P D mm_cl (mm_ws E Ad M d ++ [(q, .inr (rc - 10, fs))]) H1 → va_D A (mm_ws E Ad M d ++ [(q, .inr (rc - 10, fs))]) → va_S A s.heap H1 locs →
      W p l e R s m args below meth c H1 locs (u + 1) (12 * u + 4) Qm (F0 m (pc + 3) L (.ref q :: st.map (mm_cc Ad))) := by
    intro fs hfs q H1 hP1 hD1 hS1
    have hf := mm_fresh hD1
    have e0 := mm_ws_nob (E := E) (Ad := Ad) (M := M) (d := d) (o := q + 100) (k := rc) (n := 0) (by omega) hf
    rw [mm_el_obj (mm_nob_kd (M := M) (k := rc) (n := 0) (by omega : 100 ≤ q + 100) (by omega)).1 (by omega), hfs (q + 100) (by omega), Nat.add_sub_cancel] at e0
    rw [← e0] at hP1 hD1
    have h := kk (q + 100) (by omega) hf H1 locs L hL hP1 hD1 hS1
    rw [List.map_cons, mm_ref (by omega)] at h
    have ead : mm_ad Ad (q + 100) = q := by
      unfold mm_ad
      rw [if_neg (by omega)]
      omega
    rw [ead] at h
    exact W.widen (k := u + 1) (n := 12 * (u + 1)) (Nat.le_refl _) (by omega) h
  rcases hrc with rfl | rfl
  · refine va_new (C := RXB) (T := TXB) (N := 4) (ci := 6) (fs := [.null, .int 0, .int 0, .int 0]) X.1 X.2.1 X.2.2.2.2.1 (X.2.2.2.2.2.2.2 _ (List.mem_of_getElem? (i := 6) rfl)) tyXB tyXB_ok X.2.2.2.1 (ww (.classLink own k RXB) (by simp [mm_wk, mm_rcn])) (ww (.instantiable RXB 4) (by simp [mm_wk, mm_rcn])) (ww (.initialized RXB) (by simp [mm_wk, mm_rcn])) X.2.2.2.2.2.1 hP hD hS X.2.2.2.2.2.2.1 rfl (by decide +kernel) (by omega) (by omega) hd ?_
    exact fin _ (fun o ho => by
      have h0 : (0 : Nat) ≠ o := by omega
      simp [mm_fs, mm_ft, mm_nob, mm_fv, mm_cc, mm_rn, va_rf])
  · refine va_new (C := RXS) (T := TXS) (N := 4) (ci := 7) (fs := [.null, .int 0, .int 0, .int 0]) X.1 X.2.1 X.2.2.2.2.1 (X.2.2.2.2.2.2.2 _ (List.mem_of_getElem? (i := 7) rfl)) tyXS tyXS_ok X.2.2.2.1 (ww (.classLink own k RXS) (by simp [mm_wk, mm_rcn])) (ww (.instantiable RXS 4) (by simp [mm_wk, mm_rcn])) (ww (.initialized RXS) (by simp [mm_wk, mm_rcn])) X.2.2.2.2.2.1 hP hD hS X.2.2.2.2.2.2.1 rfl (by decide +kernel) (by omega) (by omega) hd ?_
    exact fin _ (fun o ho => by
      have h0 : (0 : Nat) ≠ o := by omega
      simp [mm_fs, mm_ft, mm_nob, mm_fv, mm_cc, mm_rn, va_rf])
/-- a byte row's class is one -/
theorem mm_unB {cA : ClassId} (h : va_K D mm_cl (mm_ty E ++ [(cA, .byte)]) s) : cA = E.2.1 := Option.some.inj (((h.2 3 _ rfl).2 : s.vm.findClass _ = some cA).symm.trans ((h.2 1 _ rfl).2 : s.vm.findClass _ = some E.2.1))
/-- a byte row more -/
theorem mm_moreB {q : Nat} {n : Nat} {h : Nat → Int} {H1 : Heap} {locs : List Loc} {L : Array Slot} (hL : mm_Lo Ad nL ls L) (hP1 : va_P D mm_cl (mm_ws E Ad M d ++ [(q, .inl (E.2.1, n, .inl (fun j => mm_b8 (h j))))]) H1) (hD1 : va_D A (mm_ws E Ad M d ++ [(q, .inl (E.2.1, n, .inl (fun j => mm_b8 (h j))))])) (hS1 : va_S A s.heap H1 locs)
    (kk : ∀ o : Nat, 100 ≤ o → o ∉ d → mm_Z p l e R s m args below meth c Qm nL D E Ad A tgt ls (mm_R o :: st) (mm_any (mm_nob M o 3 (n : Int)) o h) (d ++ [o]) (u + 1 + n / 12)) : W p l e R s m args below meth c H1 locs (u + 1) (12 * u + n) Qm (F0 m tgt L (.ref q :: st.map (mm_cc Ad))) := by
  have hf := mm_fresh hD1
  have hk := mm_nob_kd (M := M) (o := q + 100) (k := 3) (n := (n : Int)) (by omega) (by omega)
  have e0 := mm_ws_nob (E := E) (Ad := Ad) (M := M) (d := d) (o := q + 100) (k := 3) (n := (n : Int)) (by omega) hf
  have hne : q + 100 ≠ 0 := by omega
  have hlen : (mm_ids (d ++ [q + 100]))[(mm_ws E Ad M d).length]? = some (q + 100) := by simp [mm_ids, mm_ws]
  rw [Nat.add_sub_cancel] at e0
  have hD2 : va_D (fun _ => True) (mm_ws E Ad (mm_nob M (q + 100) 3 (n : Int)) (d ++ [q + 100])) := by
    rw [e0]
    refine ⟨fun i j x y hx hy hxy => ?_, fun _ _ _ => trivial⟩
    have key : ∀ (i : Nat) (x : Nat × va_E) (el : va_E), (mm_ws E Ad M d ++ [(q, el)])[i]? = some x → ∃ x', (mm_ws E Ad M d ++ [(q, (.inl (E.2.1, n, .inl (fun j => mm_b8 (h j))) : va_E))])[i]? = some x' ∧ x'.1 = x.1 := by
      intro i x el hi
      by_cases hl : i < (mm_ws E Ad M d).length
      · rw [List.getElem?_append_left hl] at hi ⊢
        exact ⟨x, hi, rfl⟩
      · rw [List.getElem?_append_right (by omega)] at hi ⊢
        have hz : i - (mm_ws E Ad M d).length < 1 := (List.getElem?_eq_some_iff.mp hi).1
        rw [show i - (mm_ws E Ad M d).length = 0 by omega] at hi ⊢
        cases hi
        exact ⟨_, rfl, rfl⟩
    obtain ⟨x', g1, g2⟩ := key i x _ hx
    obtain ⟨y', g3, g4⟩ := key j y _ hy
    exact hD1.1 i j x' y' g1 g3 (by rw [g2, g4]; exact hxy)
  have hw0 := mm_wset (E := E) (Ad := Ad) (M' := mm_any (mm_nob M (q + 100) 3 (n : Int)) (q + 100) h) hD2 hlen hne mm_any_o
  have ead : mm_ad Ad (q + 100) = q := by
    unfold mm_ad
    rw [if_neg (by omega)]
    omega
  rw [mm_el_any hne hk.1, hk.2, Int.toNat_natCast, ead, e0, List.set_append_right _ _ (Nat.le_refl _), Nat.sub_self, List.set_cons_zero] at hw0
  rw [hw0] at hP1 hD1
  have h9 := kk (q + 100) (by omega) hf H1 locs L hL hP1 hD1 hS1
  rw [List.map_cons, mm_ref hne, ead] at h9
  refine W.widen (k := u + 1 + n / 12) (n := 12 * (u + 1 + n / 12)) (by omega) ?_ h9
  have := Nat.div_add_mod n 12
  have := Nat.mod_lt n (by decide : 0 < 12)
  omega
theorem mz_newa {n : Int} (X : mm_Cx p s m args c cc own nL Ts D E A) (hR : mu ≤ R.cells ∧ 12 * mu ≤ R.slots) (hd : decode cc pc = .ok (.newarray .byte, 2)) (hw : Jvm.Cond.arrayClass .byte ∈ Ts) (hn : 0 ≤ n ∧ n < 100000) (hu : u + 1 + n.toNat / 12 ≤ mu)
    (kk : ∀ o : Nat, 100 ≤ o → o ∉ d → mm_Z p l e R s m args below meth c Qm nL D E Ad A (pc + 2) ls (mm_R o :: st) (mm_nob M o 3 n) (d ++ [o]) (u + 1 + n.toNat / 12)) : mm_Z p l e R s m args below meth c Qm nL D E Ad A pc ls (mm_I n :: st) M d u := by
  intro H locs L hL hP hD hS
  obtain ⟨n1, n2⟩ := mm_num (a := n) ⟨hn.1, by omega⟩
  obtain ⟨k, rfl⟩ := Int.eq_ofNat_of_zero_le hn.1
  rw [Int.toNat_natCast] at *
  have hk9 := Nat.div_add_mod k 12
  have hm9 := Nat.mod_lt k (by decide : 0 < 12)
  refine va_newa (atype := .byte) (ty := .byte) (N' := k) (a0 := (k, .inl (fun _ => mm_b8 0))) X.1 X.2.1 (X.2.2.2.2.1 _ hw) rfl X.2.2.2.2.2.1 hP hD hS X.2.2.2.2.2.2.1 (fun _ => rfl) n1 n2 (by
    have : componentBytes .byte = 1 := by decide
    rw [this]
    omega) (by omega) (by omega) hd (fun q cA H1 hK1 hP1 hD1 hS1 => ?_)
  have ec := mm_unB hK1
  subst ec
  refine mm_moreB (h := fun _ => 0) hL hP1 hD1 hS1 (fun o ho hod => ?_)
  have e : mm_any (mm_nob M o 3 (k : Int)) o (fun _ => 0) = mm_nob M o 3 (k : Int) := by
    funext x j
    simp only [mm_any, mm_nob]
    split <;> simp_all
  rw [e]
  exact kk o ho hod
theorem mz_cloneJ {k : Nat} {K : List mm_V → mm_M → List Nat → Nat → Prop} (X : mm_Cx p s m args c cc own nL Ts D E A) (hcl : va_Nw (.castable "[B" "java/lang/Cloneable") s) (hR : (mu ≤ R.cells ∧ 12 * mu ≤ R.slots) ∧ 5 < R.frames ∧ 82 ≤ R.locals) (hd : decode cc pc = .ok (.invokevirtual k, 3)) (hw : ∀ w ∈ mm_clW own k, w ∈ Ts) (h : mm_cloneJ mu st M d u K)
    (kk : ∀ st' M' d' u', K st' M' d' u' → mm_Z p l e R s m args below meth c Qm nL D E Ad A (pc + 3) ls st' M' d' u') : mm_Z p l e R s m args below meth c Qm nL D E Ad A pc ls st M d u := by
  have ww : ∀ w ∈ mm_clW own k, w.before args s = true := fun w h => X.2.2.2.2.1 _ (hw w h)
  unfold mm_cloneJ at h
  split at h
  · rename_i a r
    obtain ⟨ha, hu, hc, hk⟩ := h
    intro H locs L hL hP hD hS
    obtain ⟨q0, hq, hw0⟩ := mm_idx (E := E) (Ad := Ad) (M := M) ha.2
    simp only [mm_el, ha.1] at hw0
    rw [List.map_cons, mm_ref (mm_is0 ha)]
    have hk9 := Nat.div_add_mod (mm_ln M a) 12
    have hm9 := Nat.mod_lt (mm_ln M a) (by decide : 0 < 12)
    refine va_clone (ad := "[B") X.1 X.2.1 (X.2.2.1.trans hL.1.symm) X.2.2.2.1 (ww _ (by simp [mm_clW])) (ww _ (by simp [mm_clW])) (ww _ (by simp [mm_clW])) (ww _ (by simp [mm_clW])) (ww _ (by simp [mm_clW])) hcl X.2.2.2.2.2.1 hP hD hS X.2.2.2.2.2.2.1 q0 1 hw0 rfl (va_nm_byte (X.2.2.2.2.2.1.2 1 _ rfl).2) (va_fit (fun i _ => mm_b8_fit _)) (by omega) (by rw [mm_catsum]; omega) (by omega) (by show 12 * u + mm_ln M a ≤ _; omega) hd (fun q H1 hK1 hP1 hD1 hS1 => ?_)
    exact mm_moreB (h := fun j => M a j) hL hP1 hD1 hS1 (fun o ho hod => kk _ _ _ _ (hk o _ ho hod))
  · exact h.elim
theorem mz_cast {k o : Nat} (X : mm_Cx p s m args c cc own nL Ts D E A) (hd : decode cc pc = .ok (.checkcast k, 3)) (hw : Jvm.Cond.classLink own k "[B" ∈ Ts) (ho : mm_is M d o 3) (kk : mm_Z p l e R s m args below meth c Qm nL D E Ad A (pc + 3) ls (mm_R o :: st) M d u) : mm_Z p l e R s m args below meth c Qm nL D E Ad A pc ls (mm_R o :: st) M d u := by
  intro H locs L hL hP hD hS
  obtain ⟨q0, hq, hw0⟩ := mm_idx (E := E) (Ad := Ad) (M := M) ho.2
  simp only [mm_el, ho.1] at hw0
  have h := kk H locs L hL hP hD hS
  rw [List.map_cons, mm_ref (mm_is0 ho)] at h ⊢
  exact va_castA X.1 X.2.1 X.2.2.2.1 (X.2.2.2.2.1 _ hw) hP q0 hw0 (va_nm_byte (X.2.2.2.2.2.1.2 1 _ rfl).2) hd h
theorem mz_getC {k n : Nat} {v : mm_V} (X : mm_Cx p s m args c cc own nL Ts D E A) (hd : decode cc pc = .ok (.getfield k, 3)) (hw : Jvm.Cond.fieldLink own k RXS (TXS n).2.1 (TXS n).2.2.1 ∈ Ts) (hE : va_OF RXS (TXS n).2.1 (TXS n).2.2.1 (mm_cc Ad v) (Ad 28) A s s.heap)
    (kk : mm_Z p l e R s m args below meth c Qm nL D E Ad A (pc + 3) ls (v :: st) M d u) : mm_Z p l e R s m args below meth c Qm nL D E Ad A pc ls (mm_R 28 :: st) M d u := by
  intro H locs L hL hP hD hS
  have e1 : mm_cc Ad (mm_R 28) = .ref (Ad 28) := by rw [mm_ref (by decide)]; rfl
  rw [List.map_cons, e1]
  exact vk_getf X.1 X.2.1 hE hS X.2.2.2.1 (X.2.2.2.2.1 _ hw) (fun _ h => h) hd (kk H locs L hL hP hD hS)
theorem mz_putS {k n o : Nat} {v : mm_V} (X : mm_Cx p s m args c cc own nL Ts D E A) (hin : meth.name = "<init>") (ho9 : own = RXS) (hd : decode cc pc = .ok (.putfield k, 3)) (hw : Jvm.Cond.fieldLink own k RXS (TXS n).2.1 (TXS n).2.2.1 ∈ Ts) (ho : mm_is M d o 17)
    (kk : mm_pS n v (fun x => mm_Z p l e R s m args below meth c Qm nL D E Ad A (pc + 3) ls st (mm_up M o n x) d u)) : mm_Z p l e R s m args below meth c Qm nL D E Ad A pc ls (v :: mm_R o :: st) M d u := by
  intro H locs L hL hP hD hS
  obtain ⟨q0, hq, hw1⟩ := mm_idx (E := E) (Ad := Ad) (M := M) ho.2
  have hne := mm_is0 ho
  rw [mm_el_obj ho.1 (by decide)] at hw1
  rw [List.map_cons, List.map_cons, mm_ref hne]
  have fin : ∀ (ft : Nat) (x : Int), mm_nth (mm_ft 17) n = some (ft, 0) → mm_cc Ad v = mm_cc Ad (mm_fv ft 0 o x) → n < 2 → fits (tyXS n) (mm_cc Ad v) = true → narrow (tyXS n) (mm_cc Ad v) = mm_cc Ad v → mm_Z p l e R s m args below meth c Qm nL D E Ad A (pc + 3) ls st (mm_up M o n x) d u → W p l e R s m args below meth c H locs u (12 * u) Qm (F0 m pc L (mm_cc Ad v :: .ref (mm_ad Ad o) :: st.map (mm_cc Ad))) := by
    intro ft x hf he hn h2 h1 hx
    have hw0 := mm_wset (E := E) (Ad := Ad) (M' := mm_up M o n x) hD hq hne mm_up_o
    have hkd : mm_kd (mm_up M o n x) o = 17 := by rw [(mm_kd_up (M := M) (o' := o) hne mm_up_o).1]; exact ho.1
    rw [mm_el_obj hkd (by decide), ← mm_fs_set hf he] at hw0
    have hT : (TXS n).2.2.2 = true ∧ (TXS n).1 = RXS := by
      rcases (show n = 0 ∨ n = 1 by omega) with rfl | rfl <;> exact ⟨rfl, rfl⟩
    refine va_putF (D := D) (ci := 7) (C := RXS) (T := TXS) (N := 4) X.1 X.2.1 X.2.2.2.2.1 (X.2.2.2.2.2.2.2 _ (List.mem_of_getElem? (i := 7) rfl)) tyXS tyXS_ok nmXS X.2.2.2.1 X.2.2.2.2.2.1 hP hD hS q0 hw1 rfl n (by omega) (X.2.2.2.2.1 _ hw) (fun y hy => by rw [hT.2] at hy; exact hy) hT.1 hin (by rw [hT.2, ho9]) (tyXS_ok n (by omega)) h1 h2 (by simp [mm_fs, mm_ft]; omega) hd (fun H1 locs1 hP1 hD1 hS1 => ?_)
    rw [show (17 : Nat) - 10 = 7 from rfl] at hw0
    rw [hw0] at hP1 hD1
    exact hx H1 locs1 L hL hP1 hD1 hS1
  unfold mm_pS at kk
  split at kk
  · rename_i a
    exact fin 8 (a : Int) rfl (by simp [mm_fv]) (by decide) (by simp only [mm_cc]; cases mm_rn Ad a <;> rfl) (by simp only [mm_cc]; cases mm_rn Ad a <;> rfl) kk
  · rename_i x
    obtain ⟨rfl, hx⟩ := kk
    exact fin 9 0 rfl rfl (by decide) rfl rfl hx
  · exact kk.elim
theorem mz_objI {k o : Nat} (X : mm_Cx p s m args c cc own nL Ts D E A) (hR : 5 < R.frames ∧ 82 ≤ R.locals) (hd : decode cc pc = .ok (.invokespecial k, 3)) (hw : ∀ w ∈ mm_wk own 0 90 k, w ∈ Ts) (ho : o ≠ 0) (hc : mm_cats st ≤ 8) (kk : mm_Z p l e R s m args below meth c Qm nL D E Ad A (pc + 3) ls st M d u) : mm_Z p l e R s m args below meth c Qm nL D E Ad A pc ls (mm_R o :: st) M d u := by
  have ww : ∀ w ∈ mm_wk own 0 90 k, w.before args s = true := fun w h => X.2.2.2.2.1 _ (hw w h)
  intro H locs L hL hP hD hS
  rw [List.map_cons, mm_ref ho]
  refine W.objInit X.1 X.2.1 X.2.2.2.1 (ww _ (by simp [mm_wk])) (ww _ (by simp [mm_wk])) (ww _ (by simp [mm_wk])) rfl (by rw [X.2.2.1]; exact hL.1) rfl hd (by omega) (by
    have := mm_catsum Ad st
    simp only [List.map_map] at this ⊢
    show 2 * 0 + _ + 12 ≤ _
    rw [this]
    omega) ?_
  exact W.eq (g2 := F0 m (pc + 3) L (st.map (mm_cc Ad))) rfl (kk H locs L hL hP hD hS)
end MZ
end
section
/-! runs of the small machine; contracts; calls, throws, a method's contract out of its runs -/
def mm_iv (how idx : Nat) : Instr := match how with
  | 0 => .invokevirtual idx
  | 1 => .invokestatic idx
  | _ => .invokespecial idx
section MZ
variable {p : Program} {l : Launch} {e : Env} {R : Room} {s : State} {m : MethodId} {args : Array Value} {below : List Frame} {meth : Method} {c : Code} {Qm : State → Prop}
variable {cc : ByteArray} {own : String} {nL : Nat} {Ts : List Jvm.Cond} {D : va_G} {E : mm_En} {Ad : Nat → Nat} {A : Nat → Prop}
variable {F : Nat → Option (Nat × Nat)} {C : Nat → Option mm_Ca} {X0 : Nat → Nat → Nat → Option Nat} {LC : Nat → Option Int} {SC : Nat → Option (Nat × (Nat → Int32))} {rt mu : Nat} {hn : Nat → Nat → Option Nat} {Qr : mm_Q}
theorem mm_chk_cons {b : ByteArray} {pc t : Nat} {i : Instr} {r : List mm_E} (h : mm_chk b ((pc, i, t) :: r) = true) : decode b pc = .ok (i, mm_len i) ∧ mm_tg pc i t = true ∧ mm_nx (pc + mm_len i) r = true ∧ mm_chk b r = true := by
  simp only [mm_chk, Bool.and_eq_true, decide_eq_true_eq] at h
  exact h
/-- what a pool's entries must keep -/
def mm_Po (own : String) (Ts : List Jvm.Cond) (F : Nat → Option (Nat × Nat)) (LC : Nat → Option Int) : Prop :=
  (∀ k rc n, F k = some (rc, n) → mm_lj own Ts rc n k) ∧ ∀ k x, LC k = some x → Jvm.Cond.constantLong own k (Int64.ofInt x) ∈ Ts
theorem mm_ft_len (rc : Nat) : (mm_ft rc).length ≤ 17 := by
  unfold mm_ft
  split <;> decide
set_option maxHeartbeats 8000000 in
theorem mm_sound (X : mm_Cx p s m args c cc own nL Ts D E A) (hPo : mm_Po own Ts F LC) (hSC : mm_SX s A SC)
    (h9 : mm_J A Ad s ∧ va_Nw (.castable "[B" "java/lang/Cloneable") s ∧ ((mu ≤ R.cells ∧ 12 * mu ≤ R.slots) ∧ 5 < R.frames ∧ 82 ≤ R.locals) ∧ Jvm.Cond.arrayClass .byte ∈ Ts ∧ ∀ k rc, F k = some (rc, 91) → meth.name = "<init>")
    (hC : ∀ how idx pc ls st M d u Kn Kj, decode cc pc = .ok (mm_iv how idx, 3) → mm_call C mu hn Qr how idx pc ls st M d u Kn Kj → (∀ ls st M d u, Kn ls st M d u → mm_Z p l e R s m args below meth c Qm nL D E Ad A (pc + 3) ls st M d u) → (∀ t ls st M d u, Kj t ls st M d u → mm_Z p l e R s m args below meth c Qm nL D E Ad A t ls st M d u) → mm_Z p l e R s m args below meth c Qm nL D E Ad A pc ls st M d u)
    (hX : ∀ idx pc rest ls st M d u, decode cc pc = .ok (.new idx, 3) → mm_nx (pc + 3) rest = true → mm_chk cc rest = true → mm_thr X0 mu hn Qr idx pc rest st M d u → mm_Z p l e R s m args below meth c Qm nL D E Ad A pc ls st M d u)
    (hR : ∀ i pc ls st M d u, decode cc pc = .ok (i, mm_len i) → mm_ret rt mu i st M d u Qr → mm_Z p l e R s m args below meth c Qm nL D E Ad A pc ls st M d u)
    {pc tgt : Nat} {i : Instr} {rest : List mm_E} {ls : mm_Ls} {st : List mm_V} {M : mm_M} {d : List Nat} {u : Nat} {Kn : mm_K} {Kj : Nat → mm_K}
    (hk : mm_chk cc ((pc, i, tgt) :: rest) = true) (h : mm_op F C X0 LC SC rt mu hn Qr pc i tgt rest ls st M d u Kn Kj)
    (kn : ∀ ls st M d u, Kn ls st M d u → mm_Z p l e R s m args below meth c Qm nL D E Ad A (pc + mm_len i) ls st M d u) (kj : ∀ t ls st M d u, Kj t ls st M d u → mm_Z p l e R s m args below meth c Qm nL D E Ad A t ls st M d u) : mm_Z p l e R s m args below meth c Qm nL D E Ad A pc ls st M d u := by
  obtain ⟨hd, ht, hnx, hr⟩ := mm_chk_cons hk
  cases i with
  | iconst n => exact mz_iconst X hd (kn _ _ _ _ _ h)
  | bipush n => exact mz_bipush X hd h.1 (kn _ _ _ _ _ h.2)
  | sipush n => exact mz_sipush X hd h.1 (kn _ _ _ _ _ h.2)
  | lconst n => exact mz_lconst X hd (kn _ _ _ _ _ h)
  | ldc2_w k =>
    dsimp only [mm_op] at h
    split at h
    · rename_i x hx
      exact mz_ldc2 X hd (hPo.2 _ _ hx) (kn _ _ _ _ _ h)
    · exact h.elim
  | aconst_null => exact mz_null X hd (kn _ _ _ _ _ h)
  | iload n =>
    dsimp only [mm_op] at h
    split at h
    · rename_i x hx
      exact mz_iload X hd hx (kn _ _ _ _ _ h)
    · exact h.elim
  | iload_n n =>
    dsimp only [mm_op] at h
    split at h
    · rename_i x hx
      exact mz_iload_n X hd hx (kn _ _ _ _ _ h)
    · exact h.elim
  | lload n =>
    dsimp only [mm_op] at h
    split at h
    · rename_i x hx
      exact mz_lload X hd hx (kn _ _ _ _ _ h)
    · exact h.elim
  | lload_n n =>
    dsimp only [mm_op] at h
    split at h
    · rename_i x hx
      exact mz_lload_n X hd hx (kn _ _ _ _ _ h)
    · exact h.elim
  | aload n =>
    dsimp only [mm_op] at h
    split at h
    · rename_i x hx
      exact mz_aload X hd hx (kn _ _ _ _ _ h)
    · exact h.elim
  | aload_n n =>
    dsimp only [mm_op] at h
    split at h
    · rename_i x hx
      exact mz_aload_n X hd hx (kn _ _ _ _ _ h)
    · exact h.elim
  | istore n =>
    dsimp only [mm_op] at h
    split at h
    · exact mz_istore X hd h.1 (kn _ _ _ _ _ h.2)
    · exact h.elim
  | istore_n n =>
    dsimp only [mm_op] at h
    split at h
    · exact mz_istore_n X hd h.1 (kn _ _ _ _ _ h.2)
    · exact h.elim
  | lstore n =>
    dsimp only [mm_op] at h
    split at h
    · exact mz_lstore X hd h.1 h.2.1 (kn _ _ _ _ _ h.2.2)
    · exact h.elim
  | lstore_n n =>
    dsimp only [mm_op] at h
    split at h
    · exact mz_lstore_n X hd h.1 h.2.1 (kn _ _ _ _ _ h.2.2)
    · exact h.elim
  | astore n =>
    dsimp only [mm_op] at h
    split at h
    · exact mz_astore X hd h.1 (kn _ _ _ _ _ h.2)
    · exact h.elim
  | astore_n n =>
    dsimp only [mm_op] at h
    split at h
    · exact mz_astore_n X hd h.1 (kn _ _ _ _ _ h.2)
    · exact h.elim
  | iinc n x =>
    dsimp only [mm_op] at h
    split at h
    · rename_i y hx
      exact mz_iinc X hd hx h.1 (kn _ _ _ _ _ h.2)
    · exact h.elim
  | iadd =>
    dsimp only [mm_op] at h
    split at h
    · exact mz_iadd X hd (kn _ _ _ _ _ h)
    · exact h.elim
  | isub =>
    dsimp only [mm_op] at h
    split at h
    · exact mz_isub X hd (kn _ _ _ _ _ h)
    · exact h.elim
  | imul =>
    dsimp only [mm_op] at h
    split at h
    · exact mz_imul X hd (kn _ _ _ _ _ h)
    · exact h.elim
  | idiv =>
    dsimp only [mm_op] at h
    split at h
    · exact mz_idiv X hd h.1 h.2.1 h.2.2.1 (kn _ _ _ _ _ h.2.2.2)
    · exact h.elim
  | irem =>
    dsimp only [mm_op] at h
    split at h
    · exact mz_irem X hd h.1 h.2.1 h.2.2.1 (kn _ _ _ _ _ h.2.2.2)
    · exact h.elim
  | ineg =>
    dsimp only [mm_op] at h
    split at h
    · exact mz_ineg X hd (kn _ _ _ _ _ h)
    · exact h.elim
  | iand =>
    dsimp only [mm_op] at h
    split at h
    · exact mz_iand X hd (kn _ _ _ _ _ h)
    · exact h.elim
  | ior =>
    dsimp only [mm_op] at h
    split at h
    · exact mz_ior X hd (kn _ _ _ _ _ h)
    · exact h.elim
  | ixor =>
    dsimp only [mm_op] at h
    split at h
    · exact mz_ixor X hd (kn _ _ _ _ _ h)
    · exact h.elim
  | ishl =>
    dsimp only [mm_op] at h
    split at h
    · exact mz_ishl X hd h.1 (kn _ _ _ _ _ h.2)
    · exact h.elim
  | ishr =>
    dsimp only [mm_op] at h
    split at h
    · exact mz_ishr X hd h.1 h.2.1 (kn _ _ _ _ _ h.2.2)
    · exact h.elim
  | i2l =>
    dsimp only [mm_op] at h
    split at h
    · exact mz_i2l X hd (kn _ _ _ _ _ h)
    · exact h.elim
  | ladd =>
    dsimp only [mm_op] at h
    split at h
    · exact mz_ladd X hd (kn _ _ _ _ _ h)
    · exact h.elim
  | lmul =>
    dsimp only [mm_op] at h
    split at h
    · exact mz_lmul X hd (kn _ _ _ _ _ h)
    · exact h.elim
  | lcmp =>
    dsimp only [mm_op] at h
    split at h
    · exact mz_lcmp X hd h.1 (kn _ _ _ _ _ h.2)
    · exact h.elim
  | dup =>
    dsimp only [mm_op] at h
    split at h
    · exact h.elim
    · rename_i v r hv
      refine mz_dup X hd ?_ (kn _ _ _ _ _ h)
      rcases v with x | x | x | x <;> first | rfl | exact absurd rfl (hv _)
    · exact h.elim
  | dup2 =>
    dsimp only [mm_op] at h
    split at h
    · exact mz_dup2 X hd h.1 h.2.1 (kn _ _ _ _ _ h.2.2)
    · exact h.elim
  | pop =>
    dsimp only [mm_op] at h
    split at h
    · exact h.elim
    · rename_i v r hv
      refine mz_pop X hd ?_ (kn _ _ _ _ _ h)
      rcases v with x | x | x | x <;> first | rfl | exact absurd rfl (hv _)
    · exact h.elim
  | pop2 =>
    dsimp only [mm_op] at h
    split at h
    · exact mz_pop2 X hd (kn _ _ _ _ _ h)
    · exact h.elim
  | goto o => exact mz_goto X hd (mm_tgt ht) (kj _ _ _ _ _ _ h)
  | ifCond cnd o =>
    cases cnd <;> dsimp only [mm_op] at h <;> split at h
    · exact mz_if_eq X hd (mm_tgt ht) h.1 (fun q => kj _ _ _ _ _ _ (h.2.1 q)) (fun q => kn _ _ _ _ _ (h.2.2 q))
    · exact h.elim
    · exact mz_if_ne X hd (mm_tgt ht) h.1 (fun q => kj _ _ _ _ _ _ (h.2.1 q)) (fun q => kn _ _ _ _ _ (h.2.2 q))
    · exact h.elim
    · exact mz_if_lt X hd (mm_tgt ht) h.1 (fun q => kj _ _ _ _ _ _ (h.2.1 q)) (fun q => kn _ _ _ _ _ (h.2.2 q))
    · exact h.elim
    · exact mz_if_ge X hd (mm_tgt ht) h.1 (fun q => kj _ _ _ _ _ _ (h.2.1 q)) (fun q => kn _ _ _ _ _ (h.2.2 q))
    · exact h.elim
    · exact mz_if_gt X hd (mm_tgt ht) h.1 (fun q => kj _ _ _ _ _ _ (h.2.1 q)) (fun q => kn _ _ _ _ _ (h.2.2 q))
    · exact h.elim
    · exact mz_if_le X hd (mm_tgt ht) h.1 (fun q => kj _ _ _ _ _ _ (h.2.1 q)) (fun q => kn _ _ _ _ _ (h.2.2 q))
    · exact h.elim
  | if_icmp cnd o =>
    cases cnd <;> dsimp only [mm_op] at h <;> split at h
    · exact mz_icmp_eq X hd (mm_tgt ht) h.1 h.2.1 (fun q => kj _ _ _ _ _ _ (h.2.2.1 q)) (fun q => kn _ _ _ _ _ (h.2.2.2 q))
    · exact h.elim
    · exact mz_icmp_ne X hd (mm_tgt ht) h.1 h.2.1 (fun q => kj _ _ _ _ _ _ (h.2.2.1 q)) (fun q => kn _ _ _ _ _ (h.2.2.2 q))
    · exact h.elim
    · exact mz_icmp_lt X hd (mm_tgt ht) h.1 h.2.1 (fun q => kj _ _ _ _ _ _ (h.2.2.1 q)) (fun q => kn _ _ _ _ _ (h.2.2.2 q))
    · exact h.elim
    · exact mz_icmp_ge X hd (mm_tgt ht) h.1 h.2.1 (fun q => kj _ _ _ _ _ _ (h.2.2.1 q)) (fun q => kn _ _ _ _ _ (h.2.2.2 q))
    · exact h.elim
    · exact mz_icmp_gt X hd (mm_tgt ht) h.1 h.2.1 (fun q => kj _ _ _ _ _ _ (h.2.2.1 q)) (fun q => kn _ _ _ _ _ (h.2.2.2 q))
    · exact h.elim
    · exact mz_icmp_le X hd (mm_tgt ht) h.1 h.2.1 (fun q => kj _ _ _ _ _ _ (h.2.2.1 q)) (fun q => kn _ _ _ _ _ (h.2.2.2 q))
    · exact h.elim
  | if_acmp cnd o =>
    cases cnd <;> dsimp only [mm_op] at h <;> split at h
    · exact mz_acmp_eq X hd (mm_tgt ht) h.1 h.2.1 (fun q => kj _ _ _ _ _ _ (h.2.2.1 q)) (fun q => kn _ _ _ _ _ (h.2.2.2 q))
    · exact h.elim
    · exact mz_acmp_ne X hd (mm_tgt ht) h.1 h.2.1 (fun q => kj _ _ _ _ _ _ (h.2.2.1 q)) (fun q => kn _ _ _ _ _ (h.2.2.2 q))
    · exact h.elim
  | ifnull o =>
    dsimp only [mm_op] at h
    split at h
    · exact mz_ifnull X hd (mm_tgt ht) (fun q => kj _ _ _ _ _ _ (h.1 q)) (fun q => kn _ _ _ _ _ (h.2 q))
    · exact h.elim
  | ifnonnull o =>
    dsimp only [mm_op] at h
    split at h
    · exact mz_ifnonnull X hd (mm_tgt ht) (fun q => kj _ _ _ _ _ _ (h.1 q)) (fun q => kn _ _ _ _ _ (h.2 q))
    · exact h.elim
  | getfield k =>
    dsimp only [mm_op] at h
    split at h
    · rename_i hF
      rcases hPo.1 _ _ _ hF with ⟨hn, -⟩ | ⟨-, hw, -, -⟩
      · omega
      · obtain ⟨rfl, h⟩ := h
        exact mz_getC X hd (n := 0) (v := mm_R 29) (hw (.fieldLink own k RXS (TXS 0).2.1 (TXS 0).2.2.1) (by simp [mm_wk])) (by
          have e1 : mm_cc Ad (mm_R 29) = .ref (Ad 29) := by rw [mm_ref (by decide)]; rfl
          rw [e1]
          exact h9.1.2.2.2.2.2.2.2.2.1) (kn _ _ _ _ _ h)
    · rename_i hF
      rcases hPo.1 _ _ _ hF with ⟨hn, -⟩ | ⟨-, hw, -, -⟩
      · omega
      · obtain ⟨rfl, h⟩ := h
        exact mz_getC X hd (n := 1) (v := mm_I 0) (hw (.fieldLink own k RXS (TXS 1).2.1 (TXS 1).2.2.1) (by simp [mm_wk])) h9.1.2.2.2.2.2.2.2.1 (kn _ _ _ _ _ h)
    · rename_i hF
      obtain ⟨ho, h⟩ := h
      split at h
      · rename_i hf
        rcases hPo.1 _ _ _ hF with ⟨hn, hlk⟩ | ⟨hn, -⟩
        · exact mz_getf X hd hlk hf ho (kn _ _ _ _ _ h)
        · have h1 := mm_nth_lt hf
          exact absurd (Nat.lt_of_lt_of_le h1 (mm_ft_len _)) (by omega)
      · exact h.elim
    · exact h.elim
  | putfield k =>
    dsimp only [mm_op] at h
    split at h
    · rename_i hF
      rcases hPo.1 _ _ _ hF with ⟨hn, -⟩ | ⟨-, hw, -, hown⟩
      · omega
      · obtain ⟨ho, h⟩ := h
        refine mz_putS X (h9.2.2.2.2 _ _ hF) (hown rfl) hd (hw _ List.mem_cons_self) ho ?_
        revert h
        unfold mm_pS
        split
        · exact fun h => kn _ _ _ _ _ h
        · exact fun h => ⟨h.1, kn _ _ _ _ _ h.2⟩
        · exact fun h => h
    · rename_i hF
      obtain ⟨ho, h⟩ := h
      split at h
      · rename_i hf
        rcases hPo.1 _ _ _ hF with ⟨hn, hlk⟩ | ⟨hn, -⟩
        · refine mz_putf X hd hlk hf ho ?_
          revert h
          unfold mm_pf
          split
          · exact fun h => kn _ _ _ _ _ h
          · exact fun h => ⟨h.1, kn _ _ _ _ _ h.2⟩
          · exact fun h => kn _ _ _ _ _ h
          · exact fun h => kn _ _ _ _ _ h
          · exact fun h => kn _ _ _ _ _ h
          · exact fun h => ⟨h.1, kn _ _ _ _ _ h.2⟩
          · exact fun h => h
        · have h1 := mm_nth_lt hf
          exact absurd (Nat.lt_of_lt_of_le h1 (mm_ft_len _)) (by omega)
      · exact h.elim
    · exact h.elim
  | getstatic k =>
    dsimp only [mm_op] at h
    split at h
    · rename_i hF
      rcases hPo.1 _ _ _ hF with ⟨hn, -⟩ | ⟨-, hw, -, -⟩
      · omega
      · exact mz_gets (C := RXS) (n := "COMPACT_STRINGS") (dd := "Z") (v := mm_I 1) X hd (hw _ (by simp [mm_wk, mm_sn])) h9.1.1 (kn _ _ _ _ _ h)
    · rename_i hF
      rcases hPo.1 _ _ _ hF with ⟨hn, -⟩ | ⟨-, hw, -, -⟩
      · omega
      · exact mz_gets (C := "java/lang/Integer") (n := "DigitOnes") (dd := "[B") (v := mm_R 24) X hd (hw _ (by simp [mm_wk, mm_sn])) (by
          have e1 : mm_cc Ad (mm_R 24) = .ref (Ad 24) := by rw [mm_ref (by decide)]; rfl
          rw [e1]
          exact h9.1.2.1.1) (kn _ _ _ _ _ h)
    · rename_i hF
      rcases hPo.1 _ _ _ hF with ⟨hn, -⟩ | ⟨-, hw, -, -⟩
      · omega
      · exact mz_gets (C := "java/lang/Integer") (n := "DigitTens") (dd := "[B") (v := mm_R 25) X hd (hw _ (by simp [mm_wk, mm_sn])) (by
          have e1 : mm_cc Ad (mm_R 25) = .ref (Ad 25) := by rw [mm_ref (by decide)]; rfl
          rw [e1]
          exact h9.1.2.2.1.1) (kn _ _ _ _ _ h)
    · exact h.elim
  | ldc k =>
    dsimp only [mm_op] at h
    split at h
    · rename_i hF
      rcases hPo.1 _ _ _ hF with ⟨hn, -⟩ | ⟨-, -, ht, -⟩
      · omega
      · rcases ht rfl with ⟨-, ⟨rfl, rfl⟩ | ⟨rfl, rfl⟩⟩ | ⟨h0, -⟩
        · obtain ⟨q, hq⟩ := h9.1.2.2.2.1
          exact mz_ldcX X hd hq (v := mm_X q) rfl (kn _ _ _ _ _ (h q))
        · obtain ⟨q, hq⟩ := h9.1.2.2.2.2.1
          exact mz_ldcX X hd hq (v := mm_X q) rfl (kn _ _ _ _ _ (h q))
        · omega
    · rename_i hF
      rcases hPo.1 _ _ _ hF with ⟨hn, -⟩ | ⟨-, -, ht, -⟩
      · omega
      · rcases ht rfl with ⟨h0, -⟩ | ⟨-, rfl, rfl⟩
        · omega
        · exact mz_ldcX X hd h9.1.2.2.2.2.2.1 (v := mm_R 28) (by rw [mm_ref (by decide)]; rfl) (kn _ _ _ _ _ h)
    · rename_i hF
      rcases hPo.1 _ _ _ hF with ⟨hn, -⟩ | ⟨-, hw, -, -⟩
      · omega
      · exact mz_ldcI (v := 2147483639) X hd (hw _ (by simp [mm_wk])) (kn _ _ _ _ _ h)
    · rename_i hF
      rcases hPo.1 _ _ _ hF with ⟨hn, -⟩ | ⟨-, hw, -, -⟩
      · omega
      · exact mz_ldcI (v := 2147483647) X hd (hw _ (by simp [mm_wk])) (kn _ _ _ _ _ h)
    · exact h.elim
  | newarray ty =>
    cases ty <;> dsimp only [mm_op] at h <;> first | exact h.elim | skip
    split at h
    · exact mz_newa X h9.2.2.1.1 hd h9.2.2.2.1 h.1 h.2.1 (fun o a b => kn _ _ _ _ _ (h.2.2 o a b))
    · exact h.elim
  | baload =>
    dsimp only [mm_op] at h
    split at h
    · obtain ⟨ho, ha, h⟩ := h
      rcases ho with rfl | rfl
      · obtain ⟨f, hT⟩ := h9.1.2.1.2
        exact mz_bald X hd ⟨by decide, by decide⟩ hT ha (fun x => kn _ _ _ _ _ (h x))
      · obtain ⟨f, hT⟩ := h9.1.2.2.1.2
        exact mz_bald X hd ⟨by decide, by decide⟩ hT ha (fun x => kn _ _ _ _ _ (h x))
    · exact h.elim
  | bastore =>
    dsimp only [mm_op] at h
    split at h
    · exact mz_bast X hd h.1 h.2.1 h.2.2.1 (kn _ _ _ _ _ h.2.2.2)
    · exact h.elim
  | i2b =>
    dsimp only [mm_op] at h
    split at h
    · exact mz_i2b X hd (fun x => kn _ _ _ _ _ (h x))
    · exact h.elim
  | dup_x1 =>
    dsimp only [mm_op] at h
    split at h
    · exact mz_dup_x1 X hd h.1 h.2.1 (kn _ _ _ _ _ h.2.2)
    · exact h.elim
  | checkcast k =>
    dsimp only [mm_op] at h
    split at h
    · rename_i hF
      rcases hPo.1 _ _ _ hF with ⟨hn, -⟩ | ⟨-, hw, -, -⟩
      · omega
      · exact mz_cast X hd (hw _ (by simp [mm_wk])) h.1 (kn _ _ _ _ _ h.2)
    · exact h.elim
  | invokespecial k =>
    dsimp only [mm_op] at h
    split at h
    · rename_i hF
      rcases hPo.1 _ _ _ hF with ⟨hn, -⟩ | ⟨-, hw, -, -⟩
      · omega
      · exact mz_objI X h9.2.2.1.2 hd hw h.1 h.2.1 (kn _ _ _ _ _ h.2.2)
    · exact hC 2 k pc ls _ M d u Kn Kj hd h kn kj
  | iaload =>
    dsimp only [mm_op] at h
    split at h
    · split at h
      · rename_i hq
        exact mz_sld X hd hSC hq h.1 h.2.1 (kn _ _ _ _ _ h.2.2)
      · exact h.elim
    · exact mz_iald X hd h.1 h.2.1 h.2.2.1 (kn _ _ _ _ _ h.2.2.2)
    · exact h.elim
  | iastore =>
    dsimp only [mm_op] at h
    split at h
    · exact mz_iast X hd h.1 h.2.1 h.2.2.1 (kn _ _ _ _ _ h.2.2.2)
    · exact h.elim
  | aaload =>
    dsimp only [mm_op] at h
    split at h
    · exact mz_aald X hd h.1 h.2.1 h.2.2.1 (kn _ _ _ _ _ h.2.2.2)
    · exact h.elim
  | arraylength =>
    dsimp only [mm_op] at h
    split at h
    · exact mz_lenJ h9.1 X hd h (fun _ hk => kn _ _ _ _ _ hk)
    · exact mz_lenJ h9.1 X hd h (fun _ hk => kn _ _ _ _ _ hk)
    · exact mz_lenJ h9.1 X hd h (fun _ hk => kn _ _ _ _ _ hk)
    · split at h
      · split at h
        · rename_i hq
          exact mz_slen X hd hSC hq (kn _ _ _ _ _ h.2)
        · exact h.elim
      · exact mz_alen X hd h.1 h.2.1 (kn _ _ _ _ _ h.2.2)
      · exact h.elim
  | invokevirtual k =>
    dsimp only [mm_op] at h
    split at h
    · split at h
      · rename_i hF
        rcases hPo.1 _ _ _ hF with ⟨hn, -⟩ | ⟨-, hw, -, -⟩
        · omega
        · exact mz_cloneJ X h9.2.1 h9.2.2.1 hd hw h (fun _ _ _ _ hk => kn _ _ _ _ _ hk)
      · exact hC 0 k pc ls st M d u Kn Kj hd h kn kj
    · exact hC 0 k pc ls st M d u Kn Kj hd h kn kj
  | invokestatic k =>
    dsimp only [mm_op] at h
    split at h
    · split at h
      · rename_i hF
        rcases hPo.1 _ _ _ hF with ⟨hn, -⟩ | ⟨-, hw, -, -⟩
        · omega
        · exact mz_copyJ h9.1 X h9.2.2.1.2 hd hw h (fun _ _ hk => kn _ _ _ _ _ hk)
      · exact hC 1 k pc ls st M d u Kn Kj hd h kn kj
    · split at h
      · rename_i hF
        rcases hPo.1 _ _ _ hF with ⟨hn, -⟩ | ⟨-, hw, -, -⟩
        · omega
        · exact mz_copyJ h9.1 X h9.2.2.1.2 hd hw h (fun _ _ hk => kn _ _ _ _ _ hk)
      · exact hC 1 k pc ls st M d u Kn Kj hd h kn kj
    · exact hC 1 k pc ls st M d u Kn Kj hd h kn kj
  | new k =>
    dsimp only [mm_op] at h
    split at h
    · rename_i hF
      rcases hPo.1 _ _ _ hF with ⟨hn, -⟩ | ⟨-, hw, -, -⟩
      · omega
      · exact mz_new X h9.2.2.1.1 hd h.1 hw h.2.1 (fun o a b => kn _ _ _ _ _ (h.2.2 o a b))
    · exact hX k pc rest ls st M d u hd hnx hr h
  | return_ => exact hR _ pc ls st M d u hd h
  | ireturn => exact hR _ pc ls st M d u hd h
  | lreturn => exact hR _ pc ls st M d u hd h
  | areturn => exact hR _ pc ls st M d u hd h
  | _ => exact False.elim h
end MZ
end
section
/-! runs by continuation; contracts -/
def mm_in (t : Nat) : List Nat → Bool
  | [] => false
  | a :: l => bif a == t then true else mm_in t l
def mm_hd : List mm_E → Nat
  | [] => 0
  | q :: _ => q.1
section MR
variable (F : Nat → Option (Nat × Nat)) (C : Nat → Option mm_Ca) (X0 : Nat → Nat → Nat → Option Nat) (LC : Nat → Option Int) (SC : Nat → Option (Nat × (Nat → Int32))) (rt mu : Nat) (hn : Nat → Nat → Option Nat) (Qr : mm_Q)
/-- from here the method comes to its end -/
def mm_run (cd : List mm_E) (pc : Nat) (ls : mm_Ls) (st : List mm_V) (M : mm_M) (d : List Nat) (u : Nat) : Prop :=
  ∀ Z : Nat → mm_K, (∀ pc i t rest ls st M d u Kn Kj, mm_at pc cd = (pc, i, t) :: rest → mm_op F C X0 LC SC rt mu hn Qr pc i t rest ls st M d u Kn Kj → (∀ ls st M d u, Kn ls st M d u → Z (pc + mm_len i) ls st M d u) → (∀ t ls st M d u, Kj t ls st M d u → Z t ls st M d u) → Z pc ls st M d u) → Z pc ls st M d u
def mm_nxt (stop : List Nat) (S : Nat → mm_K) (rest : List mm_E) (k : mm_K) : mm_K := fun ls st M d u => match rest with
  | [] => False
  | q :: _ => bif mm_in q.1 stop then S q.1 ls st M d u else k ls st M d u
def mm_jmp (stop : List Nat) (S : Nat → mm_K) (t : Nat) (k : mm_K) : mm_K := fun ls st M d u => bif mm_in t stop then S t ls st M d u else k ls st M d u
/-- symbolic steps up to the places of stop, where S must hold -/
def mm_wp (cd : List mm_E) (stop : List Nat) (S : Nat → mm_K) : Nat → List mm_E → mm_K
  | 0, _, _, _, _, _, _ => False
  | _ + 1, [], _, _, _, _, _ => False
  | n + 1, (pc, i, t) :: rest, ls, st, M, d, u => mm_op F C X0 LC SC rt mu hn Qr pc i t rest ls st M d u (mm_nxt stop S rest (mm_wp cd stop S n rest)) (fun t => mm_jmp stop S t (mm_wp cd stop S n (mm_at t cd)))
end MR
theorem mm_len1 (i : Instr) : 1 ≤ mm_len i := by
  unfold mm_len
  split <;> decide
theorem mm_chk_lt {b : ByteArray} : ∀ (l : List mm_E) (q : mm_E), mm_chk b (q :: l) = true → ∀ x ∈ l, q.1 < x.1
  | [], q, h, x, hx => by cases hx
  | y :: l, (pc, i, t), h, x, hx => by
    obtain ⟨h1, h2, h3, h4⟩ := mm_chk_cons h
    have h5 : y.1 = pc + mm_len i := eq_of_beq h3
    have h6 := mm_len1 i
    rcases List.mem_cons.mp hx with rfl | hx
    · show pc < x.1
      omega
    · have := mm_chk_lt l y h4 x hx
      show pc < x.1
      omega
theorem mm_chk_app {b : ByteArray} : ∀ (pre : List mm_E) (l : List mm_E), mm_chk b (pre ++ l) = true → mm_chk b l = true
  | [], l, h => h
  | (pc, i, t) :: pre, l, h => mm_chk_app pre l (mm_chk_cons h).2.2.2
theorem mm_at_app {b : ByteArray} : ∀ (pre : List mm_E) (q : mm_E) (l : List mm_E), mm_chk b (pre ++ q :: l) = true → mm_at q.1 (pre ++ q :: l) = q :: l
  | [], q, l, h => by simp [mm_at]
  | a :: pre, q, l, h => by
    have h1 := mm_chk_lt (pre ++ q :: l) a h q (by simp)
    have h2 : (a.1 == q.1) = false := by simp; omega
    simp only [List.cons_append, mm_at, h2, cond_false]
    obtain ⟨pc, i, t⟩ := a
    exact mm_at_app pre q l (mm_chk_cons h).2.2.2
theorem mm_at_suf (t : Nat) : ∀ cd : List mm_E, ∃ pre, cd = pre ++ mm_at t cd
  | [] => ⟨[], rfl⟩
  | q :: r => by
    simp only [mm_at]
    cases h : q.1 == t
    · obtain ⟨pre, e⟩ := mm_at_suf t r
      exact ⟨q :: pre, by simp only [cond_false, List.cons_append]; rw [← e]⟩
    · exact ⟨[], rfl⟩
theorem mm_at_hd (t : Nat) : ∀ (cd : List mm_E) (q : mm_E) (r : List mm_E), mm_at t cd = q :: r → q.1 = t
  | [], q, r, h => by simp [mm_at] at h
  | a :: l, q, r, h => by
    simp only [mm_at] at h
    cases e : a.1 == t
    · rw [e] at h
      exact mm_at_hd t l q r h
    · rw [e] at h
      simp only [cond_true, List.cons.injEq] at h
      rw [← h.1]
      exact eq_of_beq e
section MR2
variable {F : Nat → Option (Nat × Nat)} {C : Nat → Option mm_Ca} {X0 : Nat → Nat → Nat → Option Nat} {LC : Nat → Option Int} {SC : Nat → Option (Nat × (Nat → Int32))} {rt mu : Nat} {hn : Nat → Nat → Option Nat} {Qr : mm_Q}
theorem mm_run_wp {b : ByteArray} {cd : List mm_E} {stop : List Nat} {S : Nat → mm_K} (hk : mm_chk b cd = true) (hS : ∀ t ls st M d u, mm_in t stop = true → S t ls st M d u → mm_run F C X0 LC SC rt mu hn Qr cd t ls st M d u) :
    ∀ (n : Nat) (l : List mm_E), (∃ pre, cd = pre ++ l) → ∀ ls st M d u, mm_wp F C X0 LC SC rt mu hn Qr cd stop S n l ls st M d u → mm_run F C X0 LC SC rt mu hn Qr cd (mm_hd l) ls st M d u
  | 0, l, hs, ls, st, M, d, u, h => by simp [mm_wp] at h
  | n + 1, [], hs, ls, st, M, d, u, h => by simp [mm_wp] at h
  | n + 1, (pc, i, t) :: rest, ⟨pre, hs⟩, ls, st, M, d, u, h => by
    intro Z hZ
    have hk' := hk
    rw [hs] at hk'
    have hat : mm_at pc cd = (pc, i, t) :: rest := by
      rw [hs]
      exact mm_at_app pre (pc, i, t) rest hk'
    refine hZ pc i t rest ls st M d u _ _ hat h (fun ls st M d u h1 => ?_) (fun t ls st M d u h1 => ?_)
    · cases rest with
      | nil => exact h1.elim
      | cons q r =>
        have hq : q.1 = pc + mm_len i := eq_of_beq (mm_chk_cons (mm_chk_app pre _ hk')).2.2.1
        rw [← hq]
        simp only [mm_nxt] at h1
        cases e : mm_in q.1 stop
        · rw [e] at h1
          exact mm_run_wp hk hS n (q :: r) ⟨pre ++ [(pc, i, t)], by rw [hs]; simp⟩ ls st M d u h1 Z hZ
        · rw [e] at h1
          exact hS _ _ _ _ _ _ e h1 Z hZ
    · simp only [mm_jmp] at h1
      cases e : mm_in t stop
      · rw [e] at h1
        simp only [cond_false] at h1
        cases ha : mm_at t cd with
        | nil =>
          rw [ha] at h1
          cases n <;> simp [mm_wp] at h1
        | cons q r =>
          rw [ha] at h1
          have h2 := mm_run_wp hk hS n (q :: r) (by have := mm_at_suf t cd; rw [ha] at this; exact this) ls st M d u h1 Z hZ
          have h3 : q.1 = t := mm_at_hd t cd q r ha
          rw [← h3]
          exact h2
      · rw [e] at h1
        exact hS _ _ _ _ _ _ e h1 Z hZ
/-- from the place pc on -/
theorem mm_run_at {b : ByteArray} {cd : List mm_E} {stop : List Nat} {S : Nat → mm_K} {pc : Nat} {ls : mm_Ls} {st : List mm_V} {M : mm_M} {d : List Nat} {u : Nat} (hk : mm_chk b cd = true) (n : Nat)
    (h : mm_wp F C X0 LC SC rt mu hn Qr cd stop S n (mm_at pc cd) ls st M d u) (hS : ∀ t ls st M d u, mm_in t stop = true → S t ls st M d u → mm_run F C X0 LC SC rt mu hn Qr cd t ls st M d u) : mm_run F C X0 LC SC rt mu hn Qr cd pc ls st M d u := by
  have h1 := mm_run_wp hk hS n (mm_at pc cd) (mm_at_suf pc cd) ls st M d u h
  cases ha : mm_at pc cd with
  | nil =>
    rw [ha] at h
    cases n <;> simp [mm_wp] at h
  | cons q r =>
    rw [ha] at h1
    have h3 : q.1 = pc := mm_at_hd pc cd q r ha
    rw [← h3]
    exact h1
end MR2
/-- good words alone: a call's words -/
def mm_T : List Jvm.Cond := lw_tbl.filter goodWord
def mm_strs : List (Nat × String) := [(344, "no such walk"), (352, "no such corner"), (354, "no such street"), (356, "no such place"), (360, "a number out of its range")]
/-- the system's private methods that texts reach -/
def mm_prv : List MethodName := [⟨"java/lang/AbstractStringBuilder", "ensureCapacityInternal", "(I)V"⟩, ⟨"java/lang/AbstractStringBuilder", "newCapacity", "(I)I"⟩, ⟨"java/lang/AbstractStringBuilder", "putStringAt", "(ILjava/lang/String;)V"⟩, ⟨"java/lang/AbstractStringBuilder", "inflateIfNeededFor", "(Ljava/lang/String;)V"⟩]
/-- words that aren't good ones, but stay -/
def mm_nw : List Jvm.Cond := mm_prv.map (fun y => .selects RXB y y) ++ [.castable "java/lang/IndexOutOfBoundsException" "java/lang/IndexOutOfBoundsException", .castable "java/lang/IllegalArgumentException" "java/lang/IllegalArgumentException", .methodLinkNest RX1 46 yX3_powerOf RX3, .methodLinkNest RL 139 yX4_init RL, .fieldLinkNest RL 13 RX4 "n" "J" RL, .fieldLinkNest RL 116 RX4 "s" "Ljava/lang/String;" RL, .declares (Bundle.initS "java/lang/RuntimeException"), .declares (Bundle.initS "java/lang/Exception"), .declares (Bundle.initS "java/lang/Throwable"), .castable "[B" "java/lang/Cloneable"]
def mm_U : List Jvm.Cond := mm_T ++ mm_nw
theorem mm_T_U : ∀ w ∈ mm_T, w ∈ mm_U := fun _ h => List.mem_append_left _ h
theorem mm_nw_warm {s U : State} (hW : s.WarmedH U.vm) (h : ∀ w ∈ mm_nw, va_Nw w s) : ∀ w ∈ mm_nw, va_Nw w U := by
  intro w hw
  have h1 := h w hw
  rcases List.mem_append.mp hw with hw | hw
  · obtain ⟨y, -, rfl⟩ := List.mem_map.mp hw
    exact word_at hW (Or.inl rfl) h1
  simp only [List.mem_cons, List.not_mem_nil, or_false] at hw
  rcases hw with rfl | rfl | rfl | rfl | rfl | rfl | rfl | rfl | rfl | rfl
  · exact va_Nw.warmC hW h1
  · exact va_Nw.warmC hW h1
  · exact va_Nw.warmM hW h1
  · exact va_Nw.warmM hW h1
  · exact va_Nw.warmF hW h1
  · exact va_Nw.warmF hW h1
  · exact va_Nw.warmD hW h1
  · exact va_Nw.warmD hW h1
  · exact va_Nw.warmD hW h1
  · exact va_Nw.warmC hW h1
theorem mm_nw_ot : ∀ w ∈ mm_nw, w.onTables = true := by decide +kernel
/-- the ground that every method stands on -/
def mm_G (A : Nat → Prop) (D : va_G) (E : mm_En) (Ad : Nat → Nat) (U : State) : Prop :=
  va_K D mm_cl (mm_ty E) U ∧ vx_Zq Bundle.tN "UNASSIGNED_STACK" Bundle.steD A U U.heap ∧ vx_Zq Bundle.tN "SUPPRESSED_SENTINEL" Bundle.listD A U U.heap ∧ (∀ q ∈ mm_strs, ∃ sa, vk_R RX3 q.1 q.2 sa U) ∧ (∀ w ∈ mm_nw, va_Nw w U) ∧ va_Nc "java/lang/IllegalArgumentException" "java/lang/IndexOutOfBoundsException" U ∧ va_Nc "java/lang/IndexOutOfBoundsException" "java/lang/IllegalArgumentException" U ∧ mm_J A Ad U
theorem mm_G.to {A A1 : Nat → Prop} {D : va_G} {E : mm_En} {Ad : Nat → Nat} {s U : State} {H : Heap} (h : mm_G A D E Ad s) (hW : s.WarmedH U.vm) (hH : U.heap = H) (hq : ∀ q, q < s.heap.size → ¬ A q → H[q]? = s.heap[q]?) (hA : ∀ q, A1 q → A q) : mm_G A1 D E Ad U := by
  obtain ⟨h1, h2, h3, h4, h5, h6, h7, h8⟩ := h
  refine ⟨va_K.moved hW.alike h1, ?_, ?_, fun q hq => ?_, mm_nw_warm hW h5, h6.moved hW.alike, h7.moved hW.alike, h8.to hW hH hq hA⟩
  · rw [hH]; exact (vx_Zq.moved hW.alike (h2.kept hq)).narrow hA
  · rw [hH]; exact (vx_Zq.moved hW.alike (h3.kept hq)).narrow hA
  · obtain ⟨sa, h⟩ := h4 q hq
    exact ⟨sa, vk_R.warm hW h⟩
def mm_B (D : va_G) (E : mm_En) (Ad : Nat → Nat) (sz : Nat) (M : mm_M) (d : List Nat) (U : State) : Prop :=
  U.heap.size = sz ∧ va_P D mm_cl (mm_ws E Ad M d) U.heap ∧ va_D (fun _ => True) (mm_ws E Ad M d) ∧ mm_G (va_A (mm_ws E Ad M d) sz) D E Ad U
def mm_xn (k : Nat) : String := if k = 0 then "java/lang/IndexOutOfBoundsException" else "java/lang/IllegalArgumentException"
def mm_Qc (D : va_G) (E : mm_En) (Ad : Nat → Nat) (A : Nat → Prop) (Q : mm_Q) : Array Value → State → Outcome → State → Prop := fun _ st oc t =>
  (∃ (r : Option mm_V) (M' : mm_M) (d' : List Nat), Q (.inl r) M' d' ∧ oc = .returned (r.map (mm_cc Ad)) ∧ va_P D mm_cl (mm_ws E Ad M' d') t.heap ∧ va_D A (mm_ws E Ad M' d')) ∧ va_F A st t
def mm_XC (D : va_G) (E : mm_En) (Ad : Nat → Nat) (A : Nat → Prop) (Q : mm_Q) : String → State → State → Prop := fun En st t =>
  (∃ (k : Nat) (M' : mm_M) (d' : List Nat), Q (.inr k) M' d' ∧ En = mm_xn k ∧ va_P D mm_cl (mm_ws E Ad M' d') t.heap ∧ va_D A (mm_ws E Ad M' d')) ∧ va_F A st t
/-- the word of a method's code: plain, or with a table of handlers -/
def mm_cw (y : MethodName) (b : ByteArray) (maxL : Nat) (ret : Option FieldType) (hh : List (Nat × Nat × Nat × Nat)) : Jvm.Cond := match hh with
  | [] => .code y b maxL ret
  | _ => .codeWith y b maxL ret hh
def mm_rm (fr lo mu : Nat) : Room := { frames := fr, cells := mu, slots := 12 * mu, locals := lo }
/-- a method's contract: whatever sp lets one conclude holds of its end -/
def mm_Met (l : Launch) (y : MethodName) (b : ByteArray) (maxL : Nat) (ret : Option FieldType) (hh : List (Nat × Nat × Nat × Nat)) (fr lo mu : Nat) (sp : mm_S) : Prop :=
  ∀ (D : va_G) (E : mm_En) (Ad : Nat → Nat) (sz : Nat) (av : List mm_V) (M : mm_M) (d : List Nat) (Q : mm_Q), sp av M d Q →
    vx_Met l y (mm_cw y b maxL ret hh :: mm_T) (mm_rm fr lo mu) (va_Pc (av.map (mm_cc Ad)) (mm_B D E Ad sz M d)) (mm_Qc D E Ad (va_A (mm_ws E Ad M d) sz) Q) (mm_XC D E Ad (va_A (mm_ws E Ad M d) sz) Q) mu (12 * mu) (va_A (mm_ws E Ad M d) sz)
/-- a call that never throws, of a method of the system's: what it does to this frame -/
def mm_sem (l : Launch) (own : String) (fr lo idx : Nat) (ca : mm_Ca) : Prop :=
  ∀ {p : Program} {e : Env} {R : Room} {s : State} {m : MethodId} {args : Array Value} {below : List Frame} {meth : Method} {c : Code} {Qm : State → Prop} {cc : ByteArray} {nL : Nat} {D : va_G} {E : mm_En} {Ad : Nat → Nat} {A : Nat → Prop} {mu : Nat},
    mm_Cx p s m args c cc own nL mm_U D E A → mm_G A D E Ad s → (mu ≤ R.cells ∧ 12 * mu ≤ R.slots) → fr ≤ R.frames → lo ≤ R.locals →
    ∀ (pc : Nat) (ls : mm_Ls) (st : List mm_V) (M : mm_M) (d : List Nat) (u : Nat) (Kn : mm_K) (QX : Nat → mm_M → List Nat → Prop), decode cc pc = .ok (mm_iv ca.1 idx, 3) → ca.2.1 ≤ st.length → mm_rv st ca.2.1 ca.2.2.1 M d → mm_cats (st.drop ca.2.1) ≤ 8 → u + ca.2.2.2.2 ≤ mu →
      ca.2.2.2.1 (st.take ca.2.1).reverse M d (fun o M' d' => match o with
        | .inl r => Kn ls (mm_push r (st.drop ca.2.1)) M' d' (u + ca.2.2.2.2)
        | .inr k => QX k M' d') →
      (∀ ls st M d u, Kn ls st M d u → mm_Z p l e R s m args below meth c Qm nL D E Ad A (pc + 3) ls st M d u) → mm_Z p l e R s m args below meth c Qm nL D E Ad A pc ls st M d u
/-- the words that a call by the pool's entry idx needs; y's own are among the tables' -/
def mm_PE (l : Launch) (own : String) (Ts : List Jvm.Cond) (R : Room) (idx : Nat) (ca : mm_Ca) : Prop :=
  (Ts = mm_U ∧ mm_sem l own R.frames R.locals idx ca) ∨
  ∃ (y : MethodName) (b : ByteArray) (maxL : Nat) (ret : Option FieldType) (hh : List (Nat × Nat × Nat × Nat)) (fr lo : Nat) (T : u_T) (N : Nat), mm_Met l y b maxL ret hh fr lo ca.2.2.2.2 ca.2.2.2.1 ∧
    mm_cw y b maxL ret hh ∈ mm_T ∧ Jvm.Cond.initialized y.cls ∈ Ts ∧ (y.cls ≠ "java/lang/invoke/MethodHandle" ∧ y.cls ≠ "java/lang/invoke/VarHandle") ∧ fr + 1 ≤ R.frames ∧ 8 + (maxL + 11) + lo ≤ R.locals ∧
    (Jvm.Cond.methodLink own idx y ∈ Ts ∨ (hh = [] ∧ ∃ host, Jvm.Cond.methodLinkNest own idx y host ∈ Ts)) ∧ (∀ w ∈ mm_T, w ∈ Ts) ∧
    ((ca.1 = 0 ∧ hh = [] ∧ Jvm.Cond.instanceMethod y ∈ Ts ∧ Jvm.Cond.selects y.cls y y ∈ Ts ∧ 10 ≤ ca.2.2.1 ∧ mm_cl[ca.2.2.1 - 10]? = some (y.cls, T, N) ∧ (parseMethodDescriptor y.desc).map (fun d => d.parameters.length + 1) = some ca.2.1) ∨
     (ca.1 = 1 ∧ Jvm.Cond.static y ∈ Ts ∧ (parseMethodDescriptor y.desc).map (fun d => d.parameters.length) = some ca.2.1))
end
section
/-! calls, throws, returns, and a method's contract out of its runs -/
theorem mm_split {α : Type} {v : α} : ∀ (st : List α) (n : Nat), 1 ≤ n → mm_nth st (n - 1) = some v → ∃ ini : List α, st = ini ++ v :: st.drop n ∧ st.take n = ini ++ [v] ∧ ini.length + 1 = n
  | [], n, h, hv => by simp [mm_nth] at hv
  | a :: st, 0, h, hv => by omega
  | a :: st, 1, h, hv => by
    have hv' : some a = some v := hv
    cases hv'
    exact ⟨[], by simp, by simp, rfl⟩
  | a :: st, n + 2, h, hv => by
    have hv' : mm_nth st (n + 1 - 1) = some v := hv
    obtain ⟨ini, h1, h2, h3⟩ := mm_split st (n + 1) (by omega) hv'
    refine ⟨a :: ini, ?_, ?_, by simp; omega⟩
    · simp only [List.drop_succ_cons, List.cons_append]
      rw [← h1]
    · simp only [List.take_succ_cons, List.cons_append, h2]
theorem mm_rv_old {st : List mm_V} {n rc : Nat} {M : mm_M} {d : List Nat} (h : 6 ≤ rc) : mm_rv st n (rc + 1) M d = (match mm_nth st (n - 1) with
    | some (.inr (.inr (.inl o))) => mm_is M d o (rc + 1)
    | _ => False) := by
  match rc, h with
  | rc + 6, _ => rfl
section MC
variable {p : Program} {l : Launch} {e : Env} {R : Room} {s : State} {m : MethodId} {args : Array Value} {below : List Frame} {meth : Method} {c : Code} {Qm : State → Prop}
variable {cc : ByteArray} {own : String} {nL : Nat} {Ts : List Jvm.Cond} {D : va_G} {E : mm_En} {Ad : Nat → Nat} {A : Nat → Prop}
variable {C : Nat → Option mm_Ca} {rt mu : Nat} {hn : Nat → Nat → Option Nat} {Qr : mm_Q}
/-- a throw over this frame: caught by the row that hn names, or it leaves -/
def mm_hT (p : Program) (l : Launch) (e : Env) (R : Room) (s : State) (m : MethodId) (args : Array Value) (below : List Frame) (meth : Method) (c : Code) (Qm : State → Prop) (nL : Nat) (D : va_G) (E : mm_En) (Ad : Nat → Nat) (A : Nat → Prop) (mu : Nat) (hn : Nat → Nat → Option Nat) (Qr : mm_Q) : Prop :=
  ∀ (k pc : Nat) (ls : mm_Ls) (M : mm_M) (d : List Nat) (u : Nat) (H : Heap) (locs : List Loc) (L : Array Slot) (rest : List Value) (q : Addr) (ce : Cell),
    (hn pc k = none → Qr (.inr k) M d) → (∀ hpc, hn pc k = some hpc → mm_Z p l e R s m args below meth c Qm nL D E Ad A hpc ls [mm_X q] M d u) → mm_Lo Ad nL ls L → va_P D mm_cl (mm_ws E Ad M d) H → va_D A (mm_ws E Ad M d) → va_S A s.heap H locs → u ≤ mu →
    H[q]? = some ce → ce.vm = .none → s.vm.findClass (mm_xn k) = some ce.cls → vx_W p l e R s m args below meth c H locs u (12 * u) Qm (F0 m pc L rest) q
theorem mm_blind {D : va_G} {E : mm_En} {Ad : Nat → Nat} {sz : Nat} {M : mm_M} {d : List Nat} {av : List Value} : FrameBlind (va_Pc av (mm_B D E Ad sz M d)) := by
  intro a U g mk h
  obtain ⟨h0, h1, h2, h3, h4⟩ := h
  exact ⟨h0, h1, h2, h3, h4.to (State.WarmedH.refl U) rfl (fun _ _ _ => rfl) (fun _ h => h)⟩
theorem mm_goodIn {w : Jvm.Cond} (hw : w ∈ mm_T) (hTs : ∀ w ∈ mm_T, w ∈ Ts) : GoodIn Ts (w :: mm_T) := by
  have h1 : ∀ x ∈ mm_T, x ∈ Ts ∧ ((x.onTables && x.keeps) = true ∨ ∃ ty, x = .arrayClass ty) := fun x hx => ⟨hTs x hx, good_of_word (List.mem_filter.mp hx).2⟩
  intro x hx
  rcases List.mem_cons.mp hx with rfl | hx
  · exact h1 _ hw
  · exact h1 _ hx
theorem mm_wsA {H : Heap} {locs : List Loc} {M : mm_M} {d : List Nat} (hD : va_D A (mm_ws E Ad M d)) (hS : va_S A s.heap H locs) (hA : ∀ q, s.heap.size ≤ q → A q) : ∀ q, va_A (mm_ws E Ad M d) H.size q → A q := by
  intro q h
  rcases h with ⟨k, x, h⟩ | h
  · exact hD.2 k _ h
  · exact hA q (Nat.le_trans hS.1 h)
theorem mm_after {pc u mu' : Nat} {H : Heap} {locs : List Loc} {L : Array Slot} {ls : mm_Ls} {st0 : List Value} {rest : List mm_V} {M : mm_M} {d : List Nat} {Q : mm_Q} {aa : Array Value} {Kn : mm_K} {Kj : Nat → mm_K}
    (hL : mm_Lo Ad nL ls L) (hD : va_D A (mm_ws E Ad M d)) (hS : va_S A s.heap H locs) (hA : ∀ q, s.heap.size ≤ q → A q) (hu : u + mu' ≤ mu) (hT : mm_hT p l e R s m args below meth c Qm nL D E Ad A mu hn Qr)
    (hr : vx_Run p l e R s m args below meth c H locs u (12 * u) mu' (12 * mu') (F0 m pc L st0) (rest.map (mm_cc Ad)) (mm_Qc D E Ad (va_A (mm_ws E Ad M d) H.size) Q aa) (mm_XC D E Ad (va_A (mm_ws E Ad M d) H.size) Q) (va_A (mm_ws E Ad M d) H.size))
    (hQ : ∀ o M' d', Q o M' d' → match o with
        | .inl r => Kn ls (mm_push r rest) M' d' (u + mu')
        | .inr k => match hn pc k with
          | none => Qr (.inr k) M' d'
          | some hpc => ∀ q : Nat, Kj hpc ls [mm_X q] M' d' (u + mu'))
    (kn : ∀ ls st M d u, Kn ls st M d u → mm_Z p l e R s m args below meth c Qm nL D E Ad A (pc + 3) ls st M d u) (kj : ∀ t ls st M d u, Kj t ls st M d u → mm_Z p l e R s m args below meth c Qm nL D E Ad A t ls st M d u) :
    W p l e R s m args below meth c H locs u (12 * u) Qm (F0 m pc L st0) := by
  have hf := mm_wsA hD hS hA
  intro T hTh X
  have e12 : 12 * u + 12 * mu' = 12 * (u + mu') := by omega
  rcases hr T hTh X with ⟨v, st₀, t, T', L1, h0, X', hL1, e1, e2, ⟨⟨r, M', d', hq, hv, hP1, hD1⟩, hF⟩, st⟩ | ⟨q, st₀, t, T', L1, En, ce, h0, X', hL1, e1, e2, ⟨⟨k, M', d', hq, rfl, hP1, hD1⟩, hF⟩, hce, hcv, hcl, st⟩
  · cases hv
    obtain ⟨k1, k2, k3⟩ := vx_keep h0 e1 hS (fun q _ h => hf q h) hf hL1 hF
    have h3 := kn _ _ _ _ _ (hQ _ _ _ hq) T'.heap (locs ++ L1) L hL (by rw [e1]; exact hP1) (hD1.weaken fun _ _ _ h => hf _ h) k3
    rw [e12] at X'
    obtain ⟨t2, a1, b1⟩ := h3 T' rfl X'
    refine ⟨t2, st t2 ?_, b1⟩
    have e3 : (r.map (mm_cc Ad)).toList ++ rest.map (mm_cc Ad) = (mm_push r rest).map (mm_cc Ad) := by cases r <;> rfl
    rw [e3]
    exact a1
  · obtain ⟨k1, k2, k3⟩ := vx_keep h0 e1 hS (fun q _ h => hf q h) hf hL1 hF
    have h2 := hQ _ _ _ hq
    rw [e12] at X'
    obtain ⟨t2, a1, b1⟩ := hT k pc ls M' d' (u + mu') T'.heap (locs ++ L1) L (rest.map (mm_cc Ad)) q ce (fun z => by simp only [z] at h2; exact h2) (fun hpc z => by simp only [z] at h2; exact kj _ _ _ _ _ _ (h2 q)) hL (by rw [e1]; exact hP1) (hD1.weaken fun _ _ _ h => hf _ h) k3 hu (by rw [e1]; exact hce) hcv hcl T' rfl X'
    exact ⟨t2, st.trans a1, b1⟩
theorem mm_preB {H : Heap} {locs : List Loc} {M : mm_M} {d : List Nat} {av : List Value} (hG : mm_G A D E Ad s) (hP : va_P D mm_cl (mm_ws E Ad M d) H) (hD : va_D A (mm_ws E Ad M d)) (hS : va_S A s.heap H locs) (hA : ∀ q, s.heap.size ≤ q → A q) :
    ∀ U : State, U.heap = H → s.WarmedH U.vm → va_Pc av (mm_B D E Ad H.size M d) av.toArray U := by
  intro U hU hW
  exact ⟨rfl, by rw [hU], by rw [hU]; exact hP, hD.weaken (fun _ _ _ _ => trivial), hG.to hW hU hS.2.1 (mm_wsA hD hS hA)⟩
theorem mz_call (X : mm_Cx p s m args c cc own nL Ts D E A) (hG : mm_G A D E Ad s) (hR : R.cells = mu ∧ R.slots = 12 * mu) (hPE : ∀ idx ca, C idx = some ca → mm_PE l own Ts R idx ca) (hT : mm_hT p l e R s m args below meth c Qm nL D E Ad A mu hn Qr)
    (how idx pc : Nat) (ls : mm_Ls) (st : List mm_V) (M : mm_M) (d : List Nat) (u : Nat) (Kn : mm_K) (Kj : Nat → mm_K) (hd : decode cc pc = .ok (mm_iv how idx, 3)) (h : mm_call C mu hn Qr how idx pc ls st M d u Kn Kj)
    (kn : ∀ ls st M d u, Kn ls st M d u → mm_Z p l e R s m args below meth c Qm nL D E Ad A (pc + 3) ls st M d u) (kj : ∀ t ls st M d u, Kj t ls st M d u → mm_Z p l e R s m args below meth c Qm nL D E Ad A t ls st M d u) : mm_Z p l e R s m args below meth c Qm nL D E Ad A pc ls st M d u := by
  unfold mm_call at h
  split at h
  · rename_i h' n rc sp mu' hc
    obtain ⟨rfl, hn', hrv, hcat, hu, hsp⟩ := h
    rcases hPE idx _ hc with ⟨rfl, hsem⟩ | ⟨y, b, maxL, ret, hh, fr, lo, T, N, hM, hcode, hini, hnmh, hfr, hlo, hlink, hTs, hkind⟩
    · exact hsem X hG ⟨Nat.le_of_eq hR.1.symm, Nat.le_of_eq hR.2.symm⟩ (Nat.le_refl _) (Nat.le_refl _) pc ls st M d u (Kn) (fun k M' d' => match hn pc k with
        | none => Qr (.inr k) M' d'
        | some hpc => ∀ q : Nat, Kj hpc ls [mm_X q] M' d' (u + mu')) hd hn' hrv hcat hu hsp kn
    dsimp only at hM hkind
    intro H locs L hL hP hD hS
    have hS' : CallFix p m c cc nL s args Ts own := ⟨X.1, X.2.1, X.2.2.1, X.2.2.2.1, X.2.2.2.2.1⟩
    have hMy := hM D E Ad H.size _ M d _ hsp
    have hws := pay_in X.2.2.2.2.1 (mm_goodIn hcode hTs)
    have hA := X.2.2.2.2.2.2.1
    have hroom : u + mu' ≤ R.cells ∧ 12 * u + 12 * mu' ≤ R.slots := ⟨by rw [hR.1]; exact hu, by rw [hR.2]; omega⟩
    have hcat' : 2 * (F0 m pc L (st.map (mm_cc Ad))).monitorRoom + (((st.drop n).map (mm_cc Ad)).map fun v => v.category).sum ≤ 8 := lv_room (by rw [mm_catsum]; exact hcat)
    rcases hkind with ⟨rfl, rfl, hins, hsel, h10, hcl, hpar⟩ | ⟨rfl, hst, hpar⟩
    · have hn1 : 1 ≤ n := by
        cases hz : parseMethodDescriptor y.desc with
        | none => rw [hz] at hpar; simp at hpar
        | some z => rw [hz] at hpar; simp at hpar; omega
      obtain ⟨rc', rfl⟩ : ∃ k, rc = k + 1 := ⟨rc - 1, by omega⟩
      rw [mm_rv_old (by omega)] at hrv
      split at hrv
      · rename_i o ho
        obtain ⟨ini, hst, htk, hil⟩ := mm_split st n hn1 ho
        have hargs : (st.take n).reverse = mm_R o :: ini.reverse := by rw [htk]; simp
        rw [hargs] at hMy
        obtain ⟨q0, hq, hw⟩ := mm_idx (E := E) (Ad := Ad) (M := M) hrv.2
        rw [mm_el_obj hrv.1 h10] at hw
        have hne := mm_is0 hrv
        rw [List.map_cons, mm_ref hne] at hMy
        have hlen : ∀ sig, parseMethodDescriptor y.desc = some sig → n - 1 = sig.parameters.length := by
          intro sig hsig
          rw [hsig] at hpar
          simp at hpar
          omega
        have hstack : st.map (mm_cc Ad) = ((ini.reverse).map (mm_cc Ad)).reverse ++ .ref (mm_ad Ad o) :: (st.drop n).map (mm_cc Ad) := by
          conv => lhs; rw [hst]
          rw [List.map_append, List.map_cons, mm_ref hne, List.map_reverse, List.reverse_reverse]
        have hpre : PreV s H y.cls (mm_ad Ad o) (va_Pc (.ref (mm_ad Ad o) :: (ini.reverse).map (mm_cc Ad)) (mm_B D E Ad H.size M d)) ((ini.reverse).map (mm_cc Ad)) := ⟨mm_blind, va_recv X.2.2.2.2.2.1 hP hcl hw, mm_preB hG hP hD hS hA⟩
        rcases hlink with hlink | ⟨-, host, hlink⟩
        · have cw : CallW R s args own y.cls idx y b maxL ret (mm_cw y b maxL ret [] :: mm_T) (mm_rm fr lo mu') mu' (12 * mu') (n - 1) :=
            ⟨⟨rfl, rfl, hfr, hlo, hws, List.mem_cons_self, X.2.2.2.2.1 _ (hTs _ hcode), X.2.2.2.2.1 _ hini, hnmh, hlen, X.2.2.2.2.1 _ hlink⟩, X.2.2.2.2.1 _ hins, X.2.2.2.2.1 _ hsel⟩
          exact mm_after hL hD hS hA hu hT (vx_runV hS' hMy cw hpre rfl (by simp; omega) hL.1 hstack hcat' hd hroom) (fun o M' d' hq => hq) kn kj
        · have cw : va_CN R s args own idx y host b maxL ret (mm_cw y b maxL ret [] :: mm_T) (mm_rm fr lo mu') mu' (12 * mu') (n - 1) ∧ (Jvm.Cond.instanceMethod y).before args s = true ∧ (Jvm.Cond.selects y.cls y y).before args s = true :=
            ⟨⟨⟨rfl, rfl, hfr, hlo, hws, List.mem_cons_self⟩, X.2.2.2.2.1 _ (hTs _ hcode), X.2.2.2.2.1 _ hini, hnmh, hlen, X.2.2.2.2.1 _ hlink⟩, X.2.2.2.2.1 _ hins, X.2.2.2.2.1 _ hsel⟩
          exact mm_after hL hD hS hA hu hT (vx_runVN hS' hMy cw hpre rfl (by simp; omega) hL.1 hstack hcat' hd hroom) (fun o M' d' hq => hq) kn kj
      · exact hrv.elim
    · have hlen : ∀ sig, parseMethodDescriptor y.desc = some sig → n = sig.parameters.length := by
        intro sig hsig
        rw [hsig] at hpar
        simp at hpar
        omega
      have hlenA : ((st.take n).reverse.map (mm_cc Ad)).length = n := by simp; omega
      have hstack : st.map (mm_cc Ad) = ((st.take n).reverse.map (mm_cc Ad)).reverse ++ (st.drop n).map (mm_cc Ad) := by
        rw [← List.map_reverse, List.reverse_reverse, ← List.map_append, List.take_append_drop]
      have hpre : PreS s H (va_Pc ((st.take n).reverse.map (mm_cc Ad)) (mm_B D E Ad H.size M d)) ((st.take n).reverse.map (mm_cc Ad)) := ⟨mm_blind, mm_preB hG hP hD hS hA⟩
      by_cases hhe : hh = []
      · subst hhe
        rcases hlink with hlink | ⟨-, host, hlink⟩
        · have cw : CallB R s args own idx y b maxL ret (mm_cw y b maxL ret [] :: mm_T) (mm_rm fr lo mu') mu' (12 * mu') n ∧ (Jvm.Cond.static y).before args s = true :=
            ⟨⟨rfl, rfl, hfr, hlo, hws, List.mem_cons_self, X.2.2.2.2.1 _ (hTs _ hcode), X.2.2.2.2.1 _ hini, hnmh, hlen, X.2.2.2.2.1 _ hlink⟩, X.2.2.2.2.1 _ hst⟩
          exact mm_after hL hD hS hA hu hT (vx_runS hS' hMy cw hpre rfl hlenA hL.1 hstack hcat' hd hroom) (fun o M' d' hq => hq) kn kj
        · have cw : va_CN R s args own idx y host b maxL ret (mm_cw y b maxL ret [] :: mm_T) (mm_rm fr lo mu') mu' (12 * mu') n ∧ (Jvm.Cond.static y).before args s = true ∧ True :=
            ⟨⟨⟨rfl, rfl, hfr, hlo, hws, List.mem_cons_self⟩, X.2.2.2.2.1 _ (hTs _ hcode), X.2.2.2.2.1 _ hini, hnmh, hlen, X.2.2.2.2.1 _ hlink⟩, X.2.2.2.2.1 _ hst, trivial⟩
          exact mm_after hL hD hS hA hu hT (vx_runSN hS' hMy cw hpre rfl hlenA hL.1 hstack hcat' hd hroom) (fun o M' d' hq => hq) kn kj
      · obtain ⟨h1, hr, rfl⟩ : ∃ h1 hr, hh = h1 :: hr := by
          cases hh with
          | nil => exact absurd rfl hhe
          | cons a b => exact ⟨a, b, rfl⟩
        rcases hlink with hlink | ⟨z, -⟩
        · have cw : vx_CSW R s args own idx y b maxL ret (h1 :: hr) (mm_cw y b maxL ret (h1 :: hr) :: mm_T) (mm_rm fr lo mu') mu' (12 * mu') n :=
            ⟨⟨rfl, rfl, hfr, hlo, hws, List.mem_cons_self⟩, X.2.2.2.2.1 _ (hTs _ hcode), X.2.2.2.2.1 _ hini, hnmh, hlen, X.2.2.2.2.1 _ hlink, X.2.2.2.2.1 _ hst⟩
          exact mm_after hL hD hS hA hu hT (vx_runSX hS' hMy cw hpre rfl hlenA hL.1 hstack hcat' hd hroom) (fun o M' d' hq => hq) kn kj
        · cases z
  · exact h.elim
end MC
end
