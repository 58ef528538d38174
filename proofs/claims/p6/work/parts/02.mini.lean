/-! THE SMALL MACHINE: the bytecode's steps over whole numbers (conc: Int32.ofInt), objects by number, the heap as a function of object and place; a step is a predicate transformer. -/
abbrev mm_V : Type := Int ⊕ (Int ⊕ (Nat ⊕ Nat))
abbrev mm_I (x : Int) : mm_V := Sum.inl x
abbrev mm_L (x : Int) : mm_V := Sum.inr (Sum.inl x)
abbrev mm_R (x : Nat) : mm_V := Sum.inr (Sum.inr (Sum.inl x))
abbrev mm_X (x : Nat) : mm_V := Sum.inr (Sum.inr (Sum.inr x))
abbrev mm_M : Type := Nat → Nat → Int
abbrev mm_Ls : Type := List (Option mm_V)
abbrev mm_O : Type := Option mm_V ⊕ Nat
abbrev mm_Q : Type := mm_O → mm_M → List Nat → Prop
abbrev mm_S : Type := List mm_V → mm_M → List Nat → mm_Q → Prop
abbrev mm_K : Type := mm_Ls → List mm_V → mm_M → List Nat → Nat → Prop
abbrev mm_E : Type := Nat × Instr × Nat
/-- a call of the pool: how (0 virtual, 1 static), how many values, the receiver's kind, what it does, its room -/
abbrev mm_Ca : Type := Nat × Nat × Nat × mm_S × Nat
def mm_nth {α : Type} : List α → Nat → Option α
  | [], _ => none
  | a :: _, 0 => some a
  | _ :: l, n + 1 => mm_nth l n
def mm_set {α : Type} : List α → Nat → α → List α
  | [], _, _ => []
  | _ :: l, 0, x => x :: l
  | a :: l, n + 1, x => a :: mm_set l n x
def mm_isL : Option (Option mm_V) → Bool
  | some (some (.inr (.inl _))) => true
  | _ => false
/-- a place may be stored to: it is there, and isn't a long's second half that is alive -/
def mm_ok : mm_Ls → Nat → Bool
  | [], _ => false
  | _ :: _, 0 => true
  | a :: l, n + 1 => (match n with | 0 => !(mm_isL (some a)) | _ => true) && mm_ok l n
def mm_cat : mm_V → Nat
  | .inr (.inl _) => 2
  | _ => 1
def mm_cats : List mm_V → Nat
  | [] => 0
  | v :: l => mm_cat v + mm_cats l
def InI (x : Int) : Prop := -2147483648 ≤ x ∧ x < 2147483648
def InL (x : Int) : Prop := -9223372036854775808 ≤ x ∧ x < 9223372036854775808
def mm_up (M : mm_M) (o k : Nat) (v : Int) : mm_M := fun o' k' => if o' = o ∧ k' = k then v else M o' k'
def mm_w (a : Int) : Int := (Int32.ofInt a).toInt
def mm_and (a b : Int) : Int := (Int32.ofInt a &&& Int32.ofInt b).toInt
def mm_or (a b : Int) : Int := (Int32.ofInt a ||| Int32.ofInt b).toInt
def mm_xor (a b : Int) : Int := (Int32.ofInt a ^^^ Int32.ofInt b).toInt
/-- what an object is: 1 an int row, 2 the row of walks, 3 a byte row, 4 the script, 10 + n an object of class n -/
def mm_kS : List Nat := [0, 10, 11, 1, 1, 1, 1, 2, 12, 1, 12, 1, 12, 1, 12, 1, 13, 14, 1, 1, 1, 1, 1, 15, 0, 0, 0, 0, 0, 3]
def mm_nS : List Nat := [0, 0, 0, 30, 30, 10, 10, 3, 0, 30, 0, 30, 0, 30, 0, 30, 0, 0, 30, 30, 120, 4, 4, 0, 0, 0, 0, 0, 0, 1]
def mm_kd (M : mm_M) (o : Nat) : Nat := bif decide (o < 100) then (mm_nth mm_kS o).getD 0 else (M 0 (2 * o)).toNat
def mm_ln (M : mm_M) (o : Nat) : Nat := bif decide (o < 100) then (mm_nth mm_nS o).getD 0 else (M 0 (2 * o + 1)).toNat
def mm_st : List Nat := [1, 2, 3, 4, 5, 6, 7, 8, 9, 10, 11, 12, 13, 14, 15, 16, 17, 18, 19, 20, 21, 22, 23]
def mm_ids (d : List Nat) : List Nat := mm_st ++ d
def mm_is (M : mm_M) (d : List Nat) (o rc : Nat) : Prop := mm_kd M o = rc ∧ o ∈ mm_ids d
/-- ids that never change: 24, 25 the rows of digits; 28 a text of one letter, 29 its row -/
def mm_isC (M : mm_M) (d : List Nat) (o rc : Nat) : Prop := mm_kd M o = rc ∧ (o ∈ mm_ids d ∨ o = 29)
/-- a new object: nothing in it yet; a row of any content -/
def mm_nob (M : mm_M) (o k : Nat) (n : Int) : mm_M := fun x j => if x = o then 0 else if x = 0 ∧ j = 2 * o then (k : Int) else if x = 0 ∧ j = 2 * o + 1 then n else M x j
def mm_any (M : mm_M) (o : Nat) (h : Nat → Int) : mm_M := fun x j => if x = o then h j else M x j
/-- the fields of a class: what each is (0 int, 1 boolean, 2 long, 3 a reference that changes, 4 a text, 5 a fixed object, 6 a fixed object by its distance, 7 byte, 8 and 9 a text's final row and byte) -/
def mm_ft : Nat → List (Nat × Nat)
  | 10 => [(5, 2), (5, 7), (5, 14), (5, 16), (0, 0), (0, 0), (0, 0)]
  | 11 => [(5, 3), (5, 4), (5, 5), (5, 6), (0, 0), (1, 0), (0, 0), (0, 0)]
  | 12 => [(5, 2), (6, 1), (0, 0), (0, 0)]
  | 13 => [(5, 2), (3, 0), (0, 0), (0, 0), (1, 0)]
  | 14 => [(0, 0), (0, 0), (5, 18), (5, 19), (1, 0), (0, 0), (0, 0), (5, 20), (5, 21), (5, 22), (0, 0), (0, 0), (0, 0), (1, 0), (0, 0), (0, 0), (0, 0)]
  | 15 => [(2, 0), (4, 0)]
  | 16 => [(3, 0), (7, 0), (1, 0), (0, 0)]
  | 17 => [(8, 0), (9, 0), (0, 0), (1, 0)]
  | _ => []
def mm_fv (ft base o : Nat) (x : Int) : mm_V :=
  match ft with
  | 0 => mm_I x
  | 1 => mm_I x
  | 2 => mm_L x
  | 3 => mm_R x.toNat
  | 4 => if x ≤ 0 then mm_R 0 else mm_X (x - 1).toNat
  | 5 => mm_R base
  | 6 => mm_R (o + base)
  | 8 => mm_R x.toNat
  | _ => mm_I x
def mm_pf (ft : Nat) (v : mm_V) (K : Int → Prop) : Prop :=
  match ft, v with
  | 0, .inl x => K x
  | 1, .inl x => (x = 0 ∨ x = 1) ∧ K x
  | 2, .inr (.inl x) => K x
  | 3, .inr (.inr (.inl o)) => K (o : Int)
  | 4, .inr (.inr (.inr q)) => K ((q : Int) + 1)
  | 7, .inl x => x = 0 ∧ K x
  | _, _ => False
def mm_rv (st : List mm_V) (n rc : Nat) (M : mm_M) (d : List Nat) : Prop :=
  match rc with
  | 0 => True
  | 6 => match mm_nth st (n - 1) with
    | some (.inr (.inr (.inl o))) => o = 28
    | _ => False
  | rc + 1 => match mm_nth st (n - 1) with
    | some (.inr (.inr (.inl o))) => mm_is M d o (rc + 1)
    | _ => False
/-- a text's final fields, set as it is made -/
def mm_pS (n : Nat) (v : mm_V) (K : Int → Prop) : Prop :=
  match n, v with
  | 0, .inr (.inr (.inl a)) => K (a : Int)
  | 1, .inl x => x = 0 ∧ K x
  | _, _ => False
def mm_push (r : Option mm_V) (st : List mm_V) : List mm_V := match r with
  | none => st
  | some v => v :: st
def mm_isRet (rt : Nat) (i : Instr) (st : List mm_V) : Option (Option mm_V) :=
  match i, rt, st with
  | .return_, 0, [] => some none
  | .ireturn, 1, [.inl x] => some (some (mm_I x))
  | .ireturn, 2, [.inl x] => some (some (mm_I x))
  | .lreturn, 3, [.inr (.inl x)] => some (some (mm_L x))
  | .areturn, 4, [.inr (.inr v)] => some (some (.inr (.inr v)))
  | .ireturn, 5, [.inl x] => some (some (mm_I x))
  | .return_, 20, [] => some none
  | .ireturn, 21, [.inl x] => some (some (mm_I x))
  | .areturn, 24, [.inr (.inr v)] => some (some (.inr (.inr v)))
  | _, _, _ => none
def mm_bool (rt : Nat) (r : Option mm_V) : Prop := match rt, r with
  | 2, some (.inl x) => x = 0 ∨ x = 1
  | 5, some (.inl x) => x = 0
  | _, _ => True
def mm_ret (rt mu : Nat) (i : Instr) (st : List mm_V) (M : mm_M) (d : List Nat) (u : Nat) (Qr : mm_Q) : Prop :=
  match mm_isRet rt i st with
  | some r => mm_bool rt r ∧ u ≤ mu ∧ Qr (.inl r) M d
  | none => False
def mm_call (C : Nat → Option mm_Ca) (mu : Nat) (hn : Nat → Nat → Option Nat) (Qr : mm_Q) (how idx pc : Nat) (ls : mm_Ls) (st : List mm_V) (M : mm_M) (d : List Nat) (u : Nat) (Kn : mm_K) (Kj : Nat → mm_K) : Prop :=
  match C idx with
  | some (h, n, rc, sp, mu') => h = how ∧ n ≤ st.length ∧ mm_rv st n rc M d ∧ mm_cats (st.drop n) ≤ 8 ∧ u + mu' ≤ mu ∧
      sp (st.take n).reverse M d (fun o M' d' => match o with
        | .inl r => Kn ls (mm_push r (st.drop n)) M' d' (u + mu')
        | .inr k => match hn pc k with
          | none => Qr (.inr k) M' d'
          | some hpc => ∀ q : Nat, Kj hpc ls [mm_X q] M' d' (u + mu'))
  | none => False
def mm_thr (X : Nat → Nat → Nat → Option Nat) (mu : Nat) (hn : Nat → Nat → Option Nat) (Qr : mm_Q) (idx pc : Nat) (rest : List mm_E) (st : List mm_V) (M : mm_M) (d : List Nat) (u : Nat) : Prop :=
  match rest with
  | (_, .dup, _) :: (_, .ldc_w is, _) :: (_, .invokespecial ic, _) :: (_, .athrow, _) :: _ => match X idx is ic with
    | some k => st = [] ∧ u + 1 ≤ mu ∧ Qr (.inr k) M d
    | none => False
  | _ => False
/-- the row's length, of a byte row; a copy of bytes; a row's clone -/
def mm_lenJ (st : List mm_V) (M : mm_M) (d : List Nat) (K : List mm_V → Prop) : Prop := match st with
  | .inr (.inr (.inl o)) :: r => mm_isC M d o 3 ∧ mm_ln M o < 2147483648 ∧ K (mm_I (mm_ln M o : Int) :: r)
  | _ => False
def mm_copyJ (st : List mm_V) (M : mm_M) (d : List Nat) (K : List mm_V → mm_M → Prop) : Prop := match st with
  | .inl n :: .inl dp :: .inr (.inr (.inl b)) :: .inl sp :: .inr (.inr (.inl a)) :: r => mm_isC M d a 3 ∧ mm_is M d b 3 ∧ 0 ≤ n ∧ 0 ≤ sp ∧ 0 ≤ dp ∧ sp + n ≤ (mm_ln M a : Int) ∧ dp + n ≤ (mm_ln M b : Int) ∧ mm_ln M a < 2147483648 ∧ mm_ln M b < 2147483648 ∧ mm_cats r ≤ 8 ∧ ∀ h : Nat → Int, K r (mm_any M b h)
  | _ => False
def mm_cloneJ (mu : Nat) (st : List mm_V) (M : mm_M) (d : List Nat) (u : Nat) (K : List mm_V → mm_M → List Nat → Nat → Prop) : Prop := match st with
  | .inr (.inr (.inl a)) :: r => mm_is M d a 3 ∧ u + 1 + mm_ln M a / 12 ≤ mu ∧ mm_cats r ≤ 8 ∧ ∀ (o : Nat) (h : Nat → Int), 100 ≤ o → o ∉ d → K (mm_R o :: r) (mm_any (mm_nob M o 3 (mm_ln M a : Int)) o h) (d ++ [o]) (u + 1 + mm_ln M a / 12)
  | _ => False
/-- one instruction -/
def mm_op (F : Nat → Option (Nat × Nat)) (C : Nat → Option mm_Ca) (X : Nat → Nat → Nat → Option Nat) (LC : Nat → Option Int) (SC : Nat → Option (Nat × (Nat → Int32))) (rt mu : Nat) (hn : Nat → Nat → Option Nat) (Qr : mm_Q) (pc : Nat) (i : Instr) (tgt : Nat) (rest : List mm_E)
    (ls : mm_Ls) (st : List mm_V) (M : mm_M) (d : List Nat) (u : Nat) (Kn : mm_K) (Kj : Nat → mm_K) : Prop :=
  match i with
  | .iconst n => Kn ls (mm_I n :: st) M d u
  | .bipush n => (-128 ≤ n ∧ n < 128) ∧ Kn ls (mm_I n :: st) M d u
  | .sipush n => (-32768 ≤ n ∧ n < 32768) ∧ Kn ls (mm_I n :: st) M d u
  | .lconst n => Kn ls (mm_L (n.val : Int) :: st) M d u
  | .ldc2_w k => match LC k with
    | some x => Kn ls (mm_L x :: st) M d u
    | none => False
  | .aconst_null => Kn ls (mm_R 0 :: st) M d u
  | .iload n => match mm_nth ls n with
    | some (some (.inl x)) => Kn ls (mm_I x :: st) M d u
    | _ => False
  | .iload_n n => match mm_nth ls n.val with
    | some (some (.inl x)) => Kn ls (mm_I x :: st) M d u
    | _ => False
  | .lload n => match mm_nth ls n with
    | some (some (.inr (.inl x))) => Kn ls (mm_L x :: st) M d u
    | _ => False
  | .lload_n n => match mm_nth ls n.val with
    | some (some (.inr (.inl x))) => Kn ls (mm_L x :: st) M d u
    | _ => False
  | .aload n => match mm_nth ls n with
    | some (some (.inr (.inr v))) => Kn ls (.inr (.inr v) :: st) M d u
    | _ => False
  | .aload_n n => match mm_nth ls n.val with
    | some (some (.inr (.inr v))) => Kn ls (.inr (.inr v) :: st) M d u
    | _ => False
  | .istore n => match st with
    | .inl x :: r => mm_ok ls n = true ∧ Kn (mm_set ls n (some (mm_I x))) r M d u
    | _ => False
  | .istore_n n => match st with
    | .inl x :: r => mm_ok ls n.val = true ∧ Kn (mm_set ls n.val (some (mm_I x))) r M d u
    | _ => False
  | .lstore n => match st with
    | .inr (.inl x) :: r => mm_ok ls n = true ∧ n + 1 < ls.length ∧ Kn (mm_set (mm_set ls (n + 1) none) n (some (mm_L x))) r M d u
    | _ => False
  | .lstore_n n => match st with
    | .inr (.inl x) :: r => mm_ok ls n.val = true ∧ n.val + 1 < ls.length ∧ Kn (mm_set (mm_set ls (n.val + 1) none) n.val (some (mm_L x))) r M d u
    | _ => False
  | .astore n => match st with
    | .inr (.inr v) :: r => mm_ok ls n = true ∧ Kn (mm_set ls n (some (.inr (.inr v)))) r M d u
    | _ => False
  | .astore_n n => match st with
    | .inr (.inr v) :: r => mm_ok ls n.val = true ∧ Kn (mm_set ls n.val (some (.inr (.inr v)))) r M d u
    | _ => False
  | .iinc n x => match mm_nth ls n with
    | some (some (.inl y)) => mm_ok ls n = true ∧ Kn (mm_set ls n (some (mm_I (y + x)))) st M d u
    | _ => False
  | .iadd => match st with
    | .inl b :: .inl a :: r => Kn ls (mm_I (a + b) :: r) M d u
    | _ => False
  | .isub => match st with
    | .inl b :: .inl a :: r => Kn ls (mm_I (a - b) :: r) M d u
    | _ => False
  | .imul => match st with
    | .inl b :: .inl a :: r => Kn ls (mm_I (a * b) :: r) M d u
    | _ => False
  | .idiv => match st with
    | .inl b :: .inl a :: r => InI a ∧ InI b ∧ 0 < b ∧ Kn ls (mm_I (a.tdiv b) :: r) M d u
    | _ => False
  | .irem => match st with
    | .inl b :: .inl a :: r => InI a ∧ InI b ∧ 0 < b ∧ Kn ls (mm_I (a.tmod b) :: r) M d u
    | _ => False
  | .ineg => match st with
    | .inl a :: r => Kn ls (mm_I (-a) :: r) M d u
    | _ => False
  | .iand => match st with
    | .inl b :: .inl a :: r => Kn ls (mm_I (mm_and a b) :: r) M d u
    | _ => False
  | .ior => match st with
    | .inl b :: .inl a :: r => Kn ls (mm_I (mm_or a b) :: r) M d u
    | _ => False
  | .ixor => match st with
    | .inl b :: .inl a :: r => Kn ls (mm_I (mm_xor a b) :: r) M d u
    | _ => False
  | .ishl => match st with
    | .inl b :: .inl a :: r => (0 ≤ b ∧ b < 32) ∧ Kn ls (mm_I (a * 2 ^ b.toNat) :: r) M d u
    | _ => False
  | .ishr => match st with
    | .inl b :: .inl a :: r => InI a ∧ (0 ≤ b ∧ b < 32) ∧ Kn ls (mm_I (a / 2 ^ b.toNat) :: r) M d u
    | _ => False
  | .i2l => match st with
    | .inl a :: r => Kn ls (mm_L (mm_w a) :: r) M d u
    | _ => False
  | .ladd => match st with
    | .inr (.inl b) :: .inr (.inl a) :: r => Kn ls (mm_L (a + b) :: r) M d u
    | _ => False
  | .lmul => match st with
    | .inr (.inl b) :: .inr (.inl a) :: r => Kn ls (mm_L (a * b) :: r) M d u
    | _ => False
  | .lcmp => match st with
    | .inr (.inl b) :: .inr (.inl a) :: r => (a = b ∨ (InL a ∧ InL b)) ∧ Kn ls (mm_I (if a = b then 0 else if a < b then -1 else 1) :: r) M d u
    | _ => False
  | .dup => match st with
    | .inr (.inl _) :: _ => False
    | v :: r => Kn ls (v :: v :: r) M d u
    | _ => False
  | .dup2 => match st with
    | v :: w :: r => mm_cat v = 1 ∧ mm_cat w = 1 ∧ Kn ls (v :: w :: v :: w :: r) M d u
    | _ => False
  | .pop => match st with
    | .inr (.inl _) :: _ => False
    | _ :: r => Kn ls r M d u
    | _ => False
  | .pop2 => match st with
    | .inr (.inl _) :: r => Kn ls r M d u
    | _ => False
  | .goto _ => Kj tgt ls st M d u
  | .ifCond .eq _ => match st with
    | .inl a :: r => InI a ∧ (a = 0 → Kj tgt ls r M d u) ∧ (a ≠ 0 → Kn ls r M d u)
    | _ => False
  | .ifCond .ne _ => match st with
    | .inl a :: r => InI a ∧ (a ≠ 0 → Kj tgt ls r M d u) ∧ (a = 0 → Kn ls r M d u)
    | _ => False
  | .ifCond .lt _ => match st with
    | .inl a :: r => InI a ∧ (a < 0 → Kj tgt ls r M d u) ∧ (0 ≤ a → Kn ls r M d u)
    | _ => False
  | .ifCond .ge _ => match st with
    | .inl a :: r => InI a ∧ (0 ≤ a → Kj tgt ls r M d u) ∧ (a < 0 → Kn ls r M d u)
    | _ => False
  | .ifCond .gt _ => match st with
    | .inl a :: r => InI a ∧ (0 < a → Kj tgt ls r M d u) ∧ (a ≤ 0 → Kn ls r M d u)
    | _ => False
  | .ifCond .le _ => match st with
    | .inl a :: r => InI a ∧ (a ≤ 0 → Kj tgt ls r M d u) ∧ (0 < a → Kn ls r M d u)
    | _ => False
  | .if_icmp .eq _ => match st with
    | .inl b :: .inl a :: r => InI a ∧ InI b ∧ (a = b → Kj tgt ls r M d u) ∧ (a ≠ b → Kn ls r M d u)
    | _ => False
  | .if_icmp .ne _ => match st with
    | .inl b :: .inl a :: r => InI a ∧ InI b ∧ (a ≠ b → Kj tgt ls r M d u) ∧ (a = b → Kn ls r M d u)
    | _ => False
  | .if_icmp .lt _ => match st with
    | .inl b :: .inl a :: r => InI a ∧ InI b ∧ (a < b → Kj tgt ls r M d u) ∧ (b ≤ a → Kn ls r M d u)
    | _ => False
  | .if_icmp .ge _ => match st with
    | .inl b :: .inl a :: r => InI a ∧ InI b ∧ (b ≤ a → Kj tgt ls r M d u) ∧ (a < b → Kn ls r M d u)
    | _ => False
  | .if_icmp .gt _ => match st with
    | .inl b :: .inl a :: r => InI a ∧ InI b ∧ (b < a → Kj tgt ls r M d u) ∧ (a ≤ b → Kn ls r M d u)
    | _ => False
  | .if_icmp .le _ => match st with
    | .inl b :: .inl a :: r => InI a ∧ InI b ∧ (a ≤ b → Kj tgt ls r M d u) ∧ (b < a → Kn ls r M d u)
    | _ => False
  | .if_acmp .eq _ => match st with
    | .inr (.inr (.inl b)) :: .inr (.inr (.inl a)) :: r => (a = 0 ∨ a ∈ mm_ids d) ∧ (b = 0 ∨ b ∈ mm_ids d) ∧ (a = b → Kj tgt ls r M d u) ∧ (a ≠ b → Kn ls r M d u)
    | _ => False
  | .if_acmp .ne _ => match st with
    | .inr (.inr (.inl b)) :: .inr (.inr (.inl a)) :: r => (a = 0 ∨ a ∈ mm_ids d) ∧ (b = 0 ∨ b ∈ mm_ids d) ∧ (a ≠ b → Kj tgt ls r M d u) ∧ (a = b → Kn ls r M d u)
    | _ => False
  | .ifnull _ => match st with
    | .inr (.inr (.inl a)) :: r => (a = 0 → Kj tgt ls r M d u) ∧ (a ≠ 0 → Kn ls r M d u)
    | _ => False
  | .ifnonnull _ => match st with
    | .inr (.inr (.inl a)) :: r => (a ≠ 0 → Kj tgt ls r M d u) ∧ (a = 0 → Kn ls r M d u)
    | _ => False
  | .getfield k => match F k, st with
    | some (0, 92), .inr (.inr (.inl o)) :: r => o = 28 ∧ Kn ls (mm_R 29 :: r) M d u
    | some (1, 92), .inr (.inr (.inl o)) :: r => o = 28 ∧ Kn ls (mm_I 0 :: r) M d u
    | some (rc, n), .inr (.inr (.inl o)) :: r => mm_is M d o rc ∧ (match mm_nth (mm_ft rc) n with
      | some (ft, base) => Kn ls (mm_fv ft base o (M o n) :: r) M d u
      | none => False)
    | _, _ => False
  | .putfield k => match F k, st with
    | some (rc, 91), v :: .inr (.inr (.inl o)) :: r => mm_is M d o 17 ∧ mm_pS rc v (fun x => Kn ls r (mm_up M o rc x) d u)
    | some (rc, n), v :: .inr (.inr (.inl o)) :: r => mm_is M d o rc ∧ (match mm_nth (mm_ft rc) n with
      | some (ft, _) => mm_pf ft v (fun x => Kn ls r (mm_up M o n x) d u)
      | none => False)
    | _, _ => False
  | .getstatic k => match F k with
    | some (0, 98) => Kn ls (mm_I 1 :: st) M d u
    | some (24, 98) => Kn ls (mm_R 24 :: st) M d u
    | some (25, 98) => Kn ls (mm_R 25 :: st) M d u
    | _ => False
  | .ldc k => match F k with
    | some (0, 97) => ∀ q : Nat, Kn ls (mm_X q :: st) M d u
    | some (28, 97) => Kn ls (mm_R 28 :: st) M d u
    | some (0, 96) => Kn ls (mm_I 2147483639 :: st) M d u
    | some (1, 96) => Kn ls (mm_I 2147483647 :: st) M d u
    | _ => False
  | .newarray .byte => match st with
    | .inl n :: r => (0 ≤ n ∧ n < 100000) ∧ u + 1 + n.toNat / 12 ≤ mu ∧ ∀ o : Nat, 100 ≤ o → o ∉ d → Kn ls (mm_R o :: r) (mm_nob M o 3 n) (d ++ [o]) (u + 1 + n.toNat / 12)
    | _ => False
  | .baload => match st with
    | .inl a :: .inr (.inr (.inl o)) :: r => (o = 24 ∨ o = 25) ∧ (0 ≤ a ∧ a < 100) ∧ ∀ x : Int, Kn ls (mm_I x :: r) M d u
    | _ => False
  | .bastore => match st with
    | .inl x :: .inl a :: .inr (.inr (.inl o)) :: r => mm_is M d o 3 ∧ (0 ≤ a ∧ a < (mm_ln M o : Int)) ∧ mm_ln M o < 2147483648 ∧ Kn ls r (mm_up M o a.toNat x) d u
    | _ => False
  | .i2b => match st with
    | .inl _ :: r => ∀ x : Int, Kn ls (mm_I x :: r) M d u
    | _ => False
  | .dup_x1 => match st with
    | v :: w :: r => mm_cat v = 1 ∧ mm_cat w = 1 ∧ Kn ls (v :: w :: v :: r) M d u
    | _ => False
  | .checkcast k => match F k, st with
    | some (0, 93), .inr (.inr (.inl o)) :: r => mm_is M d o 3 ∧ Kn ls (mm_R o :: r) M d u
    | _, _ => False
  | .invokespecial k => match F k, st with
    | some (0, 90), .inr (.inr (.inl o)) :: r => o ≠ 0 ∧ mm_cats r ≤ 8 ∧ Kn ls r M d u
    | _, _ => mm_call C mu hn Qr 2 k pc ls st M d u Kn Kj
  | .iaload => match st with
    | .inl a :: .inr (.inr (.inr q)) :: r => (match SC q with
      | some (n, xs) => (0 ≤ a ∧ a < (n : Int)) ∧ n < 2147483648 ∧ Kn ls (mm_I (xs a.toNat).toInt :: r) M d u
      | none => False)
    | .inl a :: .inr (.inr (.inl o)) :: r => mm_is M d o 1 ∧ (0 ≤ a ∧ a < (mm_ln M o : Int)) ∧ mm_ln M o < 2147483648 ∧ Kn ls (mm_I (M o a.toNat) :: r) M d u
    | _ => False
  | .iastore => match st with
    | .inl x :: .inl a :: .inr (.inr (.inl o)) :: r => mm_is M d o 1 ∧ (0 ≤ a ∧ a < (mm_ln M o : Int)) ∧ mm_ln M o < 2147483648 ∧ Kn ls r (mm_up M o a.toNat x) d u
    | _ => False
  | .aaload => match st with
    | .inl a :: .inr (.inr (.inl o)) :: r => mm_is M d o 2 ∧ (0 ≤ a ∧ a < (mm_ln M o : Int)) ∧ mm_ln M o < 2147483648 ∧ Kn ls (mm_R (8 + 2 * a.toNat) :: r) M d u
    | _ => False
  | .arraylength => match rt with
    | 20 => mm_lenJ st M d (fun st' => Kn ls st' M d u)
    | 21 => mm_lenJ st M d (fun st' => Kn ls st' M d u)
    | 24 => mm_lenJ st M d (fun st' => Kn ls st' M d u)
    | _ => match st with
    | .inr (.inr (.inr q)) :: r => (match SC q with
      | some (n, _) => n < 2147483648 ∧ Kn ls (mm_I (n : Int) :: r) M d u
      | none => False)
    | .inr (.inr (.inl o)) :: r => (mm_is M d o 1 ∨ mm_is M d o 2) ∧ mm_ln M o < 2147483648 ∧ Kn ls (mm_I (mm_ln M o : Int) :: r) M d u
    | _ => False
  | .invokevirtual k => match rt with
    | 24 => match F k with
      | some (0, 94) => mm_cloneJ mu st M d u (fun st' M' d' u' => Kn ls st' M' d' u')
      | _ => mm_call C mu hn Qr 0 k pc ls st M d u Kn Kj
    | _ => mm_call C mu hn Qr 0 k pc ls st M d u Kn Kj
  | .invokestatic k => match rt with
    | 24 => match F k with
      | some (0, 95) => mm_copyJ st M d (fun st' M' => Kn ls st' M' d u)
      | _ => mm_call C mu hn Qr 1 k pc ls st M d u Kn Kj
    | 20 => match F k with
      | some (0, 95) => mm_copyJ st M d (fun st' M' => Kn ls st' M' d u)
      | _ => mm_call C mu hn Qr 1 k pc ls st M d u Kn Kj
    | _ => mm_call C mu hn Qr 1 k pc ls st M d u Kn Kj
  | .new k => match F k with
    | some (rc, 99) => (rc = 16 ∨ rc = 17) ∧ u + 1 ≤ mu ∧ ∀ o : Nat, 100 ≤ o → o ∉ d → Kn ls (mm_R o :: st) (mm_nob M o rc 0) (d ++ [o]) (u + 1)
    | _ => mm_thr X mu hn Qr k pc rest st M d u
  | .return_ => mm_ret rt mu .return_ st M d u Qr
  | .ireturn => mm_ret rt mu .ireturn st M d u Qr
  | .lreturn => mm_ret rt mu .lreturn st M d u Qr
  | .areturn => mm_ret rt mu .areturn st M d u Qr
  | _ => False
/-- an instruction's length -/
def mm_len : Instr → Nat
  | .bipush _ => 2
  | .ldc _ => 2
  | .iload _ => 2
  | .lload _ => 2
  | .aload _ => 2
  | .istore _ => 2
  | .lstore _ => 2
  | .astore _ => 2
  | .newarray _ => 2
  | .sipush _ => 3
  | .ldc_w _ => 3
  | .ldc2_w _ => 3
  | .iinc _ _ => 3
  | .getfield _ => 3
  | .putfield _ => 3
  | .getstatic _ => 3
  | .invokevirtual _ => 3
  | .invokestatic _ => 3
  | .invokespecial _ => 3
  | .new _ => 3
  | .anewarray _ => 3
  | .checkcast _ => 3
  | .goto _ => 3
  | .ifCond _ _ => 3
  | .if_icmp _ _ => 3
  | .if_acmp _ _ => 3
  | .ifnull _ => 3
  | .ifnonnull _ => 3
  | _ => 1
def mm_tg (pc : Nat) (i : Instr) (t : Nat) : Bool :=
  match i with
  | .goto o => (pc : Int) + o == (t : Int)
  | .ifCond _ o => (pc : Int) + o == (t : Int)
  | .if_icmp _ o => (pc : Int) + o == (t : Int)
  | .if_acmp _ o => (pc : Int) + o == (t : Int)
  | .ifnull o => (pc : Int) + o == (t : Int)
  | .ifnonnull o => (pc : Int) + o == (t : Int)
  | _ => true
def mm_nx (pc : Nat) : List mm_E → Bool
  | [] => true
  | (q, _, _) :: _ => q == pc
/-- the list is the code -/
def mm_chk (b : ByteArray) : List mm_E → Bool
  | [] => true
  | (pc, i, t) :: r => decide (decode b pc = .ok (i, mm_len i)) && (mm_tg pc i t && (mm_nx (pc + mm_len i) r && mm_chk b r))
/-- the rest of the code from a place on -/
def mm_at (t : Nat) : List mm_E → List mm_E
  | [] => []
  | q :: r => bif q.1 == t then q :: r else mm_at t r
