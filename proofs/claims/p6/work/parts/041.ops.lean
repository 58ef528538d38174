/-! each step of the small machine is one of the machine -/
section MZ
variable {p : Program} {l : Launch} {e : Env} {R : Room} {s : State} {m : MethodId} {args : Array Value} {below : List Frame} {meth : Method} {c : Code} {Qm : State → Prop}
variable {cc : ByteArray} {own : String} {nL : Nat} {Ts : List Cond} {D : va_G} {E : mm_En} {Ad : Nat → Nat} {A : Nat → Prop}
/-- the machine goes on from here to its end -/
def mm_Z (p : Program) (l : Launch) (e : Env) (R : Room) (s : State) (m : MethodId) (args : Array Value) (below : List Frame) (meth : Method) (c : Code) (Qm : State → Prop) (nL : Nat) (D : va_G) (E : mm_En) (Ad : Nat → Nat) (A : Nat → Prop)
    (pc : Nat) (ls : mm_Ls) (st : List mm_V) (M : mm_M) (d : List Nat) (u : Nat) : Prop :=
  ∀ (H : Heap) (locs : List Loc) (L : Array Slot), mm_Lo Ad nL ls L → va_P D mm_cl (mm_ws E Ad M d) H → va_D A (mm_ws E Ad M d) → va_S A s.heap H locs → W p l e R s m args below meth c H locs u (12 * u) Qm (F0 m pc L (st.map (mm_cc Ad)))
/-- what stays the same in a method's frame -/
def mm_Cx (p : Program) (s : State) (m : MethodId) (args : Array Value) (c : Code) (cc : ByteArray) (own : String) (nL : Nat) (Ts : List Cond) (D : va_G) (E : mm_En) (A : Nat → Prop) : Prop :=
  p.tables.exec = Jvm.exec ∧ c.code = cc ∧ c.maxLocals = nL ∧ s.vm.findClass own = some m.cls ∧ (∀ w ∈ Ts, w.before args s = true) ∧ va_K D mm_cl (mm_ty E) s ∧ (∀ q, s.heap.size ≤ q → A q) ∧ ∀ q ∈ mm_cl, ∀ w ∈ u_ws q.1 q.2.1 q.2.2, w ∈ Ts
variable {pc tgt : Nat} {ls : mm_Ls} {st : List mm_V} {M : mm_M} {d : List Nat} {u : Nat}
theorem mm_tgt {o : Int} (h : ((pc : Int) + o == (tgt : Int)) = true) : (pc : Int) + o = (tgt : Int) := eq_of_beq h
theorem mz_iconst {n : Int} (X : mm_Cx p s m args c cc own nL Ts D E A) (hd : decode cc pc = .ok (.iconst n, 1)) (k : mm_Z p l e R s m args below meth c Qm nL D E Ad A (pc + 1) ls (mm_I n :: st) M d u) : mm_Z p l e R s m args below meth c Qm nL D E Ad A pc ls st M d u :=
  fun H locs L hL hP hD hS => lv_iconst X.1 X.2.1 hd rfl (k H locs L hL hP hD hS)
theorem mz_bipush {n : Int} (X : mm_Cx p s m args c cc own nL Ts D E A) (hd : decode cc pc = .ok (.bipush n, 2)) (hn : -128 ≤ n ∧ n < 128) (k : mm_Z p l e R s m args below meth c Qm nL D E Ad A (pc + 2) ls (mm_I n :: st) M d u) : mm_Z p l e R s m args below meth c Qm nL D E Ad A pc ls st M d u :=
  fun H locs L hL hP hD hS => lv_bipush (v := Int32.ofInt n) X.1 X.2.1 hd (by
    apply Int32.toInt_inj.mp
    rw [mm_toInt ⟨by omega, by omega⟩, Int8.toInt_toInt32, Int8.toInt_ofInt_of_le (by omega) (by omega)]) (k H locs L hL hP hD hS)
theorem mz_sipush {n : Int} (X : mm_Cx p s m args c cc own nL Ts D E A) (hd : decode cc pc = .ok (.sipush n, 3)) (hn : -32768 ≤ n ∧ n < 32768) (k : mm_Z p l e R s m args below meth c Qm nL D E Ad A (pc + 3) ls (mm_I n :: st) M d u) : mm_Z p l e R s m args below meth c Qm nL D E Ad A pc ls st M d u :=
  fun H locs L hL hP hD hS => lv_sipush (v := Int32.ofInt n) X.1 X.2.1 hd (by
    apply Int32.toInt_inj.mp
    rw [mm_toInt ⟨by omega, by omega⟩, Int16.toInt_toInt32, Int16.toInt_ofInt_of_le (by omega) (by omega)]) (k H locs L hL hP hD hS)
theorem mz_lconst {n : Fin 2} (X : mm_Cx p s m args c cc own nL Ts D E A) (hd : decode cc pc = .ok (.lconst n, 1)) (k : mm_Z p l e R s m args below meth c Qm nL D E Ad A (pc + 1) ls (mm_L (n.val : Int) :: st) M d u) : mm_Z p l e R s m args below meth c Qm nL D E Ad A pc ls st M d u :=
  fun H locs L hL hP hD hS => lv_lconst (v := Int64.ofInt (n.val : Int)) X.1 X.2.1 hd (by rw [Int64.ofInt_eq_ofNat]) (k H locs L hL hP hD hS)
theorem mz_ldc2 {k0 : Nat} {x : Int} (X : mm_Cx p s m args c cc own nL Ts D E A) (hd : decode cc pc = .ok (.ldc2_w k0, 3)) (hw : Jvm.Cond.constantLong own k0 (Int64.ofInt x) ∈ Ts) (k : mm_Z p l e R s m args below meth c Qm nL D E Ad A (pc + 3) ls (mm_L x :: st) M d u) : mm_Z p l e R s m args below meth c Qm nL D E Ad A pc ls st M d u :=
  fun H locs L hL hP hD hS => lv_ldc2 X.1 X.2.1 X.2.2.2.1 (X.2.2.2.2.1 _ hw) hd (k H locs L hL hP hD hS)
theorem mz_null (X : mm_Cx p s m args c cc own nL Ts D E A) (hd : decode cc pc = .ok (.aconst_null, 1)) (k : mm_Z p l e R s m args below meth c Qm nL D E Ad A (pc + 1) ls (mm_R 0 :: st) M d u) : mm_Z p l e R s m args below meth c Qm nL D E Ad A pc ls st M d u :=
  fun H locs L hL hP hD hS => lv_null X.1 X.2.1 hd (k H locs L hL hP hD hS)
theorem mz_iload {n : Nat} {x : Int} (X : mm_Cx p s m args c cc own nL Ts D E A) (hd : decode cc pc = .ok (.iload n, 2)) (hx : mm_nth ls n = some (some (mm_I x))) (k : mm_Z p l e R s m args below meth c Qm nL D E Ad A (pc + 2) ls (mm_I x :: st) M d u) : mm_Z p l e R s m args below meth c Qm nL D E Ad A pc ls st M d u :=
  fun H locs L hL hP hD hS => lv_iload X.1 X.2.1 hd (hL.2.2.2 n _ hx) (k H locs L hL hP hD hS)
theorem mz_iload_n {n : Fin 4} {x : Int} (X : mm_Cx p s m args c cc own nL Ts D E A) (hd : decode cc pc = .ok (.iload_n n, 1)) (hx : mm_nth ls n.val = some (some (mm_I x))) (k : mm_Z p l e R s m args below meth c Qm nL D E Ad A (pc + 1) ls (mm_I x :: st) M d u) : mm_Z p l e R s m args below meth c Qm nL D E Ad A pc ls st M d u :=
  fun H locs L hL hP hD hS => lv_iload_n X.1 X.2.1 hd rfl (hL.2.2.2 n.val _ hx) (k H locs L hL hP hD hS)
theorem mz_lload {n : Nat} {x : Int} (X : mm_Cx p s m args c cc own nL Ts D E A) (hd : decode cc pc = .ok (.lload n, 2)) (hx : mm_nth ls n = some (some (mm_L x))) (k : mm_Z p l e R s m args below meth c Qm nL D E Ad A (pc + 2) ls (mm_L x :: st) M d u) : mm_Z p l e R s m args below meth c Qm nL D E Ad A pc ls st M d u :=
  fun H locs L hL hP hD hS => lv_lload X.1 X.2.1 hd (hL.2.2.2 n _ hx) (k H locs L hL hP hD hS)
theorem mz_lload_n {n : Fin 4} {x : Int} (X : mm_Cx p s m args c cc own nL Ts D E A) (hd : decode cc pc = .ok (.lload_n n, 1)) (hx : mm_nth ls n.val = some (some (mm_L x))) (k : mm_Z p l e R s m args below meth c Qm nL D E Ad A (pc + 1) ls (mm_L x :: st) M d u) : mm_Z p l e R s m args below meth c Qm nL D E Ad A pc ls st M d u :=
  fun H locs L hL hP hD hS => lv_lload_n X.1 X.2.1 hd rfl (hL.2.2.2 n.val _ hx) (k H locs L hL hP hD hS)
theorem mm_rcases (Ad : Nat → Nat) (v : Nat ⊕ Nat) : mm_cc Ad (.inr (.inr v)) = .null ∨ ∃ q : Nat, mm_cc Ad (.inr (.inr v)) = .ref q := by
  rcases v with o | q
  · by_cases h : o = 0
    · left
      simp only [mm_cc, mm_rn, h, if_true, va_rf]
    · right
      exact ⟨mm_ad Ad o, by simp only [mm_cc, mm_rn, h, if_false, va_rf]⟩
  · exact Or.inr ⟨q, rfl⟩
theorem mz_aload {n : Nat} {v : Nat ⊕ Nat} (X : mm_Cx p s m args c cc own nL Ts D E A) (hd : decode cc pc = .ok (.aload n, 2)) (hx : mm_nth ls n = some (some (.inr (.inr v)))) (k : mm_Z p l e R s m args below meth c Qm nL D E Ad A (pc + 2) ls (.inr (.inr v) :: st) M d u) : mm_Z p l e R s m args below meth c Qm nL D E Ad A pc ls st M d u := by
  intro H locs L hL hP hD hS
  have h1 := hL.2.2.2 n _ hx
  have h2 := k H locs L hL hP hD hS
  rw [List.map_cons] at h2
  rcases mm_rcases Ad v with h | ⟨q, h⟩ <;> rw [h] at h1 h2
  · exact lv_aloadN X.1 X.2.1 hd h1 h2
  · exact lv_aload X.1 X.2.1 hd h1 h2
theorem mz_aload_n {n : Fin 4} {v : Nat ⊕ Nat} (X : mm_Cx p s m args c cc own nL Ts D E A) (hd : decode cc pc = .ok (.aload_n n, 1)) (hx : mm_nth ls n.val = some (some (.inr (.inr v)))) (k : mm_Z p l e R s m args below meth c Qm nL D E Ad A (pc + 1) ls (.inr (.inr v) :: st) M d u) : mm_Z p l e R s m args below meth c Qm nL D E Ad A pc ls st M d u := by
  intro H locs L hL hP hD hS
  have h1 := hL.2.2.2 n.val _ hx
  have h2 := k H locs L hL hP hD hS
  rw [List.map_cons] at h2
  rcases mm_rcases Ad v with h | ⟨q, h⟩ <;> rw [h] at h1 h2
  · exact lv_aload_nN X.1 X.2.1 hd rfl h1 h2
  · exact lv_aload_n X.1 X.2.1 hd rfl h1 h2
theorem mm_lo_lt {L : Array Slot} {n : Nat} (hL : mm_Lo Ad nL ls L) (h : mm_ok ls n = true) : n < nL := by
  rw [← hL.2.2.1]
  exact (mm_ok_lt ls n h).1
theorem mz_istore {n : Nat} {x : Int} (X : mm_Cx p s m args c cc own nL Ts D E A) (hd : decode cc pc = .ok (.istore n, 2)) (hx : mm_ok ls n = true) (k : mm_Z p l e R s m args below meth c Qm nL D E Ad A (pc + 2) (mm_set ls n (some (mm_I x))) st M d u) : mm_Z p l e R s m args below meth c Qm nL D E Ad A pc ls (mm_I x :: st) M d u :=
  fun H locs L hL hP hD hS => lv_istore X.1 X.2.1 hd (mm_lo_has hL) (mm_lo_lt hL hx) rfl fun L' h' => k H locs L' (mm_lo_set (v := mm_I x) hL hx rfl h') hP hD hS
theorem mz_istore_n {n : Fin 4} {x : Int} (X : mm_Cx p s m args c cc own nL Ts D E A) (hd : decode cc pc = .ok (.istore_n n, 1)) (hx : mm_ok ls n.val = true) (k : mm_Z p l e R s m args below meth c Qm nL D E Ad A (pc + 1) (mm_set ls n.val (some (mm_I x))) st M d u) : mm_Z p l e R s m args below meth c Qm nL D E Ad A pc ls (mm_I x :: st) M d u :=
  fun H locs L hL hP hD hS => lv_istore_n X.1 X.2.1 hd rfl (mm_lo_has hL) (mm_lo_lt hL hx) rfl fun L' h' => k H locs L' (mm_lo_set (v := mm_I x) hL hx rfl h') hP hD hS
theorem mz_lstore {n : Nat} {x : Int} (X : mm_Cx p s m args c cc own nL Ts D E A) (hd : decode cc pc = .ok (.lstore n, 2)) (hx : mm_ok ls n = true) (h1 : n + 1 < ls.length) (k : mm_Z p l e R s m args below meth c Qm nL D E Ad A (pc + 2) (mm_set (mm_set ls (n + 1) none) n (some (mm_L x))) st M d u) : mm_Z p l e R s m args below meth c Qm nL D E Ad A pc ls (mm_L x :: st) M d u :=
  fun H locs L hL hP hD hS => lv_lstore X.1 X.2.1 hd (mm_lo_has hL) (by rw [← hL.2.2.1]; exact h1) rfl fun L' h' => k H locs L' (mm_lo_set2 (v := mm_L x) hL hx h1 rfl h') hP hD hS
theorem mz_lstore_n {n : Fin 4} {x : Int} (X : mm_Cx p s m args c cc own nL Ts D E A) (hd : decode cc pc = .ok (.lstore_n n, 1)) (hx : mm_ok ls n.val = true) (h1 : n.val + 1 < ls.length) (k : mm_Z p l e R s m args below meth c Qm nL D E Ad A (pc + 1) (mm_set (mm_set ls (n.val + 1) none) n.val (some (mm_L x))) st M d u) : mm_Z p l e R s m args below meth c Qm nL D E Ad A pc ls (mm_L x :: st) M d u :=
  fun H locs L hL hP hD hS => lv_lstore_n X.1 X.2.1 hd rfl (mm_lo_has hL) (by rw [← hL.2.2.1]; exact h1) rfl fun L' h' => k H locs L' (mm_lo_set2 (v := mm_L x) hL hx h1 rfl h') hP hD hS
theorem mz_astore {n : Nat} {v : Nat ⊕ Nat} (X : mm_Cx p s m args c cc own nL Ts D E A) (hd : decode cc pc = .ok (.astore n, 2)) (hx : mm_ok ls n = true) (k : mm_Z p l e R s m args below meth c Qm nL D E Ad A (pc + 2) (mm_set ls n (some (.inr (.inr v)))) st M d u) : mm_Z p l e R s m args below meth c Qm nL D E Ad A pc ls (.inr (.inr v) :: st) M d u := by
  intro H locs L hL hP hD hS
  rw [List.map_cons]
  have h1 : ∀ {L' : Array Slot} {lv' : List (Nat × Value)}, (n, mm_cc Ad (.inr (.inr v))) :: (mm_as Ad ls 0).filter (fun q => !(q.1 == n) && !(q.1 + 1 == n && q.2.category == 2)) = lv' → lv_has L' nL lv' → mm_Lo Ad nL (mm_set ls n (some (.inr (.inr v)))) L' := fun a b => mm_lo_set hL hx a b
  rcases mm_rcases Ad v with h | ⟨q, h⟩ <;> rw [h] at h1 ⊢
  · exact lv_astoreN X.1 X.2.1 hd (mm_lo_has hL) (mm_lo_lt hL hx) rfl fun L' h' => k H locs L' (h1 rfl h') hP hD hS
  · exact lv_astore X.1 X.2.1 hd (mm_lo_has hL) (mm_lo_lt hL hx) rfl fun L' h' => k H locs L' (h1 rfl h') hP hD hS
theorem mz_astore_n {n : Fin 4} {v : Nat ⊕ Nat} (X : mm_Cx p s m args c cc own nL Ts D E A) (hd : decode cc pc = .ok (.astore_n n, 1)) (hx : mm_ok ls n.val = true) (k : mm_Z p l e R s m args below meth c Qm nL D E Ad A (pc + 1) (mm_set ls n.val (some (.inr (.inr v)))) st M d u) : mm_Z p l e R s m args below meth c Qm nL D E Ad A pc ls (.inr (.inr v) :: st) M d u := by
  intro H locs L hL hP hD hS
  rw [List.map_cons]
  have h1 : ∀ {L' : Array Slot} {lv' : List (Nat × Value)}, (n.val, mm_cc Ad (.inr (.inr v))) :: (mm_as Ad ls 0).filter (fun q => !(q.1 == n.val) && !(q.1 + 1 == n.val && q.2.category == 2)) = lv' → lv_has L' nL lv' → mm_Lo Ad nL (mm_set ls n.val (some (.inr (.inr v)))) L' := fun a b => mm_lo_set hL hx a b
  rcases mm_rcases Ad v with h | ⟨q, h⟩ <;> rw [h] at h1 ⊢
  · exact lv_astore_nN X.1 X.2.1 hd rfl (mm_lo_has hL) (mm_lo_lt hL hx) rfl fun L' h' => k H locs L' (h1 rfl h') hP hD hS
  · exact lv_astore_n X.1 X.2.1 hd rfl (mm_lo_has hL) (mm_lo_lt hL hx) rfl fun L' h' => k H locs L' (h1 rfl h') hP hD hS
theorem mm_nth_lt {α : Type} : ∀ {l : List α} {n : Nat} {x : α}, mm_nth l n = some x → n < l.length
  | [], n, x, h => by simp [mm_nth] at h
  | a :: l, 0, x, h => by simp
  | a :: l, n + 1, x, h => by simpa using mm_nth_lt (l := l) h
theorem mz_iinc {n : Nat} {x y : Int} (X : mm_Cx p s m args c cc own nL Ts D E A) (hd : decode cc pc = .ok (.iinc n x, 3)) (hx : mm_nth ls n = some (some (mm_I y))) (hk : mm_ok ls n = true) (k : mm_Z p l e R s m args below meth c Qm nL D E Ad A (pc + 3) (mm_set ls n (some (mm_I (y + x)))) st M d u) : mm_Z p l e R s m args below meth c Qm nL D E Ad A pc ls st M d u := by
  intro H locs L hL hP hD hS
  obtain ⟨j, hj⟩ := List.getElem?_of_mem ((mm_as_mem (Ad := Ad) (q := (n, mm_cc Ad (mm_I y))) ls 0).mpr ⟨n, _, hx, by simp⟩)
  refine lv_iinc (v := Int32.ofInt (y + x)) X.1 X.2.1 hd (mm_lo_has hL) (k := j) hj (by rw [Int32.ofInt_add]) (mm_lo_lt hL hk) rfl fun L' h' => k H locs L' (mm_lo_set (v := mm_I (y + x)) hL hk rfl h') hP hD hS
theorem mz_iadd {x y : Int} (X : mm_Cx p s m args c cc own nL Ts D E A) (hd : decode cc pc = .ok (.iadd, 1)) (k : mm_Z p l e R s m args below meth c Qm nL D E Ad A (pc + 1) ls (mm_I (x + y) :: st) M d u) : mm_Z p l e R s m args below meth c Qm nL D E Ad A pc ls (mm_I y :: mm_I x :: st) M d u :=
  fun H locs L hL hP hD hS => lv_iadd X.1 X.2.1 hd (by rw [← Int32.ofInt_add]; exact k H locs L hL hP hD hS)
theorem mz_isub {x y : Int} (X : mm_Cx p s m args c cc own nL Ts D E A) (hd : decode cc pc = .ok (.isub, 1)) (k : mm_Z p l e R s m args below meth c Qm nL D E Ad A (pc + 1) ls (mm_I (x - y) :: st) M d u) : mm_Z p l e R s m args below meth c Qm nL D E Ad A pc ls (mm_I y :: mm_I x :: st) M d u :=
  fun H locs L hL hP hD hS => lv_isub X.1 X.2.1 hd (by rw [← Int32.ofInt_sub]; exact k H locs L hL hP hD hS)
theorem mz_imul {x y : Int} (X : mm_Cx p s m args c cc own nL Ts D E A) (hd : decode cc pc = .ok (.imul, 1)) (k : mm_Z p l e R s m args below meth c Qm nL D E Ad A (pc + 1) ls (mm_I (x * y) :: st) M d u) : mm_Z p l e R s m args below meth c Qm nL D E Ad A pc ls (mm_I y :: mm_I x :: st) M d u :=
  fun H locs L hL hP hD hS => lv_imul X.1 X.2.1 hd (by rw [← Int32.ofInt_mul]; exact k H locs L hL hP hD hS)
theorem mz_ineg {x : Int} (X : mm_Cx p s m args c cc own nL Ts D E A) (hd : decode cc pc = .ok (.ineg, 1)) (k : mm_Z p l e R s m args below meth c Qm nL D E Ad A (pc + 1) ls (mm_I (-x) :: st) M d u) : mm_Z p l e R s m args below meth c Qm nL D E Ad A pc ls (mm_I x :: st) M d u :=
  fun H locs L hL hP hD hS => lv_ineg X.1 X.2.1 hd (by rw [← Int32.ofInt_neg]; exact k H locs L hL hP hD hS)
theorem mz_iand {x y : Int} (X : mm_Cx p s m args c cc own nL Ts D E A) (hd : decode cc pc = .ok (.iand, 1)) (k : mm_Z p l e R s m args below meth c Qm nL D E Ad A (pc + 1) ls (mm_I (mm_and x y) :: st) M d u) : mm_Z p l e R s m args below meth c Qm nL D E Ad A pc ls (mm_I y :: mm_I x :: st) M d u :=
  fun H locs L hL hP hD hS => lv_iand X.1 X.2.1 hd (by have h := k H locs L hL hP hD hS; simp only [List.map_cons, mm_cc, mm_and, Int32.ofInt_toInt] at h; exact h)
theorem mz_ior {x y : Int} (X : mm_Cx p s m args c cc own nL Ts D E A) (hd : decode cc pc = .ok (.ior, 1)) (k : mm_Z p l e R s m args below meth c Qm nL D E Ad A (pc + 1) ls (mm_I (mm_or x y) :: st) M d u) : mm_Z p l e R s m args below meth c Qm nL D E Ad A pc ls (mm_I y :: mm_I x :: st) M d u :=
  fun H locs L hL hP hD hS => lv_ior X.1 X.2.1 hd (by have h := k H locs L hL hP hD hS; simp only [List.map_cons, mm_cc, mm_or, Int32.ofInt_toInt] at h; exact h)
theorem mz_ixor {x y : Int} (X : mm_Cx p s m args c cc own nL Ts D E A) (hd : decode cc pc = .ok (.ixor, 1)) (k : mm_Z p l e R s m args below meth c Qm nL D E Ad A (pc + 1) ls (mm_I (mm_xor x y) :: st) M d u) : mm_Z p l e R s m args below meth c Qm nL D E Ad A pc ls (mm_I y :: mm_I x :: st) M d u :=
  fun H locs L hL hP hD hS => lv_ixor X.1 X.2.1 hd (by have h := k H locs L hL hP hD hS; simp only [List.map_cons, mm_cc, mm_xor, Int32.ofInt_toInt] at h; exact h)
theorem mm_ne0 {y : Int} (hy : InI y) (h : 0 < y) : ¬ Int32.ofInt y = 0 := fun q => by
  have := (mm_inj hy mm_i0).mp q
  omega
theorem mz_idiv {x y : Int} (X : mm_Cx p s m args c cc own nL Ts D E A) (hd : decode cc pc = .ok (.idiv, 1)) (hx : InI x) (hy : InI y) (h0 : 0 < y) (k : mm_Z p l e R s m args below meth c Qm nL D E Ad A (pc + 1) ls (mm_I (x.tdiv y) :: st) M d u) : mm_Z p l e R s m args below meth c Qm nL D E Ad A pc ls (mm_I y :: mm_I x :: st) M d u :=
  fun H locs L hL hP hD hS => lv_idiv X.1 X.2.1 hd (mm_ne0 hy h0) (by rw [mm_div hx hy h0]; exact k H locs L hL hP hD hS)
theorem mz_irem {x y : Int} (X : mm_Cx p s m args c cc own nL Ts D E A) (hd : decode cc pc = .ok (.irem, 1)) (hx : InI x) (hy : InI y) (h0 : 0 < y) (k : mm_Z p l e R s m args below meth c Qm nL D E Ad A (pc + 1) ls (mm_I (x.tmod y) :: st) M d u) : mm_Z p l e R s m args below meth c Qm nL D E Ad A pc ls (mm_I y :: mm_I x :: st) M d u :=
  fun H locs L hL hP hD hS => lv_irem X.1 X.2.1 hd (mm_ne0 hy h0) (by rw [mm_rem hx hy h0]; exact k H locs L hL hP hD hS)
theorem mz_ishl {x y : Int} (X : mm_Cx p s m args c cc own nL Ts D E A) (hd : decode cc pc = .ok (.ishl, 1)) (h0 : 0 ≤ y ∧ y < 32) (k : mm_Z p l e R s m args below meth c Qm nL D E Ad A (pc + 1) ls (mm_I (x * 2 ^ y.toNat) :: st) M d u) : mm_Z p l e R s m args below meth c Qm nL D E Ad A pc ls (mm_I y :: mm_I x :: st) M d u :=
  fun H locs L hL hP hD hS => lv_ishl X.1 X.2.1 hd (by rw [mm_shl h0]; exact k H locs L hL hP hD hS)
theorem mz_ishr {x y : Int} (X : mm_Cx p s m args c cc own nL Ts D E A) (hd : decode cc pc = .ok (.ishr, 1)) (hx : InI x) (h0 : 0 ≤ y ∧ y < 32) (k : mm_Z p l e R s m args below meth c Qm nL D E Ad A (pc + 1) ls (mm_I (x / 2 ^ y.toNat) :: st) M d u) : mm_Z p l e R s m args below meth c Qm nL D E Ad A pc ls (mm_I y :: mm_I x :: st) M d u :=
  fun H locs L hL hP hD hS => lv_ishr X.1 X.2.1 hd (by rw [mm_shr hx h0]; exact k H locs L hL hP hD hS)
theorem mz_i2l {x : Int} (X : mm_Cx p s m args c cc own nL Ts D E A) (hd : decode cc pc = .ok (.i2l, 1)) (k : mm_Z p l e R s m args below meth c Qm nL D E Ad A (pc + 1) ls (mm_L (mm_w x) :: st) M d u) : mm_Z p l e R s m args below meth c Qm nL D E Ad A pc ls (mm_I x :: st) M d u :=
  fun H locs L hL hP hD hS => lv_i2l (v := Int64.ofInt (mm_w x)) X.1 X.2.1 hd (by
    apply Int64.toInt_inj.mp
    have h1 := Int32.le_toInt (Int32.ofInt x)
    have h2 := Int32.toInt_lt (Int32.ofInt x)
    unfold mm_w
    rw [Int32.toInt_toInt64, mm_toL ⟨by omega, by omega⟩]) (k H locs L hL hP hD hS)
theorem mz_ladd {x y : Int} (X : mm_Cx p s m args c cc own nL Ts D E A) (hd : decode cc pc = .ok (.ladd, 1)) (k : mm_Z p l e R s m args below meth c Qm nL D E Ad A (pc + 1) ls (mm_L (x + y) :: st) M d u) : mm_Z p l e R s m args below meth c Qm nL D E Ad A pc ls (mm_L y :: mm_L x :: st) M d u :=
  fun H locs L hL hP hD hS => lv_ladd X.1 X.2.1 hd (by rw [← Int64.ofInt_add]; exact k H locs L hL hP hD hS)
theorem mz_lmul {x y : Int} (X : mm_Cx p s m args c cc own nL Ts D E A) (hd : decode cc pc = .ok (.lmul, 1)) (k : mm_Z p l e R s m args below meth c Qm nL D E Ad A (pc + 1) ls (mm_L (x * y) :: st) M d u) : mm_Z p l e R s m args below meth c Qm nL D E Ad A pc ls (mm_L y :: mm_L x :: st) M d u :=
  fun H locs L hL hP hD hS => lv_lmul X.1 X.2.1 hd (by rw [← Int64.ofInt_mul]; exact k H locs L hL hP hD hS)
theorem mz_lcmp {x y : Int} (X : mm_Cx p s m args c cc own nL Ts D E A) (hd : decode cc pc = .ok (.lcmp, 1)) (hx : x = y ∨ (InL x ∧ InL y)) (k : mm_Z p l e R s m args below meth c Qm nL D E Ad A (pc + 1) ls (mm_I (if x = y then 0 else if x < y then -1 else 1) :: st) M d u) : mm_Z p l e R s m args below meth c Qm nL D E Ad A pc ls (mm_L y :: mm_L x :: st) M d u :=
  fun H locs L hL hP hD hS => W.lcmp X.1 X.2.1 hd (by
    have e1 : lg_cmp (Int64.ofInt x) (Int64.ofInt y) = Int32.ofInt (if x = y then 0 else if x < y then -1 else 1) := by
      unfold lg_cmp
      rcases hx with h | ⟨h1, h2⟩
      · subst h
        simp [Int64.lt_iff_toInt_lt]
      · simp only [gt_iff_lt, Int64.lt_iff_toInt_lt, ← Int64.toInt_inj, mm_toL h1, mm_toL h2]
        by_cases a : x = y
        · simp [a]
        · by_cases b : x < y
          · rw [if_neg (by omega), if_neg a, if_neg a, if_pos b]; rfl
          · rw [if_pos (by omega), if_neg a, if_neg b]; rfl
    rw [e1]; exact k H locs L hL hP hD hS)
theorem mz_dup {v : mm_V} (X : mm_Cx p s m args c cc own nL Ts D E A) (hd : decode cc pc = .ok (.dup, 1)) (hv : mm_cat v = 1) (k : mm_Z p l e R s m args below meth c Qm nL D E Ad A (pc + 1) ls (v :: v :: st) M d u) : mm_Z p l e R s m args below meth c Qm nL D E Ad A pc ls (v :: st) M d u :=
  fun H locs L hL hP hD hS => lv_dup X.1 X.2.1 hd (by rw [mm_catv]; exact hv) (k H locs L hL hP hD hS)
theorem mz_dup2 {v w : mm_V} (X : mm_Cx p s m args c cc own nL Ts D E A) (hd : decode cc pc = .ok (.dup2, 1)) (hv : mm_cat v = 1) (hw : mm_cat w = 1) (k : mm_Z p l e R s m args below meth c Qm nL D E Ad A (pc + 1) ls (v :: w :: v :: w :: st) M d u) : mm_Z p l e R s m args below meth c Qm nL D E Ad A pc ls (v :: w :: st) M d u :=
  fun H locs L hL hP hD hS => lv_dup2_11 X.1 X.2.1 hd (by rw [mm_catv]; exact hv) (by rw [mm_catv]; exact hw) (k H locs L hL hP hD hS)
theorem mz_pop {v : mm_V} (X : mm_Cx p s m args c cc own nL Ts D E A) (hd : decode cc pc = .ok (.pop, 1)) (hv : mm_cat v = 1) (k : mm_Z p l e R s m args below meth c Qm nL D E Ad A (pc + 1) ls st M d u) : mm_Z p l e R s m args below meth c Qm nL D E Ad A pc ls (v :: st) M d u :=
  fun H locs L hL hP hD hS => lv_pop X.1 X.2.1 hd (by rw [mm_catv]; exact hv) (k H locs L hL hP hD hS)
theorem mz_pop2 {x : Int} (X : mm_Cx p s m args c cc own nL Ts D E A) (hd : decode cc pc = .ok (.pop2, 1)) (k : mm_Z p l e R s m args below meth c Qm nL D E Ad A (pc + 1) ls st M d u) : mm_Z p l e R s m args below meth c Qm nL D E Ad A pc ls (mm_L x :: st) M d u :=
  fun H locs L hL hP hD hS => lv_pop2_2 (va := mm_cc Ad (mm_L x)) X.1 X.2.1 hd rfl (k H locs L hL hP hD hS)
theorem mz_goto {o : Int} (X : mm_Cx p s m args c cc own nL Ts D E A) (hd : decode cc pc = .ok (.goto o, 3)) (ht : (pc : Int) + o = (tgt : Int)) (k : mm_Z p l e R s m args below meth c Qm nL D E Ad A tgt ls st M d u) : mm_Z p l e R s m args below meth c Qm nL D E Ad A pc ls st M d u :=
  fun H locs L hL hP hD hS => lv_goto X.1 X.2.1 hd ht (k H locs L hL hP hD hS)
theorem mz_icmp_eq {x y o : Int} (X : mm_Cx p s m args c cc own nL Ts D E A) (hd : decode cc pc = .ok (.if_icmp .eq o, 3)) (ht : (pc : Int) + o = (tgt : Int)) (hx : InI x) (hy : InI y) (kt : x = y → mm_Z p l e R s m args below meth c Qm nL D E Ad A tgt ls st M d u) (kf : x ≠ y → mm_Z p l e R s m args below meth c Qm nL D E Ad A (pc + 3) ls st M d u) : mm_Z p l e R s m args below meth c Qm nL D E Ad A pc ls (mm_I y :: mm_I x :: st) M d u :=
  fun H locs L hL hP hD hS => lv_icmp_eq X.1 X.2.1 hd ht (fun q => kt ((mm_inj hx hy).mp q) H locs L hL hP hD hS) (fun q => kf (fun h => q ((mm_inj hx hy).mpr h)) H locs L hL hP hD hS)
theorem mz_if_eq {x o : Int} (X : mm_Cx p s m args c cc own nL Ts D E A) (hd : decode cc pc = .ok (.ifCond .eq o, 3)) (ht : (pc : Int) + o = (tgt : Int)) (hx : InI x) (kt : x = 0 → mm_Z p l e R s m args below meth c Qm nL D E Ad A tgt ls st M d u) (kf : x ≠ 0 → mm_Z p l e R s m args below meth c Qm nL D E Ad A (pc + 3) ls st M d u) : mm_Z p l e R s m args below meth c Qm nL D E Ad A pc ls (mm_I x :: st) M d u :=
  have hy := mm_i0
  fun H locs L hL hP hD hS => lv_if_eq X.1 X.2.1 hd ht (fun q => kt ((mm_inj hx hy).mp q) H locs L hL hP hD hS) (fun q => kf (fun h => q ((mm_inj hx hy).mpr h)) H locs L hL hP hD hS)
theorem mz_icmp_ne {x y o : Int} (X : mm_Cx p s m args c cc own nL Ts D E A) (hd : decode cc pc = .ok (.if_icmp .ne o, 3)) (ht : (pc : Int) + o = (tgt : Int)) (hx : InI x) (hy : InI y) (kt : x ≠ y → mm_Z p l e R s m args below meth c Qm nL D E Ad A tgt ls st M d u) (kf : x = y → mm_Z p l e R s m args below meth c Qm nL D E Ad A (pc + 3) ls st M d u) : mm_Z p l e R s m args below meth c Qm nL D E Ad A pc ls (mm_I y :: mm_I x :: st) M d u :=
  fun H locs L hL hP hD hS => lv_icmp_ne X.1 X.2.1 hd ht (fun q => kt (fun h => q ((mm_inj hx hy).mpr h)) H locs L hL hP hD hS) (fun q => kf ((mm_inj hx hy).mp q) H locs L hL hP hD hS)
theorem mz_if_ne {x o : Int} (X : mm_Cx p s m args c cc own nL Ts D E A) (hd : decode cc pc = .ok (.ifCond .ne o, 3)) (ht : (pc : Int) + o = (tgt : Int)) (hx : InI x) (kt : x ≠ 0 → mm_Z p l e R s m args below meth c Qm nL D E Ad A tgt ls st M d u) (kf : x = 0 → mm_Z p l e R s m args below meth c Qm nL D E Ad A (pc + 3) ls st M d u) : mm_Z p l e R s m args below meth c Qm nL D E Ad A pc ls (mm_I x :: st) M d u :=
  have hy := mm_i0
  fun H locs L hL hP hD hS => lv_if_ne X.1 X.2.1 hd ht (fun q => kt (fun h => q ((mm_inj hx hy).mpr h)) H locs L hL hP hD hS) (fun q => kf ((mm_inj hx hy).mp q) H locs L hL hP hD hS)
theorem mz_icmp_lt {x y o : Int} (X : mm_Cx p s m args c cc own nL Ts D E A) (hd : decode cc pc = .ok (.if_icmp .lt o, 3)) (ht : (pc : Int) + o = (tgt : Int)) (hx : InI x) (hy : InI y) (kt : x < y → mm_Z p l e R s m args below meth c Qm nL D E Ad A tgt ls st M d u) (kf : y ≤ x → mm_Z p l e R s m args below meth c Qm nL D E Ad A (pc + 3) ls st M d u) : mm_Z p l e R s m args below meth c Qm nL D E Ad A pc ls (mm_I y :: mm_I x :: st) M d u :=
  fun H locs L hL hP hD hS => lv_icmp_lt X.1 X.2.1 hd ht (fun q => kt ((mm_lt hx hy).mp q) H locs L hL hP hD hS) (fun q => kf (Int.not_lt.mp fun h => q ((mm_lt hx hy).mpr h)) H locs L hL hP hD hS)
theorem mz_if_lt {x o : Int} (X : mm_Cx p s m args c cc own nL Ts D E A) (hd : decode cc pc = .ok (.ifCond .lt o, 3)) (ht : (pc : Int) + o = (tgt : Int)) (hx : InI x) (kt : x < 0 → mm_Z p l e R s m args below meth c Qm nL D E Ad A tgt ls st M d u) (kf : 0 ≤ x → mm_Z p l e R s m args below meth c Qm nL D E Ad A (pc + 3) ls st M d u) : mm_Z p l e R s m args below meth c Qm nL D E Ad A pc ls (mm_I x :: st) M d u :=
  have hy := mm_i0
  fun H locs L hL hP hD hS => lv_if_lt X.1 X.2.1 hd ht (fun q => kt ((mm_lt hx hy).mp q) H locs L hL hP hD hS) (fun q => kf (Int.not_lt.mp fun h => q ((mm_lt hx hy).mpr h)) H locs L hL hP hD hS)
theorem mz_icmp_ge {x y o : Int} (X : mm_Cx p s m args c cc own nL Ts D E A) (hd : decode cc pc = .ok (.if_icmp .ge o, 3)) (ht : (pc : Int) + o = (tgt : Int)) (hx : InI x) (hy : InI y) (kt : y ≤ x → mm_Z p l e R s m args below meth c Qm nL D E Ad A tgt ls st M d u) (kf : x < y → mm_Z p l e R s m args below meth c Qm nL D E Ad A (pc + 3) ls st M d u) : mm_Z p l e R s m args below meth c Qm nL D E Ad A pc ls (mm_I y :: mm_I x :: st) M d u :=
  fun H locs L hL hP hD hS => lv_icmp_ge X.1 X.2.1 hd ht (fun q => kt ((mm_le hy hx).mp q) H locs L hL hP hD hS) (fun q => kf (Int.not_le.mp fun h => q ((mm_le hy hx).mpr h)) H locs L hL hP hD hS)
theorem mz_if_ge {x o : Int} (X : mm_Cx p s m args c cc own nL Ts D E A) (hd : decode cc pc = .ok (.ifCond .ge o, 3)) (ht : (pc : Int) + o = (tgt : Int)) (hx : InI x) (kt : 0 ≤ x → mm_Z p l e R s m args below meth c Qm nL D E Ad A tgt ls st M d u) (kf : x < 0 → mm_Z p l e R s m args below meth c Qm nL D E Ad A (pc + 3) ls st M d u) : mm_Z p l e R s m args below meth c Qm nL D E Ad A pc ls (mm_I x :: st) M d u :=
  have hy := mm_i0
  fun H locs L hL hP hD hS => lv_if_ge X.1 X.2.1 hd ht (fun q => kt ((mm_le hy hx).mp q) H locs L hL hP hD hS) (fun q => kf (Int.not_le.mp fun h => q ((mm_le hy hx).mpr h)) H locs L hL hP hD hS)
theorem mz_icmp_gt {x y o : Int} (X : mm_Cx p s m args c cc own nL Ts D E A) (hd : decode cc pc = .ok (.if_icmp .gt o, 3)) (ht : (pc : Int) + o = (tgt : Int)) (hx : InI x) (hy : InI y) (kt : y < x → mm_Z p l e R s m args below meth c Qm nL D E Ad A tgt ls st M d u) (kf : x ≤ y → mm_Z p l e R s m args below meth c Qm nL D E Ad A (pc + 3) ls st M d u) : mm_Z p l e R s m args below meth c Qm nL D E Ad A pc ls (mm_I y :: mm_I x :: st) M d u :=
  fun H locs L hL hP hD hS => lv_icmp_gt X.1 X.2.1 hd ht (fun q => kt ((mm_lt hy hx).mp q) H locs L hL hP hD hS) (fun q => kf (Int.not_lt.mp fun h => q ((mm_lt hy hx).mpr h)) H locs L hL hP hD hS)
theorem mz_if_gt {x o : Int} (X : mm_Cx p s m args c cc own nL Ts D E A) (hd : decode cc pc = .ok (.ifCond .gt o, 3)) (ht : (pc : Int) + o = (tgt : Int)) (hx : InI x) (kt : 0 < x → mm_Z p l e R s m args below meth c Qm nL D E Ad A tgt ls st M d u) (kf : x ≤ 0 → mm_Z p l e R s m args below meth c Qm nL D E Ad A (pc + 3) ls st M d u) : mm_Z p l e R s m args below meth c Qm nL D E Ad A pc ls (mm_I x :: st) M d u :=
  have hy := mm_i0
  fun H locs L hL hP hD hS => lv_if_gt X.1 X.2.1 hd ht (fun q => kt ((mm_lt hy hx).mp q) H locs L hL hP hD hS) (fun q => kf (Int.not_lt.mp fun h => q ((mm_lt hy hx).mpr h)) H locs L hL hP hD hS)
theorem mz_icmp_le {x y o : Int} (X : mm_Cx p s m args c cc own nL Ts D E A) (hd : decode cc pc = .ok (.if_icmp .le o, 3)) (ht : (pc : Int) + o = (tgt : Int)) (hx : InI x) (hy : InI y) (kt : x ≤ y → mm_Z p l e R s m args below meth c Qm nL D E Ad A tgt ls st M d u) (kf : y < x → mm_Z p l e R s m args below meth c Qm nL D E Ad A (pc + 3) ls st M d u) : mm_Z p l e R s m args below meth c Qm nL D E Ad A pc ls (mm_I y :: mm_I x :: st) M d u :=
  fun H locs L hL hP hD hS => lv_icmp_le X.1 X.2.1 hd ht (fun q => kt ((mm_le hx hy).mp q) H locs L hL hP hD hS) (fun q => kf (Int.not_le.mp fun h => q ((mm_le hx hy).mpr h)) H locs L hL hP hD hS)
theorem mz_if_le {x o : Int} (X : mm_Cx p s m args c cc own nL Ts D E A) (hd : decode cc pc = .ok (.ifCond .le o, 3)) (ht : (pc : Int) + o = (tgt : Int)) (hx : InI x) (kt : x ≤ 0 → mm_Z p l e R s m args below meth c Qm nL D E Ad A tgt ls st M d u) (kf : 0 < x → mm_Z p l e R s m args below meth c Qm nL D E Ad A (pc + 3) ls st M d u) : mm_Z p l e R s m args below meth c Qm nL D E Ad A pc ls (mm_I x :: st) M d u :=
  have hy := mm_i0
  fun H locs L hL hP hD hS => lv_if_le X.1 X.2.1 hd ht (fun q => kt ((mm_le hx hy).mp q) H locs L hL hP hD hS) (fun q => kf (Int.not_le.mp fun h => q ((mm_le hx hy).mpr h)) H locs L hL hP hD hS)
end MZ
