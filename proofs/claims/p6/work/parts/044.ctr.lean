/-! runs by continuation; contracts -/
def mm_in (t : Nat) : List Nat → Bool
  | [] => false
  | a :: l => bif a == t then true else mm_in t l
def mm_hd : List mm_E → Nat
  | [] => 0
  | q :: _ => q.1
section MR
variable (F : Nat → Option (Nat × Nat)) (C : Nat → Option mm_Ca) (X0 : Nat → Nat → Nat → Option Nat) (LC : Nat → Option Int) (SC : Nat → Option (Nat × (Nat → Int32))) (rt mu : Nat) (hn : Nat → Nat → Option Nat) (Qr : mm_Q)
/-- from here the method comes to its end -/
def mm_run (cd : List mm_E) (pc : Nat) (ls : mm_Ls) (st : List mm_V) (M : mm_M) (d : List Nat) (u : Nat) : Prop :=
  ∀ Z : Nat → mm_K, (∀ pc i t rest ls st M d u Kn Kj, mm_at pc cd = (pc, i, t) :: rest → mm_op F C X0 LC SC rt mu hn Qr pc i t rest ls st M d u Kn Kj → (∀ ls st M d u, Kn ls st M d u → Z (pc + mm_len i) ls st M d u) → (∀ t ls st M d u, Kj t ls st M d u → Z t ls st M d u) → Z pc ls st M d u) → Z pc ls st M d u
def mm_nxt (stop : List Nat) (S : Nat → mm_K) (rest : List mm_E) (k : mm_K) : mm_K := fun ls st M d u => match rest with
  | [] => False
  | q :: _ => bif mm_in q.1 stop then S q.1 ls st M d u else k ls st M d u
def mm_jmp (stop : List Nat) (S : Nat → mm_K) (t : Nat) (k : mm_K) : mm_K := fun ls st M d u => bif mm_in t stop then S t ls st M d u else k ls st M d u
/-- symbolic steps up to the places of stop, where S must hold -/
def mm_wp (cd : List mm_E) (stop : List Nat) (S : Nat → mm_K) : Nat → List mm_E → mm_K
  | 0, _, _, _, _, _, _ => False
  | _ + 1, [], _, _, _, _, _ => False
  | n + 1, (pc, i, t) :: rest, ls, st, M, d, u => mm_op F C X0 LC SC rt mu hn Qr pc i t rest ls st M d u (mm_nxt stop S rest (mm_wp cd stop S n rest)) (fun t => mm_jmp stop S t (mm_wp cd stop S n (mm_at t cd)))
end MR
theorem mm_len1 (i : Instr) : 1 ≤ mm_len i := by
  unfold mm_len
  split <;> decide
theorem mm_chk_lt {b : ByteArray} : ∀ (l : List mm_E) (q : mm_E), mm_chk b (q :: l) = true → ∀ x ∈ l, q.1 < x.1
  | [], q, h, x, hx => by cases hx
  | y :: l, (pc, i, t), h, x, hx => by
    obtain ⟨h1, h2, h3, h4⟩ := mm_chk_cons h
    have h5 : y.1 = pc + mm_len i := eq_of_beq h3
    have h6 := mm_len1 i
    rcases List.mem_cons.mp hx with rfl | hx
    · show pc < x.1
      omega
    · have := mm_chk_lt l y h4 x hx
      show pc < x.1
      omega
theorem mm_chk_app {b : ByteArray} : ∀ (pre : List mm_E) (l : List mm_E), mm_chk b (pre ++ l) = true → mm_chk b l = true
  | [], l, h => h
  | (pc, i, t) :: pre, l, h => mm_chk_app pre l (mm_chk_cons h).2.2.2
theorem mm_at_app {b : ByteArray} : ∀ (pre : List mm_E) (q : mm_E) (l : List mm_E), mm_chk b (pre ++ q :: l) = true → mm_at q.1 (pre ++ q :: l) = q :: l
  | [], q, l, h => by simp [mm_at]
  | a :: pre, q, l, h => by
    have h1 := mm_chk_lt (pre ++ q :: l) a h q (by simp)
    have h2 : (a.1 == q.1) = false := by simp; omega
    simp only [List.cons_append, mm_at, h2, cond_false]
    obtain ⟨pc, i, t⟩ := a
    exact mm_at_app pre q l (mm_chk_cons h).2.2.2
theorem mm_at_suf (t : Nat) : ∀ cd : List mm_E, ∃ pre, cd = pre ++ mm_at t cd
  | [] => ⟨[], rfl⟩
  | q :: r => by
    simp only [mm_at]
    cases h : q.1 == t
    · obtain ⟨pre, e⟩ := mm_at_suf t r
      exact ⟨q :: pre, by simp only [cond_false, List.cons_append]; rw [← e]⟩
    · exact ⟨[], rfl⟩
theorem mm_at_hd (t : Nat) : ∀ (cd : List mm_E) (q : mm_E) (r : List mm_E), mm_at t cd = q :: r → q.1 = t
  | [], q, r, h => by simp [mm_at] at h
  | a :: l, q, r, h => by
    simp only [mm_at] at h
    cases e : a.1 == t
    · rw [e] at h
      exact mm_at_hd t l q r h
    · rw [e] at h
      simp only [cond_true, List.cons.injEq] at h
      rw [← h.1]
      exact eq_of_beq e
section MR2
variable {F : Nat → Option (Nat × Nat)} {C : Nat → Option mm_Ca} {X0 : Nat → Nat → Nat → Option Nat} {LC : Nat → Option Int} {SC : Nat → Option (Nat × (Nat → Int32))} {rt mu : Nat} {hn : Nat → Nat → Option Nat} {Qr : mm_Q}
theorem mm_run_wp {b : ByteArray} {cd : List mm_E} {stop : List Nat} {S : Nat → mm_K} (hk : mm_chk b cd = true) (hS : ∀ t ls st M d u, mm_in t stop = true → S t ls st M d u → mm_run F C X0 LC SC rt mu hn Qr cd t ls st M d u) :
    ∀ (n : Nat) (l : List mm_E), (∃ pre, cd = pre ++ l) → ∀ ls st M d u, mm_wp F C X0 LC SC rt mu hn Qr cd stop S n l ls st M d u → mm_run F C X0 LC SC rt mu hn Qr cd (mm_hd l) ls st M d u
  | 0, l, hs, ls, st, M, d, u, h => by simp [mm_wp] at h
  | n + 1, [], hs, ls, st, M, d, u, h => by simp [mm_wp] at h
  | n + 1, (pc, i, t) :: rest, ⟨pre, hs⟩, ls, st, M, d, u, h => by
    intro Z hZ
    have hk' := hk
    rw [hs] at hk'
    have hat : mm_at pc cd = (pc, i, t) :: rest := by
      rw [hs]
      exact mm_at_app pre (pc, i, t) rest hk'
    refine hZ pc i t rest ls st M d u _ _ hat h (fun ls st M d u h1 => ?_) (fun t ls st M d u h1 => ?_)
    · cases rest with
      | nil => exact h1.elim
      | cons q r =>
        have hq : q.1 = pc + mm_len i := eq_of_beq (mm_chk_cons (mm_chk_app pre _ hk')).2.2.1
        rw [← hq]
        simp only [mm_nxt] at h1
        cases e : mm_in q.1 stop
        · rw [e] at h1
          exact mm_run_wp hk hS n (q :: r) ⟨pre ++ [(pc, i, t)], by rw [hs]; simp⟩ ls st M d u h1 Z hZ
        · rw [e] at h1
          exact hS _ _ _ _ _ _ e h1 Z hZ
    · simp only [mm_jmp] at h1
      cases e : mm_in t stop
      · rw [e] at h1
        simp only [cond_false] at h1
        cases ha : mm_at t cd with
        | nil =>
          rw [ha] at h1
          cases n <;> simp [mm_wp] at h1
        | cons q r =>
          rw [ha] at h1
          have h2 := mm_run_wp hk hS n (q :: r) (by have := mm_at_suf t cd; rw [ha] at this; exact this) ls st M d u h1 Z hZ
          have h3 : q.1 = t := mm_at_hd t cd q r ha
          rw [← h3]
          exact h2
      · rw [e] at h1
        exact hS _ _ _ _ _ _ e h1 Z hZ
/-- from the place pc on -/
theorem mm_run_at {b : ByteArray} {cd : List mm_E} {stop : List Nat} {S : Nat → mm_K} {pc : Nat} {ls : mm_Ls} {st : List mm_V} {M : mm_M} {d : List Nat} {u : Nat} (hk : mm_chk b cd = true) (n : Nat)
    (h : mm_wp F C X0 LC SC rt mu hn Qr cd stop S n (mm_at pc cd) ls st M d u) (hS : ∀ t ls st M d u, mm_in t stop = true → S t ls st M d u → mm_run F C X0 LC SC rt mu hn Qr cd t ls st M d u) : mm_run F C X0 LC SC rt mu hn Qr cd pc ls st M d u := by
  have h1 := mm_run_wp hk hS n (mm_at pc cd) (mm_at_suf pc cd) ls st M d u h
  cases ha : mm_at pc cd with
  | nil =>
    rw [ha] at h
    cases n <;> simp [mm_wp] at h
  | cons q r =>
    rw [ha] at h1
    have h3 : q.1 = pc := mm_at_hd pc cd q r ha
    rw [← h3]
    exact h1
end MR2
/-- good words alone: a call's words -/
def mm_T : List Jvm.Cond := lw_tbl.filter goodWord
def mm_strs : List (Nat × String) := [(344, "no such walk"), (352, "no such corner"), (354, "no such street"), (356, "no such place"), (360, "a number out of its range")]
/-- the system's private methods that texts reach -/
def mm_prv : List MethodName := [⟨"java/lang/AbstractStringBuilder", "ensureCapacityInternal", "(I)V"⟩, ⟨"java/lang/AbstractStringBuilder", "newCapacity", "(I)I"⟩, ⟨"java/lang/AbstractStringBuilder", "putStringAt", "(ILjava/lang/String;)V"⟩, ⟨"java/lang/AbstractStringBuilder", "inflateIfNeededFor", "(Ljava/lang/String;)V"⟩]
/-- words that aren't good ones, but stay -/
def mm_nw : List Jvm.Cond := mm_prv.map (fun y => .selects RXB y y) ++ [.castable "java/lang/IndexOutOfBoundsException" "java/lang/IndexOutOfBoundsException", .castable "java/lang/IllegalArgumentException" "java/lang/IllegalArgumentException", .methodLinkNest RX1 46 yX3_powerOf RX3, .methodLinkNest RL 139 yX4_init RL, .fieldLinkNest RL 13 RX4 "n" "J" RL, .fieldLinkNest RL 116 RX4 "s" "Ljava/lang/String;" RL, .declares (Bundle.initS "java/lang/RuntimeException"), .declares (Bundle.initS "java/lang/Exception"), .declares (Bundle.initS "java/lang/Throwable"), .castable "[B" "java/lang/Cloneable"]
def mm_U : List Jvm.Cond := mm_T ++ mm_nw
theorem mm_T_U : ∀ w ∈ mm_T, w ∈ mm_U := fun _ h => List.mem_append_left _ h
theorem mm_nw_warm {s U : State} (hW : s.WarmedH U.vm) (h : ∀ w ∈ mm_nw, va_Nw w s) : ∀ w ∈ mm_nw, va_Nw w U := by
  intro w hw
  have h1 := h w hw
  rcases List.mem_append.mp hw with hw | hw
  · obtain ⟨y, -, rfl⟩ := List.mem_map.mp hw
    exact word_at hW (Or.inl rfl) h1
  simp only [List.mem_cons, List.not_mem_nil, or_false] at hw
  rcases hw with rfl | rfl | rfl | rfl | rfl | rfl | rfl | rfl | rfl | rfl
  · exact va_Nw.warmC hW h1
  · exact va_Nw.warmC hW h1
  · exact va_Nw.warmM hW h1
  · exact va_Nw.warmM hW h1
  · exact va_Nw.warmF hW h1
  · exact va_Nw.warmF hW h1
  · exact va_Nw.warmD hW h1
  · exact va_Nw.warmD hW h1
  · exact va_Nw.warmD hW h1
  · exact va_Nw.warmC hW h1
theorem mm_nw_ot : ∀ w ∈ mm_nw, w.onTables = true := by decide +kernel
/-- the ground that every method stands on -/
def mm_G (A : Nat → Prop) (D : va_G) (E : mm_En) (Ad : Nat → Nat) (U : State) : Prop :=
  va_K D mm_cl (mm_ty E) U ∧ vx_Zq Bundle.tN "UNASSIGNED_STACK" Bundle.steD A U U.heap ∧ vx_Zq Bundle.tN "SUPPRESSED_SENTINEL" Bundle.listD A U U.heap ∧ (∀ q ∈ mm_strs, ∃ sa, vk_R RX3 q.1 q.2 sa U) ∧ (∀ w ∈ mm_nw, va_Nw w U) ∧ va_Nc "java/lang/IllegalArgumentException" "java/lang/IndexOutOfBoundsException" U ∧ va_Nc "java/lang/IndexOutOfBoundsException" "java/lang/IllegalArgumentException" U ∧ mm_J A Ad U
theorem mm_G.to {A A1 : Nat → Prop} {D : va_G} {E : mm_En} {Ad : Nat → Nat} {s U : State} {H : Heap} (h : mm_G A D E Ad s) (hW : s.WarmedH U.vm) (hH : U.heap = H) (hq : ∀ q, q < s.heap.size → ¬ A q → H[q]? = s.heap[q]?) (hA : ∀ q, A1 q → A q) : mm_G A1 D E Ad U := by
  obtain ⟨h1, h2, h3, h4, h5, h6, h7, h8⟩ := h
  refine ⟨va_K.moved hW.alike h1, ?_, ?_, fun q hq => ?_, mm_nw_warm hW h5, h6.moved hW.alike, h7.moved hW.alike, h8.to hW hH hq hA⟩
  · rw [hH]; exact (vx_Zq.moved hW.alike (h2.kept hq)).narrow hA
  · rw [hH]; exact (vx_Zq.moved hW.alike (h3.kept hq)).narrow hA
  · obtain ⟨sa, h⟩ := h4 q hq
    exact ⟨sa, vk_R.warm hW h⟩
def mm_B (D : va_G) (E : mm_En) (Ad : Nat → Nat) (sz : Nat) (M : mm_M) (d : List Nat) (U : State) : Prop :=
  U.heap.size = sz ∧ va_P D mm_cl (mm_ws E Ad M d) U.heap ∧ va_D (fun _ => True) (mm_ws E Ad M d) ∧ mm_G (va_A (mm_ws E Ad M d) sz) D E Ad U
def mm_xn (k : Nat) : String := if k = 0 then "java/lang/IndexOutOfBoundsException" else "java/lang/IllegalArgumentException"
def mm_Qc (D : va_G) (E : mm_En) (Ad : Nat → Nat) (A : Nat → Prop) (Q : mm_Q) : Array Value → State → Outcome → State → Prop := fun _ st oc t =>
  (∃ (r : Option mm_V) (M' : mm_M) (d' : List Nat), Q (.inl r) M' d' ∧ oc = .returned (r.map (mm_cc Ad)) ∧ va_P D mm_cl (mm_ws E Ad M' d') t.heap ∧ va_D A (mm_ws E Ad M' d')) ∧ va_F A st t
def mm_XC (D : va_G) (E : mm_En) (Ad : Nat → Nat) (A : Nat → Prop) (Q : mm_Q) : String → State → State → Prop := fun En st t =>
  (∃ (k : Nat) (M' : mm_M) (d' : List Nat), Q (.inr k) M' d' ∧ En = mm_xn k ∧ va_P D mm_cl (mm_ws E Ad M' d') t.heap ∧ va_D A (mm_ws E Ad M' d')) ∧ va_F A st t
/-- the word of a method's code: plain, or with a table of handlers -/
def mm_cw (y : MethodName) (b : ByteArray) (maxL : Nat) (ret : Option FieldType) (hh : List (Nat × Nat × Nat × Nat)) : Jvm.Cond := match hh with
  | [] => .code y b maxL ret
  | _ => .codeWith y b maxL ret hh
def mm_rm (fr lo mu : Nat) : Room := { frames := fr, cells := mu, slots := 12 * mu, locals := lo }
/-- a method's contract: whatever sp lets one conclude holds of its end -/
def mm_Met (l : Launch) (y : MethodName) (b : ByteArray) (maxL : Nat) (ret : Option FieldType) (hh : List (Nat × Nat × Nat × Nat)) (fr lo mu : Nat) (sp : mm_S) : Prop :=
  ∀ (D : va_G) (E : mm_En) (Ad : Nat → Nat) (sz : Nat) (av : List mm_V) (M : mm_M) (d : List Nat) (Q : mm_Q), sp av M d Q →
    vx_Met l y (mm_cw y b maxL ret hh :: mm_T) (mm_rm fr lo mu) (va_Pc (av.map (mm_cc Ad)) (mm_B D E Ad sz M d)) (mm_Qc D E Ad (va_A (mm_ws E Ad M d) sz) Q) (mm_XC D E Ad (va_A (mm_ws E Ad M d) sz) Q) mu (12 * mu) (va_A (mm_ws E Ad M d) sz)
/-- a call that never throws, of a method of the system's: what it does to this frame -/
def mm_sem (l : Launch) (own : String) (fr lo idx : Nat) (ca : mm_Ca) : Prop :=
  ∀ {p : Program} {e : Env} {R : Room} {s : State} {m : MethodId} {args : Array Value} {below : List Frame} {meth : Method} {c : Code} {Qm : State → Prop} {cc : ByteArray} {nL : Nat} {D : va_G} {E : mm_En} {Ad : Nat → Nat} {A : Nat → Prop} {mu : Nat},
    mm_Cx p s m args c cc own nL mm_U D E A → mm_G A D E Ad s → (mu ≤ R.cells ∧ 12 * mu ≤ R.slots) → fr ≤ R.frames → lo ≤ R.locals →
    ∀ (pc : Nat) (ls : mm_Ls) (st : List mm_V) (M : mm_M) (d : List Nat) (u : Nat) (Kn : mm_K) (QX : Nat → mm_M → List Nat → Prop), decode cc pc = .ok (mm_iv ca.1 idx, 3) → ca.2.1 ≤ st.length → mm_rv st ca.2.1 ca.2.2.1 M d → mm_cats (st.drop ca.2.1) ≤ 8 → u + ca.2.2.2.2 ≤ mu →
      ca.2.2.2.1 (st.take ca.2.1).reverse M d (fun o M' d' => match o with
        | .inl r => Kn ls (mm_push r (st.drop ca.2.1)) M' d' (u + ca.2.2.2.2)
        | .inr k => QX k M' d') →
      (∀ ls st M d u, Kn ls st M d u → mm_Z p l e R s m args below meth c Qm nL D E Ad A (pc + 3) ls st M d u) → mm_Z p l e R s m args below meth c Qm nL D E Ad A pc ls st M d u
/-- the words that a call by the pool's entry idx needs; y's own are among the tables' -/
def mm_PE (l : Launch) (own : String) (Ts : List Jvm.Cond) (R : Room) (idx : Nat) (ca : mm_Ca) : Prop :=
  (Ts = mm_U ∧ mm_sem l own R.frames R.locals idx ca) ∨
  ∃ (y : MethodName) (b : ByteArray) (maxL : Nat) (ret : Option FieldType) (hh : List (Nat × Nat × Nat × Nat)) (fr lo : Nat) (T : u_T) (N : Nat), mm_Met l y b maxL ret hh fr lo ca.2.2.2.2 ca.2.2.2.1 ∧
    mm_cw y b maxL ret hh ∈ mm_T ∧ Jvm.Cond.initialized y.cls ∈ Ts ∧ (y.cls ≠ "java/lang/invoke/MethodHandle" ∧ y.cls ≠ "java/lang/invoke/VarHandle") ∧ fr + 1 ≤ R.frames ∧ 8 + (maxL + 11) + lo ≤ R.locals ∧
    (Jvm.Cond.methodLink own idx y ∈ Ts ∨ (hh = [] ∧ ∃ host, Jvm.Cond.methodLinkNest own idx y host ∈ Ts)) ∧ (∀ w ∈ mm_T, w ∈ Ts) ∧
    ((ca.1 = 0 ∧ hh = [] ∧ Jvm.Cond.instanceMethod y ∈ Ts ∧ Jvm.Cond.selects y.cls y y ∈ Ts ∧ 10 ≤ ca.2.2.1 ∧ mm_cl[ca.2.2.1 - 10]? = some (y.cls, T, N) ∧ (parseMethodDescriptor y.desc).map (fun d => d.parameters.length + 1) = some ca.2.1) ∨
     (ca.1 = 1 ∧ Jvm.Cond.static y ∈ Ts ∧ (parseMethodDescriptor y.desc).map (fun d => d.parameters.length) = some ca.2.1))
