/-! fields, rows, references; then one theorem over all steps -/
def mm_FL (own : String) (rc n idx : Nat) : Jvm.Cond := match mm_cl[rc - 10]? with
  | some (_, T, _) => .fieldLink own idx (T n).1 (T n).2.1 (T n).2.2.1
  | none => .initialized own
def mm_FN (own host : String) (rc n idx : Nat) : Jvm.Cond := match mm_cl[rc - 10]? with
  | some (_, T, _) => .fieldLinkNest own idx (T n).1 (T n).2.1 (T n).2.2.1 host
  | none => .initialized own
def mm_fk (ft : Nat) (ty : FieldType) (fin : Bool) : Bool :=
  match ft, ty with
  | 0, .int => !fin
  | 1, .boolean => !fin
  | 2, .long => !fin
  | 3, .object _ => !fin
  | 3, .array _ => !fin
  | 4, .object _ => !fin
  | 5, _ => fin
  | 6, _ => fin
  | 7, .byte => !fin
  | 8, .array _ => fin
  | 9, .byte => fin
  | _, _ => false
def mm_fk2 (q : Option (Nat × Nat)) (ty : FieldType) (fin : Bool) : Bool := match q with
  | some (ft, _) => mm_fk ft ty fin
  | none => false
def mm_cf (rc n ft : Nat) : Prop := ∃ (C : String) (T : u_T) (N : Nat) (t : Nat → FieldType), mm_cl[rc - 10]? = some (C, T, N) ∧ 10 ≤ rc ∧ n < N ∧ n < (mm_ft rc).length ∧ (∀ k, k < N → parseFieldDescriptor (T k).2.2.1 = some (t k)) ∧ (∀ a, a < N → ∀ b, b < N → a ≠ b → (T a).2.1 ≠ (T b).2.1) ∧ mm_fk ft (t n) (T n).2.2.2 = true
theorem mm_cls (rc n ft base : Nat) (h : mm_nth (mm_ft rc) n = some (ft, base)) : mm_cf rc n ft := by
  have hl := mm_nth_lt h
  match rc, h, hl with
  | 10, h, hl =>
    have h1 := (by decide +kernel : ∀ n, n < 7 → mm_fk2 (mm_nth (mm_ft 10) n) (tyX3 n) (TX3 n).2.2.2 = true) n hl
    rw [h] at h1
    exact ⟨_, _, _, tyX3, rfl, by decide, hl, hl, tyX3_ok, nmX3, h1⟩
  | 11, h, hl =>
    have h1 := (by decide +kernel : ∀ n, n < 8 → mm_fk2 (mm_nth (mm_ft 11) n) (tyX1 n) (TX1 n).2.2.2 = true) n hl
    rw [h] at h1
    exact ⟨_, _, _, tyX1, rfl, by decide, hl, hl, tyX1_ok, nmX1, h1⟩
  | 12, h, hl =>
    have h1 := (by decide +kernel : ∀ n, n < 4 → mm_fk2 (mm_nth (mm_ft 12) n) (tyX2 n) (TX2 n).2.2.2 = true) n hl
    rw [h] at h1
    exact ⟨_, _, _, tyX2, rfl, by decide, hl, hl, tyX2_ok, nmX2, h1⟩
  | 13, h, hl =>
    have h1 := (by decide +kernel : ∀ n, n < 5 → mm_fk2 (mm_nth (mm_ft 13) n) (tyX0 n) (TX0 n).2.2.2 = true) n hl
    rw [h] at h1
    exact ⟨_, _, _, tyX0, rfl, by decide, hl, hl, tyX0_ok, nmX0, h1⟩
  | 14, h, hl =>
    have h1 := (by decide +kernel : ∀ n, n < 17 → mm_fk2 (mm_nth (mm_ft 14) n) (tyX5 n) (TX5 n).2.2.2 = true) n hl
    rw [h] at h1
    exact ⟨_, _, _, tyX5, rfl, by decide, hl, hl, tyX5_ok, nmX5, h1⟩
  | 15, h, hl =>
    have h1 := (by decide +kernel : ∀ n, n < 2 → mm_fk2 (mm_nth (mm_ft 15) n) (tyX4 n) (TX4 n).2.2.2 = true) n hl
    rw [h] at h1
    exact ⟨_, _, _, tyX4, rfl, by decide, hl, hl, tyX4_ok, nmX4, h1⟩
  | 16, h, hl =>
    have h1 := (by decide +kernel : ∀ n, n < 4 → mm_fk2 (mm_nth (mm_ft 16) n) (tyXB n) (TXB n).2.2.2 = true) n hl
    rw [h] at h1
    exact ⟨_, _, _, tyXB, rfl, by decide, hl, hl, tyXB_ok, nmXB, h1⟩
  | 17, h, hl =>
    have h1 := (by decide +kernel : ∀ n, n < 4 → mm_fk2 (mm_nth (mm_ft 17) n) (tyXS n) (TXS n).2.2.2 = true) n hl
    rw [h] at h1
    exact ⟨_, _, _, tyXS, rfl, by decide, hl, hl, tyXS_ok, nmXS, h1⟩
  | 0, h, hl => simp [mm_ft] at hl
  | 1, h, hl => simp [mm_ft] at hl
  | 2, h, hl => simp [mm_ft] at hl
  | 3, h, hl => simp [mm_ft] at hl
  | 4, h, hl => simp [mm_ft] at hl
  | 5, h, hl => simp [mm_ft] at hl
  | 6, h, hl => simp [mm_ft] at hl
  | 7, h, hl => simp [mm_ft] at hl
  | 8, h, hl => simp [mm_ft] at hl
  | 9, h, hl => simp [mm_ft] at hl
  | rc + 18, h, hl => simp [mm_ft] at hl
theorem mm_el_obj {E : mm_En} {Ad : Nat → Nat} {M : mm_M} {o rc : Nat} (h : mm_kd M o = rc) (h10 : 10 ≤ rc) : mm_el E Ad M o = .inr (rc - 10, mm_fs Ad M o (mm_ft rc)) := by
  obtain ⟨k, rfl⟩ : ∃ k, rc = k + 10 := ⟨rc - 10, by omega⟩
  simp only [mm_el, h]
theorem mm_nth_eq {α : Type} : ∀ (l : List α) (n : Nat), mm_nth l n = l[n]?
  | [], n => by simp [mm_nth]
  | a :: l, 0 => by simp [mm_nth]
  | a :: l, n + 1 => by simp [mm_nth, mm_nth_eq l n]
theorem mm_fs_get {Ad : Nat → Nat} {M : mm_M} {o n ft base : Nat} {l : List (Nat × Nat)} (h : mm_nth l n = some (ft, base)) : (mm_fs Ad M o l)[n]? = some (mm_cc Ad (mm_fv ft base o (M o n))) := by
  rw [mm_nth_eq] at h
  simp [mm_fs, List.getElem?_mapIdx, h]
theorem mm_fs_set {Ad : Nat → Nat} {M : mm_M} {o n ft base : Nat} {x : Int} {l : List (Nat × Nat)} {v : Value} (h : mm_nth l n = some (ft, base)) (hv : v = mm_cc Ad (mm_fv ft base o x)) : (mm_fs Ad M o l).set n v = mm_fs Ad (mm_up M o n x) o l := by
  rw [mm_nth_eq] at h
  have hlt := (List.getElem?_eq_some_iff.mp h).1
  apply List.ext_getElem?
  intro k
  by_cases hk : k = n
  · subst hk
    rw [List.getElem?_set_self (by simpa [mm_fs] using hlt)]
    simp [mm_fs, List.getElem?_mapIdx, h, mm_up, hv]
  · rw [List.getElem?_set_ne (Ne.symm hk)]
    simp [mm_fs, List.getElem?_mapIdx, mm_up, hk]
theorem mm_up_o {M : mm_M} {o n : Nat} {x : Int} : ∀ y, y ≠ o → mm_up M o n x y = M y := by
  intro y hy
  funext k
  simp [mm_up, hy]
theorem mm_is0 {M : mm_M} {d : List Nat} {o rc : Nat} (h : mm_is M d o (rc + 1)) : o ≠ 0 := by
  intro e
  subst e
  have h1 : mm_kd M 0 = rc + 1 := h.1
  have h2 : mm_kd M 0 = 0 := rfl
  omega
section MZ
variable {p : Program} {l : Launch} {e : Env} {R : Room} {s : State} {m : MethodId} {args : Array Value} {below : List Frame} {meth : Method} {c : Code} {Qm : State → Prop}
variable {cc : ByteArray} {own : String} {nL : Nat} {Ts : List Jvm.Cond} {D : va_G} {E : mm_En} {Ad : Nat → Nat} {A : Nat → Prop}
variable {pc tgt : Nat} {ls : mm_Ls} {st : List mm_V} {M : mm_M} {d : List Nat} {u : Nat}
/-- a field's link: plain, or of a nest mate -/
def mm_lk (own : String) (Ts : List Jvm.Cond) (rc n idx : Nat) : Prop := mm_FL own rc n idx ∈ Ts ∨ ∃ host, mm_FN own host rc n idx ∈ Ts
def mm_rcn (rc : Nat) : String := if rc = 16 then RXB else RXS
def mm_sn (c : Nat) : String × String × String := if c = 0 then (RXS, "COMPACT_STRINGS", "Z") else if c = 24 then ("java/lang/Integer", "DigitOnes", "[B") else ("java/lang/Integer", "DigitTens", "[B")
def mm_acW (own : String) (k : Nat) : List Jvm.Cond := [.methodLink own k arraycopyName, .native arraycopyName, .static arraycopyName, .initialized "java/lang/System"]
def mm_clW (own : String) (k : Nat) : List Jvm.Cond := [.methodLink own k ⟨"[B", "clone", "()Ljava/lang/Object;"⟩, .sameMethod "[B" "java/lang/Object" "clone" "()Ljava/lang/Object;", .native ⟨"java/lang/Object", "clone", "()Ljava/lang/Object;"⟩, .instanceMethod ⟨"java/lang/Object", "clone", "()Ljava/lang/Object;"⟩, .selects "[B" ⟨"[B", "clone", "()Ljava/lang/Object;"⟩ ⟨"java/lang/Object", "clone", "()Ljava/lang/Object;"⟩]
/-- the words of the other entries of a pool: 99 a class that is made, 98 a static field, 97 a text, 96 a number, 95 arraycopy, 94 a row's clone, 93 a cast to byte rows, 92 a text's field, 91 the same as it is made, 90 Object's constructor -/
def mm_wk (own : String) (rc n k : Nat) : List Jvm.Cond := match n with
  | 99 => [.classLink own k (mm_rcn rc), .instantiable (mm_rcn rc) 4, .initialized (mm_rcn rc)]
  | 98 => [.fieldLink own k (mm_sn rc).1 (mm_sn rc).2.1 (mm_sn rc).2.2]
  | 96 => [.constant own k (if rc = 0 then 2147483639 else 2147483647)]
  | 95 => mm_acW own k
  | 94 => mm_clW own k
  | 93 => [.classLink own k "[B"]
  | 92 => [.fieldLink own k RXS (TXS (if rc = 0 then 0 else 1)).2.1 (TXS (if rc = 0 then 0 else 1)).2.2.1]
  | 91 => [.fieldLink own k RXS (TXS rc).2.1 (TXS rc).2.2.1]
  | 90 => [.methodLink own k Lib.objectInit, .instanceMethod Lib.objectInit, .code Lib.objectInit ⟨#[0xb1]⟩ 1 none]
  | _ => []
/-- a pool's entry: a field's link, or another's words -/
def mm_lj (own : String) (Ts : List Jvm.Cond) (rc n idx : Nat) : Prop := (n < 90 ∧ mm_lk own Ts rc n idx) ∨ (90 ≤ n ∧ (∀ w ∈ mm_wk own rc n idx, w ∈ Ts) ∧ (n = 97 → (rc = 0 ∧ ((own = RX3 ∧ idx = 240) ∨ (own = RX5 ∧ idx = 216))) ∨ (rc = 28 ∧ own = RX5 ∧ idx = 221)) ∧ (n = 91 → own = RXS))
theorem mz_getf {k rc n ft base o : Nat} (X : mm_Cx p s m args c cc own nL Ts D E A) (hd : decode cc pc = .ok (.getfield k, 3)) (hk : mm_lk own Ts rc n k) (hf : mm_nth (mm_ft rc) n = some (ft, base)) (ho : mm_is M d o rc)
    (kk : mm_Z p l e R s m args below meth c Qm nL D E Ad A (pc + 3) ls (mm_fv ft base o (M o n) :: st) M d u) : mm_Z p l e R s m args below meth c Qm nL D E Ad A pc ls (mm_R o :: st) M d u := by
  intro H locs L hL hP hD hS
  obtain ⟨C, T, N, t, hc, h10, hn, hn2, hty, hnm, hfk⟩ := mm_cls rc n ft base hf
  obtain ⟨q0, hq, hw⟩ := mm_idx (E := E) (Ad := Ad) (M := M) ho.2
  rw [mm_el_obj ho.1 h10] at hw
  have hne : o ≠ 0 := by
    obtain ⟨k', rfl⟩ : ∃ k', rc = k' + 1 := ⟨rc - 1, by omega⟩
    exact mm_is0 ho
  have hin := X.2.2.2.2.2.2.2 _ (List.mem_of_getElem? hc)
  have e1 : mm_cc Ad (mm_R o) = .ref (mm_ad Ad o) := by simp only [mm_cc, mm_rn, hne, if_false, va_rf]
  rw [List.map_cons, e1]
  have hsame : ∀ x, s.fieldFound? (T n).1 (T n).2.1 (T n).2.2.1 = some x → s.fieldFound? (T n).1 (T n).2.1 (T n).2.2.1 = some x := fun x h => h
  rcases hk with hk | ⟨host, hk⟩
  · simp only [mm_FL, hc] at hk
    exact va_get X.1 X.2.1 X.2.2.2.2.1 hin X.2.2.2.1 X.2.2.2.2.2.1 hP q0 hw hc n hn (X.2.2.2.2.1 _ hk) hsame (mm_fs_get hf) hd (kk H locs L hL hP hD hS)
  · simp only [mm_FN, hc] at hk
    exact va_getN X.1 X.2.1 X.2.2.2.2.1 hin X.2.2.2.1 X.2.2.2.2.2.1 hP q0 hw hc n hn (X.2.2.2.2.1 _ hk) hsame (mm_fs_get hf) hd (kk H locs L hL hP hD hS)
/-- what may be stored in a field -/
theorem mm_pfit {ft base o : Nat} {v : mm_V} {ty : FieldType} {K : Int → Prop} (h : mm_pf ft v K) (hk : mm_fk ft ty false = true) : ∃ x, K x ∧ mm_cc Ad v = mm_cc Ad (mm_fv ft base o x) ∧ narrow ty (mm_cc Ad v) = mm_cc Ad v ∧ fits ty (mm_cc Ad v) = true := by
  unfold mm_pf at h
  split at h
  · rename_i x
    cases ty <;> simp [mm_fk] at hk
    exact ⟨x, h, rfl, rfl, rfl⟩
  · rename_i x
    cases ty <;> simp [mm_fk] at hk
    refine ⟨x, h.2, rfl, ?_, ?_⟩ <;> rcases h.1 with rfl | rfl <;> simp only [mm_cc] <;> decide
  · rename_i x
    cases ty <;> simp [mm_fk] at hk
    exact ⟨x, h, rfl, rfl, rfl⟩
  · rename_i o'
    cases ty <;> simp [mm_fk] at hk
    all_goals (refine ⟨(o' : Int), h, by simp [mm_fv], ?_, ?_⟩ <;> simp only [mm_cc] <;> cases mm_rn Ad o' <;> rfl)
  · rename_i q
    cases ty <;> simp [mm_fk] at hk
    refine ⟨(q : Int) + 1, h, ?_, rfl, rfl⟩
    simp only [mm_fv]
    rw [if_neg (by omega), show ((q : Int) + 1 - 1).toNat = q by omega]
  · rename_i x
    cases ty <;> simp [mm_fk] at hk
    obtain ⟨rfl, h⟩ := h
    exact ⟨0, h, rfl, rfl, rfl⟩
  · exact h.elim
theorem mm_pff {ft : Nat} {v : mm_V} {ty : FieldType} {fin : Bool} {K : Int → Prop} (h : mm_pf ft v K) (hk : mm_fk ft ty fin = true) : fin = false := by
  unfold mm_pf at h
  split at h <;> first | exact h.elim | (cases ty <;> simp_all [mm_fk])
theorem mz_putf {k rc n ft base o : Nat} {v : mm_V} (X : mm_Cx p s m args c cc own nL Ts D E A) (hd : decode cc pc = .ok (.putfield k, 3)) (hk : mm_lk own Ts rc n k) (hf : mm_nth (mm_ft rc) n = some (ft, base)) (ho : mm_is M d o rc)
    (kk : mm_pf ft v (fun x => mm_Z p l e R s m args below meth c Qm nL D E Ad A (pc + 3) ls st (mm_up M o n x) d u)) : mm_Z p l e R s m args below meth c Qm nL D E Ad A pc ls (v :: mm_R o :: st) M d u := by
  intro H locs L hL hP hD hS
  obtain ⟨C, T, N, t, hc, h10, hn, hn2, hty, hnm, hfk⟩ := mm_cls rc n ft base hf
  have hfin := mm_pff kk hfk
  rw [hfin] at hfk
  obtain ⟨x, hx, he, h1, h2⟩ := mm_pfit (Ad := Ad) (base := base) (o := o) kk hfk
  obtain ⟨q0, hq, hw⟩ := mm_idx (E := E) (Ad := Ad) (M := M) ho.2
  have hne : o ≠ 0 := by
    obtain ⟨k', rfl⟩ : ∃ k', rc = k' + 1 := ⟨rc - 1, by omega⟩
    exact mm_is0 ho
  have hw0 := mm_wset (M' := mm_up M o n x) hD hq hne mm_up_o
  have hkd : mm_kd (mm_up M o n x) o = rc := by rw [(mm_kd_up (M := M) (o' := o) hne mm_up_o).1]; exact ho.1
  rw [mm_el_obj hkd h10, ← mm_fs_set hf he] at hw0
  rw [mm_el_obj ho.1 h10] at hw
  have hin := X.2.2.2.2.2.2.2 _ (List.mem_of_getElem? hc)
  have e1 : mm_cc Ad (mm_R o) = .ref (mm_ad Ad o) := by simp only [mm_cc, mm_rn, hne, if_false, va_rf]
  rw [List.map_cons, List.map_cons, e1]
  have hsame : ∀ x, s.fieldFound? (T n).1 (T n).2.1 (T n).2.2.1 = some x → s.fieldFound? (T n).1 (T n).2.1 (T n).2.2.1 = some x := fun x h => h
  have hlen : n < (mm_fs Ad M o (mm_ft rc)).length := by simpa [mm_fs] using hn2
  rcases hk with hk | ⟨host, hk⟩
  · simp only [mm_FL, hc] at hk
    refine va_put X.1 X.2.1 X.2.2.2.2.1 hin t hty hnm X.2.2.2.1 X.2.2.2.2.2.1 hP hD hS q0 hw hc n hn (X.2.2.2.2.1 _ hk) hsame hfin (hty n hn) h1 h2 hlen hd (fun H1 locs1 hP1 hD1 hS1 => ?_)
    rw [hw0] at hP1 hD1
    exact hx H1 locs1 L hL hP1 hD1 hS1
  · simp only [mm_FN, hc] at hk
    refine va_putN X.1 X.2.1 X.2.2.2.2.1 hin t hty hnm X.2.2.2.1 X.2.2.2.2.2.1 hP hD hS q0 hw hc n hn (X.2.2.2.2.1 _ hk) hsame hfin (hty n hn) h1 h2 hlen hd (fun H1 locs1 hP1 hD1 hS1 => ?_)
    rw [hw0] at hP1 hD1
    exact hx H1 locs1 L hL hP1 hD1 hS1
theorem mm_ref {o : Nat} (h : o ≠ 0) : mm_cc Ad (mm_R o) = .ref (mm_ad Ad o) := by simp only [mm_cc, mm_rn, h, if_false, va_rf]
theorem mz_iald {a : Int} {o : Nat} (X : mm_Cx p s m args c cc own nL Ts D E A) (hd : decode cc pc = .ok (.iaload, 1)) (ho : mm_is M d o 1) (ha : 0 ≤ a ∧ a < (mm_ln M o : Int)) (hn : mm_ln M o < 2147483648)
    (kk : mm_Z p l e R s m args below meth c Qm nL D E Ad A (pc + 1) ls (mm_I (M o a.toNat) :: st) M d u) : mm_Z p l e R s m args below meth c Qm nL D E Ad A pc ls (mm_I a :: mm_R o :: st) M d u := by
  intro H locs L hL hP hD hS
  obtain ⟨q0, hq, hw⟩ := mm_idx (E := E) (Ad := Ad) (M := M) ho.2
  obtain ⟨hin, hcl⟩ := mm_vin ha hn
  simp only [mm_el, ho.1] at hw
  rw [List.map_cons, List.map_cons, mm_ref (mm_is0 ho)]
  refine va_iald X.1 X.2.1 X.2.2.2.2.2.1 hP q0 0 hw rfl hin hd ?_
  rw [hcl]
  exact kk H locs L hL hP hD hS
theorem mz_iast {a x : Int} {o : Nat} (X : mm_Cx p s m args c cc own nL Ts D E A) (hd : decode cc pc = .ok (.iastore, 1)) (ho : mm_is M d o 1) (ha : 0 ≤ a ∧ a < (mm_ln M o : Int)) (hn : mm_ln M o < 2147483648)
    (kk : mm_Z p l e R s m args below meth c Qm nL D E Ad A (pc + 1) ls st (mm_up M o a.toNat x) d u) : mm_Z p l e R s m args below meth c Qm nL D E Ad A pc ls (mm_I x :: mm_I a :: mm_R o :: st) M d u := by
  intro H locs L hL hP hD hS
  obtain ⟨q0, hq, hw⟩ := mm_idx (E := E) (Ad := Ad) (M := M) ho.2
  obtain ⟨hin, hcl⟩ := mm_vin ha hn
  have hne := mm_is0 ho
  have hw0 := mm_wset (M' := mm_up M o a.toNat x) hD hq hne mm_up_o
  have hkd := mm_kd_up (M := M) (M' := mm_up M o a.toNat x) (o' := o) hne mm_up_o
  simp only [mm_el, ho.1] at hw
  simp only [mm_el, hkd.1, hkd.2, ho.1] at hw0
  rw [List.map_cons, List.map_cons, List.map_cons, mm_ref hne]
  refine va_iast X.1 X.2.1 X.2.2.2.2.2.1 hP hD hS q0 0 hw rfl hin hd (fun H1 locs1 hP1 hD1 hS1 => ?_)
  have hf : upd (fun j => Int32.ofInt (M o j)) (Int32.ofInt a).toNatClampNeg (Int32.ofInt x) = fun j => Int32.ofInt (mm_up M o a.toNat x o j) := by
    funext j
    rw [hcl]
    by_cases hj : j = a.toNat <;> simp [upd, mm_up, hj]
  rw [hf, hw0] at hP1 hD1
  exact kk H1 locs1 L hL hP1 hD1 hS1
theorem mz_aald {a : Int} {o : Nat} (X : mm_Cx p s m args c cc own nL Ts D E A) (hd : decode cc pc = .ok (.aaload, 1)) (ho : mm_is M d o 2) (ha : 0 ≤ a ∧ a < (mm_ln M o : Int)) (hn : mm_ln M o < 2147483648)
    (kk : mm_Z p l e R s m args below meth c Qm nL D E Ad A (pc + 1) ls (mm_R (8 + 2 * a.toNat) :: st) M d u) : mm_Z p l e R s m args below meth c Qm nL D E Ad A pc ls (mm_I a :: mm_R o :: st) M d u := by
  intro H locs L hL hP hD hS
  obtain ⟨q0, hq, hw⟩ := mm_idx (E := E) (Ad := Ad) (M := M) ho.2
  obtain ⟨hin, hcl⟩ := mm_vin ha hn
  simp only [mm_el, ho.1] at hw
  rw [List.map_cons, List.map_cons, mm_ref (mm_is0 ho)]
  refine va_aldq X.1 X.2.1 X.2.2.2.2.2.1 hP q0 2 hw rfl hin hd ?_
  rw [hcl]
  have h := kk H locs L hL hP hD hS
  rw [List.map_cons, mm_ref (by omega)] at h
  exact h
theorem mz_alen {o : Nat} (X : mm_Cx p s m args c cc own nL Ts D E A) (hd : decode cc pc = .ok (.arraylength, 1)) (ho : mm_is M d o 1 ∨ mm_is M d o 2) (hn : mm_ln M o < 2147483648)
    (kk : mm_Z p l e R s m args below meth c Qm nL D E Ad A (pc + 1) ls (mm_I (mm_ln M o : Int) :: st) M d u) : mm_Z p l e R s m args below meth c Qm nL D E Ad A pc ls (mm_R o :: st) M d u := by
  intro H locs L hL hP hD hS
  rcases ho with ho | ho
  all_goals
    obtain ⟨q0, hq, hw⟩ := mm_idx (E := E) (Ad := Ad) (M := M) ho.2
    simp only [mm_el, ho.1] at hw
    rw [List.map_cons, mm_ref (mm_is0 ho)]
  · exact va_alen X.1 X.2.1 X.2.2.2.2.2.1 hP q0 0 hw rfl (v := Int32.ofInt (mm_ln M o : Int)) (by rw [Int32.ofInt_eq_ofNat]) hd (kk H locs L hL hP hD hS)
  · exact va_alen X.1 X.2.1 X.2.2.2.2.2.1 hP q0 2 hw rfl (v := Int32.ofInt (mm_ln M o : Int)) (by rw [Int32.ofInt_eq_ofNat]) hd (kk H locs L hL hP hD hS)
theorem mm_rninj {a b : Nat} (hD : va_D A (mm_ws E Ad M d)) (ha : a = 0 ∨ a ∈ mm_ids d) (hb : b = 0 ∨ b ∈ mm_ids d) : mm_rn Ad a = mm_rn Ad b ↔ a = b := by
  constructor
  · intro h
    by_cases a0 : a = 0 <;> by_cases b0 : b = 0
    · rw [a0, b0]
    · simp [mm_rn, a0, b0] at h
    · simp [mm_rn, a0, b0] at h
    · obtain ⟨i, hi, hwi⟩ := mm_idx (E := E) (Ad := Ad) (M := M) (ha.resolve_left a0)
      obtain ⟨j, hj, hwj⟩ := mm_idx (E := E) (Ad := Ad) (M := M) (hb.resolve_left b0)
      simp only [mm_rn, a0, b0, if_false, Option.some.injEq] at h
      have e1 := hD.1 i j _ _ hwi hwj h
      subst e1
      exact Option.some.inj (hi.symm.trans hj)
  · intro h
    rw [h]
theorem mz_acmp_eq {a b : Nat} {o : Int} (X : mm_Cx p s m args c cc own nL Ts D E A) (hd : decode cc pc = .ok (.if_acmp .eq o, 3)) (ht : (pc : Int) + o = (tgt : Int)) (ha : a = 0 ∨ a ∈ mm_ids d) (hb : b = 0 ∨ b ∈ mm_ids d)
    (kt : a = b → mm_Z p l e R s m args below meth c Qm nL D E Ad A tgt ls st M d u) (kf : a ≠ b → mm_Z p l e R s m args below meth c Qm nL D E Ad A (pc + 3) ls st M d u) : mm_Z p l e R s m args below meth c Qm nL D E Ad A pc ls (mm_R b :: mm_R a :: st) M d u :=
  fun H locs L hL hP hD hS => lv_acmp_eq (rx := mm_rn Ad a) (ry := mm_rn Ad b) X.1 X.2.1 hd ht (fun q => kt ((mm_rninj hD ha hb).mp q) H locs L hL hP hD hS) (fun q => kf (fun z => q ((mm_rninj hD ha hb).mpr z)) H locs L hL hP hD hS)
theorem mz_acmp_ne {a b : Nat} {o : Int} (X : mm_Cx p s m args c cc own nL Ts D E A) (hd : decode cc pc = .ok (.if_acmp .ne o, 3)) (ht : (pc : Int) + o = (tgt : Int)) (ha : a = 0 ∨ a ∈ mm_ids d) (hb : b = 0 ∨ b ∈ mm_ids d)
    (kt : a ≠ b → mm_Z p l e R s m args below meth c Qm nL D E Ad A tgt ls st M d u) (kf : a = b → mm_Z p l e R s m args below meth c Qm nL D E Ad A (pc + 3) ls st M d u) : mm_Z p l e R s m args below meth c Qm nL D E Ad A pc ls (mm_R b :: mm_R a :: st) M d u :=
  fun H locs L hL hP hD hS => lv_acmp_ne (rx := mm_rn Ad a) (ry := mm_rn Ad b) X.1 X.2.1 hd ht (fun q => kt (fun z => q ((mm_rninj hD ha hb).mpr z)) H locs L hL hP hD hS) (fun q => kf ((mm_rninj hD ha hb).mp q) H locs L hL hP hD hS)
theorem mz_ifnull {a : Nat} {o : Int} (X : mm_Cx p s m args c cc own nL Ts D E A) (hd : decode cc pc = .ok (.ifnull o, 3)) (ht : (pc : Int) + o = (tgt : Int))
    (kt : a = 0 → mm_Z p l e R s m args below meth c Qm nL D E Ad A tgt ls st M d u) (kf : a ≠ 0 → mm_Z p l e R s m args below meth c Qm nL D E Ad A (pc + 3) ls st M d u) : mm_Z p l e R s m args below meth c Qm nL D E Ad A pc ls (mm_R a :: st) M d u := by
  intro H locs L hL hP hD hS
  by_cases h : a = 0
  · have e1 : mm_cc Ad (mm_R a) = .null := by simp only [mm_cc, mm_rn, h, if_true, va_rf]
    rw [List.map_cons, e1]
    exact lv_ifnullN X.1 X.2.1 hd ht (kt h H locs L hL hP hD hS)
  · rw [List.map_cons, mm_ref h]
    exact lv_ifnull X.1 X.2.1 hd (kf h H locs L hL hP hD hS)
theorem mz_ifnonnull {a : Nat} {o : Int} (X : mm_Cx p s m args c cc own nL Ts D E A) (hd : decode cc pc = .ok (.ifnonnull o, 3)) (ht : (pc : Int) + o = (tgt : Int))
    (kt : a ≠ 0 → mm_Z p l e R s m args below meth c Qm nL D E Ad A tgt ls st M d u) (kf : a = 0 → mm_Z p l e R s m args below meth c Qm nL D E Ad A (pc + 3) ls st M d u) : mm_Z p l e R s m args below meth c Qm nL D E Ad A pc ls (mm_R a :: st) M d u := by
  intro H locs L hL hP hD hS
  by_cases h : a = 0
  · have e1 : mm_cc Ad (mm_R a) = .null := by simp only [mm_cc, mm_rn, h, if_true, va_rf]
    rw [List.map_cons, e1]
    exact lv_ifnonnullN X.1 X.2.1 hd (kf h H locs L hL hP hD hS)
  · rw [List.map_cons, mm_ref h]
    exact lv_ifnonnull X.1 X.2.1 hd ht (kt h H locs L hL hP hD hS)
/-- the script's rows: known, never written -/
def mm_SX (s : State) (A : Nat → Prop) (SC : Nat → Option (Nat × (Nat → Int32))) : Prop := ∀ (q n : Nat) (xs : Nat → Int32), SC q = some (n, xs) → va_X q n xs s s.heap ∧ q < s.heap.size ∧ ¬ A q
theorem mz_sld {a : Int} {q n : Nat} {xs : Nat → Int32} {SC : Nat → Option (Nat × (Nat → Int32))} (X : mm_Cx p s m args c cc own nL Ts D E A) (hd : decode cc pc = .ok (.iaload, 1)) (hS0 : mm_SX s A SC) (hq : SC q = some (n, xs)) (ha : 0 ≤ a ∧ a < (n : Int)) (hn : n < 2147483648)
    (kk : mm_Z p l e R s m args below meth c Qm nL D E Ad A (pc + 1) ls (mm_I (xs a.toNat).toInt :: st) M d u) : mm_Z p l e R s m args below meth c Qm nL D E Ad A pc ls (mm_I a :: mm_X q :: st) M d u := by
  intro H locs L hL hP hD hS
  obtain ⟨hX, hb, hA⟩ := hS0 q n xs hq
  obtain ⟨hin, hcl⟩ := mm_vin ha hn
  refine va_sld X.1 X.2.1 hX hb hA hS hin hd ?_
  rw [hcl]
  have h := kk H locs L hL hP hD hS
  rw [List.map_cons] at h
  simp only [mm_cc, Int32.ofInt_toInt] at h
  exact h
theorem mz_slen {q n : Nat} {xs : Nat → Int32} {SC : Nat → Option (Nat × (Nat → Int32))} (X : mm_Cx p s m args c cc own nL Ts D E A) (hd : decode cc pc = .ok (.arraylength, 1)) (hS0 : mm_SX s A SC) (hq : SC q = some (n, xs))
    (kk : mm_Z p l e R s m args below meth c Qm nL D E Ad A (pc + 1) ls (mm_I (n : Int) :: st) M d u) : mm_Z p l e R s m args below meth c Qm nL D E Ad A pc ls (mm_X q :: st) M d u := by
  intro H locs L hL hP hD hS
  obtain ⟨hX, hb, hA⟩ := hS0 q n xs hq
  have h := kk H locs L hL hP hD hS
  rw [List.map_cons] at h
  simp only [mm_cc, Int32.ofInt_eq_ofNat] at h
  exact va_slen X.1 X.2.1 hX hb hA hS hd h
end MZ
