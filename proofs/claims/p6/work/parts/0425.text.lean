/-! steps that make objects, copy bytes, read the system's constants -/
/-- the system's constants: the flag of compact texts, the rows of digits, the texts that this code names -/
def mm_J (A : Nat → Prop) (Ad : Nat → Nat) (U : State) : Prop :=
  va_Z RXS "COMPACT_STRINGS" "Z" (.int 1) A U U.heap ∧
  (va_Z "java/lang/Integer" "DigitOnes" "[B" (.ref (Ad 24)) A U U.heap ∧ ∃ f : Nat → Int32, va_T .byte (Ad 24) 100 (fun j => .int (f j)) A U U.heap) ∧
  (va_Z "java/lang/Integer" "DigitTens" "[B" (.ref (Ad 25)) A U U.heap ∧ ∃ f : Nat → Int32, va_T .byte (Ad 25) 100 (fun j => .int (f j)) A U U.heap) ∧
  (∃ q, vk_R RX3 240 "" q U) ∧ (∃ q, vk_R RX5 216 "" q U) ∧
  vk_R RX5 221 "-" (Ad 28) U ∧ va_O RXS (Ad 28) A U U.heap ∧ va_OF RXS "coder" "B" (.int 0) (Ad 28) A U U.heap ∧ va_OF RXS "value" "[B" (.ref (Ad 29)) (Ad 28) A U U.heap ∧
  ∃ f : Nat → Int32, va_T .byte (Ad 29) 1 (fun j => .int (f j)) A U U.heap ∧ ∀ j, j < 1 → fits .byte (.int (f j)) = true
theorem mm_J.to {A A1 : Nat → Prop} {Ad : Nat → Nat} {s U : State} {H : Heap} (h : mm_J A Ad s) (hW : s.WarmedH U.vm) (hH : U.heap = H) (hq : ∀ q, q < s.heap.size → ¬ A q → H[q]? = s.heap[q]?) (hA : ∀ q, A1 q → A q) : mm_J A1 Ad U := by
  obtain ⟨h1, ⟨h2, f2, g2⟩, ⟨h3, f3, g3⟩, ⟨q4, h4⟩, ⟨q5, h5⟩, h6, h7, h8, h9, f10, g10, k10⟩ := h
  have vm := hW.alike
  subst hH
  exact ⟨(va_Z.moved vm (h1.kept hq)).narrow hA, ⟨(va_Z.moved vm (h2.kept hq)).narrow hA, f2, (va_T.moved vm (g2.kept hq)).narrow hA⟩, ⟨(va_Z.moved vm (h3.kept hq)).narrow hA, f3, (va_T.moved vm (g3.kept hq)).narrow hA⟩, ⟨q4, vk_R.warm hW h4⟩, ⟨q5, vk_R.warm hW h5⟩, vk_R.warm hW h6,
    (va_O.moved vm (h7.kept hq)).narrow hA, (va_OF.moved vm (h8.kept hq)).narrow hA, (va_OF.moved vm (h9.kept hq)).narrow hA, f10, (va_T.moved vm (g10.kept hq)).narrow hA, k10⟩
theorem mm_b8_fit (x : Int) : fits .byte (.int (mm_b8 x)) = true := by
  have h1 := Int8.toInt_lt (Int8.ofInt x)
  have h2 := Int8.le_toInt (Int8.ofInt x)
  have e : (mm_b8 x).toInt = (Int8.ofInt x).toInt := by simp [mm_b8]
  have e1 : (-128 : Int32).toInt = -128 := by decide
  have e2 : (127 : Int32).toInt = 127 := by decide
  simp only [fits, Bool.and_eq_true, decide_eq_true_eq, Int32.le_iff_toInt_le, e, e1, e2]
  omega
theorem mm_b8_nar (x : Int) : vp_nar .byte (Int32.ofInt x) = mm_b8 x := by simp [vp_nar, narrow, mm_b8]
/-- a byte row's content can be told by whole numbers -/
theorem mm_b8_of (v : Int32) (h : fits .byte (.int v) = true) : mm_b8 v.toInt = v := by
  have e1 : (-128 : Int32).toInt = -128 := by decide
  have e2 : (127 : Int32).toInt = 127 := by decide
  simp only [fits, Bool.and_eq_true, decide_eq_true_eq, Int32.le_iff_toInt_le, e1, e2] at h
  apply Int32.toInt_inj.mp
  simp only [mm_b8, Int8.toInt_toInt32]
  exact Int8.toInt_ofInt_of_le (by omega) (by omega)
theorem mm_el_any {E : mm_En} {Ad : Nat → Nat} {M : mm_M} {o : Nat} {h : Nat → Int} (ho : o ≠ 0) (hk : mm_kd M o = 3) : mm_el E Ad (mm_any M o h) o = .inl (E.2.1, mm_ln M o, .inl (fun j => mm_b8 (h j))) := by
  have e := mm_kd_up (M := M) (M' := mm_any M o h) (o' := o) ho (fun x hx => by funext j; simp [mm_any, hx])
  simp only [mm_el, e.1, e.2, hk, mm_any, if_true]
theorem mm_any_o {M : mm_M} {o : Nat} {h : Nat → Int} : ∀ y, y ≠ o → mm_any M o h y = M y := fun y hy => by funext j; simp [mm_any, hy]
/-- a world with a new object -/
theorem mm_nob_kd {M : mm_M} {o k : Nat} {n : Int} (ho : 100 ≤ o) (hn : 0 ≤ n) : mm_kd (mm_nob M o k n) o = k ∧ mm_ln (mm_nob M o k n) o = n.toNat := by
  have h1 : (0 : Nat) ≠ o := by omega
  have h2 : ¬ o < 100 := by omega
  have h3 : ¬ (2 * o + 1 = 2 * o) := by omega
  simp [mm_kd, mm_ln, mm_nob, h1, h2, h3]
theorem mm_nob_kd2 {M : mm_M} {o k x : Nat} {n : Int} (ho : 100 ≤ o) (hx : x ≠ o) : mm_kd (mm_nob M o k n) x = mm_kd M x ∧ mm_ln (mm_nob M o k n) x = mm_ln M x := by
  have h1 : (0 : Nat) ≠ o := by omega
  have h3 : ¬ (2 * x + 1 = 2 * o) := by omega
  have h4 : ¬ (2 * x = 2 * o) := by omega
  have h5 : ¬ (2 * x = 2 * o + 1) := by omega
  have h6 : ¬ (2 * x + 1 = 2 * o + 1) := by omega
  simp [mm_kd, mm_ln, mm_nob, h1, h3, h4, h5, h6, hx]
theorem mm_nob_o {M : mm_M} {o k x : Nat} {n : Int} (hx : x ≠ o) (h0 : x ≠ 0) : mm_nob M o k n x = M x := by
  funext j
  simp [mm_nob, hx, h0]
theorem mm_ws_nob {E : mm_En} {Ad : Nat → Nat} {M : mm_M} {d : List Nat} {o k : Nat} {n : Int} (ho : 100 ≤ o) (hd : o ∉ d) : mm_ws E Ad (mm_nob M o k n) (d ++ [o]) = mm_ws E Ad M d ++ [(o - 100, mm_el E Ad (mm_nob M o k n) o)] := by
  have e0 : mm_ids (d ++ [o]) = mm_ids d ++ [o] := by simp [mm_ids]
  have ead : mm_ad Ad o = o - 100 := by
    unfold mm_ad
    rw [if_neg (by omega)]
  unfold mm_ws
  rw [e0, List.map_append, List.map_cons, List.map_nil, ead]
  congr 1
  refine List.map_congr_left (fun x hx => ?_)
  have hxo : x ≠ o := by
    intro e
    subst e
    rcases List.mem_append.mp hx with h | h
    · simp only [mm_st, List.mem_cons, List.not_mem_nil, or_false] at h
      omega
    · exact hd h
  have ek := mm_nob_kd2 (M := M) (k := k) (n := n) ho hxo
  congr 1
  by_cases h0 : x = 0
  · subst h0
    simp only [mm_el, ek.1]
    rfl
  · simp only [mm_el, ek.1, ek.2, mm_fs, mm_nob_o hxo h0]
section MZ
variable {p : Program} {l : Launch} {e : Env} {R : Room} {s : State} {m : MethodId} {args : Array Value} {below : List Frame} {meth : Method} {c : Code} {Qm : State → Prop}
variable {cc : ByteArray} {own : String} {nL : Nat} {Ts : List Jvm.Cond} {D : va_G} {E : mm_En} {Ad : Nat → Nat} {A : Nat → Prop}
variable {pc tgt : Nat} {ls : mm_Ls} {st : List mm_V} {M : mm_M} {d : List Nat} {u mu : Nat}
theorem mz_i2b {a : Int} (X : mm_Cx p s m args c cc own nL Ts D E A) (hd : decode cc pc = .ok (.i2b, 1)) (k : ∀ x : Int, mm_Z p l e R s m args below meth c Qm nL D E Ad A (pc + 1) ls (mm_I x :: st) M d u) : mm_Z p l e R s m args below meth c Qm nL D E Ad A pc ls (mm_I a :: st) M d u := by
  intro H locs L hL hP hD hS
  have h := k ((Int32.ofInt a).toInt8.toInt32).toInt H locs L hL hP hD hS
  simp only [List.map_cons, mm_cc, Int32.ofInt_toInt] at h
  exact lv_i2b X.1 X.2.1 hd rfl h
theorem mz_dup_x1 {v w : mm_V} (X : mm_Cx p s m args c cc own nL Ts D E A) (hd : decode cc pc = .ok (.dup_x1, 1)) (hv : mm_cat v = 1) (hw : mm_cat w = 1) (k : mm_Z p l e R s m args below meth c Qm nL D E Ad A (pc + 1) ls (v :: w :: v :: st) M d u) : mm_Z p l e R s m args below meth c Qm nL D E Ad A pc ls (v :: w :: st) M d u :=
  fun H locs L hL hP hD hS => lv_dup_x1 X.1 X.2.1 hd (by rw [mm_catv]; exact hv) (by rw [mm_catv]; exact hw) (k H locs L hL hP hD hS)
theorem mz_ldcI {k : Nat} {v : Int} (X : mm_Cx p s m args c cc own nL Ts D E A) (hd : decode cc pc = .ok (.ldc k, 2)) (hw : Jvm.Cond.constant own k (Int32.ofInt v) ∈ Ts) (kk : mm_Z p l e R s m args below meth c Qm nL D E Ad A (pc + 2) ls (mm_I v :: st) M d u) : mm_Z p l e R s m args below meth c Qm nL D E Ad A pc ls st M d u :=
  fun H locs L hL hP hD hS => lv_ldc X.1 X.2.1 X.2.2.2.1 (X.2.2.2.2.1 _ hw) hd (kk H locs L hL hP hD hS)
theorem mz_ldcX {k q : Nat} {tx : String} (X : mm_Cx p s m args c cc own nL Ts D E A) (hd : decode cc pc = .ok (.ldc k, 2)) (hR : vk_R own k tx q s) {v : mm_V} (hv : mm_cc Ad v = .ref q) (kk : mm_Z p l e R s m args below meth c Qm nL D E Ad A (pc + 2) ls (v :: st) M d u) : mm_Z p l e R s m args below meth c Qm nL D E Ad A pc ls st M d u := by
  intro H locs L hL hP hD hS
  have h := kk H locs L hL hP hD hS
  rw [List.map_cons, hv] at h
  exact va_ldcS X.1 X.2.1 X.2.2.2.1 hR hd h
theorem mz_gets {k : Nat} {C n dd : String} {v : mm_V} (X : mm_Cx p s m args c cc own nL Ts D E A) (hd : decode cc pc = .ok (.getstatic k, 3)) (hw : Jvm.Cond.fieldLink own k C n dd ∈ Ts) (hZ : va_Z C n dd (mm_cc Ad v) A s s.heap) (kk : mm_Z p l e R s m args below meth c Qm nL D E Ad A (pc + 3) ls (v :: st) M d u) : mm_Z p l e R s m args below meth c Qm nL D E Ad A pc ls st M d u :=
  fun H locs L hL hP hD hS => va_gets X.1 X.2.1 hZ hS X.2.2.2.1 (X.2.2.2.2.1 _ hw) (fun _ h => h) hd (kk H locs L hL hP hD hS)
theorem mz_bald {a : Int} {o : Nat} {f : Nat → Int32} (X : mm_Cx p s m args c cc own nL Ts D E A) (hd : decode cc pc = .ok (.baload, 1)) (ho : 0 < o ∧ o < 100) (hT : va_T .byte (Ad o) 100 (fun j => .int (f j)) A s s.heap) (ha : 0 ≤ a ∧ a < 100) (k : ∀ x : Int, mm_Z p l e R s m args below meth c Qm nL D E Ad A (pc + 1) ls (mm_I x :: st) M d u) : mm_Z p l e R s m args below meth c Qm nL D E Ad A pc ls (mm_I a :: mm_R o :: st) M d u := by
  intro H locs L hL hP hD hS
  obtain ⟨hin, hcl⟩ := mm_vin (a := a) (n := 100) ⟨ha.1, by have := ha.2; omega⟩ (by decide)
  have h := k (f a.toNat).toInt H locs L hL hP hD hS
  simp only [List.map_cons, mm_cc, Int32.ofInt_toInt] at h
  have e1 : mm_cc Ad (mm_R o) = .ref (Ad o) := by rw [mm_ref (by omega)]; simp [mm_ad, ho.2]
  rw [List.map_cons, List.map_cons, e1]
  exact va_tb X.1 X.2.1 hT hS hin (by rw [hcl]) hd h
theorem mz_bast {a x : Int} {o : Nat} (X : mm_Cx p s m args c cc own nL Ts D E A) (hd : decode cc pc = .ok (.bastore, 1)) (ho : mm_is M d o 3) (ha : 0 ≤ a ∧ a < (mm_ln M o : Int)) (hn : mm_ln M o < 2147483648)
    (kk : mm_Z p l e R s m args below meth c Qm nL D E Ad A (pc + 1) ls st (mm_up M o a.toNat x) d u) : mm_Z p l e R s m args below meth c Qm nL D E Ad A pc ls (mm_I x :: mm_I a :: mm_R o :: st) M d u := by
  intro H locs L hL hP hD hS
  obtain ⟨q0, hq, hw⟩ := mm_idx (E := E) (Ad := Ad) (M := M) ho.2
  obtain ⟨hin, hcl⟩ := mm_vin ha hn
  have hne := mm_is0 ho
  have hw0 := mm_wset (M' := mm_up M o a.toNat x) hD hq hne mm_up_o
  have hkd := mm_kd_up (M := M) (M' := mm_up M o a.toNat x) (o' := o) hne mm_up_o
  simp only [mm_el, ho.1] at hw
  simp only [mm_el, hkd.1, hkd.2, ho.1] at hw0
  rw [List.map_cons, List.map_cons, List.map_cons, mm_ref hne]
  refine va_bast X.1 X.2.1 X.2.2.2.2.2.1 hP hD hS q0 1 hw rfl hin hd (fun H1 locs1 hP1 hD1 hS1 => ?_)
  have hf : upd (fun j => mm_b8 (M o j)) (Int32.ofInt a).toNatClampNeg (vp_nar .byte (Int32.ofInt x)) = fun j => mm_b8 (mm_up M o a.toNat x o j) := by
    funext j
    rw [hcl, mm_b8_nar]
    by_cases hj : j = a.toNat <;> simp [upd, mm_up, hj]
  rw [hf, hw0] at hP1 hD1
  exact kk H1 locs1 L hL hP1 hD1 hS1
theorem mm_num {a : Int} (h : 0 ≤ a ∧ a < 2147483648) : ¬ Int32.ofInt a < 0 ∧ (Int32.ofInt a).toNatClampNeg = a.toNat := by
  have hi : InI a := ⟨by omega, h.2⟩
  refine ⟨fun z => ?_, ?_⟩
  · rw [mm_z0, mm_lt hi mm_i0] at z
    omega
  · show (Int32.ofInt a).toInt.toNat = a.toNat
    rw [mm_toInt hi]
theorem mz_lenJ {K : List mm_V → Prop} (hJ : mm_J A Ad s) (X : mm_Cx p s m args c cc own nL Ts D E A) (hd : decode cc pc = .ok (.arraylength, 1)) (h : mm_lenJ st M d K)
    (kk : ∀ st', K st' → mm_Z p l e R s m args below meth c Qm nL D E Ad A (pc + 1) ls st' M d u) : mm_Z p l e R s m args below meth c Qm nL D E Ad A pc ls st M d u := by
  unfold mm_lenJ at h
  split at h
  · rename_i o r
    obtain ⟨ho, hn, hk⟩ := h
    rcases ho.2 with hm | h29
    · intro H locs L hL hP hD hS
      obtain ⟨q0, hq, hw⟩ := mm_idx (E := E) (Ad := Ad) (M := M) hm
      simp only [mm_el, ho.1] at hw
      rw [List.map_cons, mm_ref (mm_is0 (rc := 2) ⟨ho.1, hm⟩)]
      exact va_alen X.1 X.2.1 X.2.2.2.2.2.1 hP q0 1 hw rfl (v := Int32.ofInt (mm_ln M o : Int)) (by rw [Int32.ofInt_eq_ofNat]) hd (kk _ hk H locs L hL hP hD hS)
    · subst h29
      obtain ⟨f, hT, -⟩ := hJ.2.2.2.2.2.2.2.2.2
      intro H locs L hL hP hD hS
      have h := kk _ hk H locs L hL hP hD hS
      have e1 : mm_cc Ad (mm_R 29) = .ref (Ad 29) := by rw [mm_ref (by decide)]; rfl
      rw [List.map_cons, e1]
      exact va_tlen X.1 X.2.1 hT hS (v := Int32.ofInt (mm_ln M 29 : Int)) rfl hd h
  · exact h.elim
theorem mz_copyJ {k : Nat} {K : List mm_V → mm_M → Prop} (hJ : mm_J A Ad s) (X : mm_Cx p s m args c cc own nL Ts D E A) (hR : 5 < R.frames ∧ 82 ≤ R.locals) (hd : decode cc pc = .ok (.invokestatic k, 3)) (hw : ∀ w ∈ mm_acW own k, w ∈ Ts) (h : mm_copyJ st M d K)
    (kk : ∀ st' M', K st' M' → mm_Z p l e R s m args below meth c Qm nL D E Ad A (pc + 3) ls st' M' d u) : mm_Z p l e R s m args below meth c Qm nL D E Ad A pc ls st M d u := by
  have ww : ∀ w ∈ mm_acW own k, w.before args s = true := fun w h => X.2.2.2.2.1 _ (hw w h)
  have nw : nativeFrameWords "java/lang/System" "arraycopy" 5 + 11 ≤ 74 := by decide +kernel
  unfold mm_copyJ at h
  split at h
  · rename_i n dp b sp a r
    obtain ⟨ha, hb, h0, h1, h2, h3, h4, h5, h6, hc, hk⟩ := h
    intro H locs L hL hP hD hS
    obtain ⟨q1, hq1, hw1⟩ := mm_idx (E := E) (Ad := Ad) (M := M) hb.2
    have hne := mm_is0 hb
    have hwb := hw1
    simp only [mm_el, hb.1] at hw1
    obtain ⟨n1, n2⟩ := mm_num (a := n) ⟨h0, by omega⟩
    obtain ⟨s1, s2⟩ := mm_num (a := sp) ⟨h1, by omega⟩
    obtain ⟨d1, d2⟩ := mm_num (a := dp) ⟨h2, by omega⟩
    have hloc : ((r.map (mm_cc Ad)).map fun v => v.category).sum + (nativeFrameWords "java/lang/System" "arraycopy" 5 + 11) ≤ R.locals := by
      rw [mm_catsum]
      omega
    have fin : ∀ (f : Nat → Int32), (∀ j, j < n.toNat → fits .byte (.int (f (sp.toNat + j))) = true) → ∀ (H1 : Heap) (locs1 : List Loc),
        va_P D mm_cl ((mm_ws E Ad M d).set q1 (mm_ad Ad b, .inl (E.2.1, mm_ln M b, .inl (va_cpy f (fun j => mm_b8 (M b j)) sp.toNat dp.toNat n.toNat)))) H1 → va_D A ((mm_ws E Ad M d).set q1 (mm_ad Ad b, .inl (E.2.1, mm_ln M b, .inl (va_cpy f (fun j => mm_b8 (M b j)) sp.toNat dp.toNat n.toNat)))) → va_S A s.heap H1 locs1 →
        W p l e R s m args below meth c H1 locs1 u (12 * u) Qm (F0 m (pc + 3) L (r.map (mm_cc Ad))) := by
      intro f hf H1 locs1 hP1 hD1 hS1
      have e9 : va_cpy f (fun j => mm_b8 (M b j)) sp.toNat dp.toNat n.toNat = fun j => mm_b8 (va_cpy f (fun j => mm_b8 (M b j)) sp.toNat dp.toNat n.toNat j).toInt := by
        funext j
        refine (mm_b8_of _ ?_).symm
        unfold va_cpy
        split
        · rename_i hj
          exact hf (j - dp.toNat) (by omega)
        · exact mm_b8_fit _
      have hw0 := mm_wset (E := E) (M' := mm_any M b (fun j => (va_cpy f (fun j => mm_b8 (M b j)) sp.toNat dp.toNat n.toNat j).toInt)) hD hq1 hne mm_any_o
      rw [mm_el_any hne hb.1, ← e9] at hw0
      rw [hw0] at hP1 hD1
      exact kk _ _ (hk _) H1 locs1 L hL hP1 hD1 hS1
    have eb : mm_cc Ad (mm_R b) = .ref (mm_ad Ad b) := mm_ref hne
    rcases ha.2 with hm | h29
    · obtain ⟨q0, hq0, hw0⟩ := mm_idx (E := E) (Ad := Ad) (M := M) hm
      simp only [mm_el, ha.1] at hw0
      rw [List.map_cons, List.map_cons, List.map_cons, List.map_cons, List.map_cons, eb, mm_ref (mm_is0 (rc := 2) ⟨ha.1, hm⟩)]
      refine va_copyi X.1 X.2.1 (X.2.2.1.trans hL.1.symm) X.2.2.2.1 (ww _ (by simp [mm_acW])) (ww _ (by simp [mm_acW])) (ww _ (by simp [mm_acW])) (ww _ (by simp [mm_acW])) X.2.2.2.2.2.1 hP hD hS q0 q1 1 1 hw0 hw1 rfl rfl rfl s1 d1 n1 (by rw [s2, n2]; omega) (by rw [d2, n2]; omega) (fun i _ => mm_b8_fit _) (by omega) hloc hd ?_
      rw [s2, d2, n2]
      exact fin _ (fun j _ => mm_b8_fit _)
    · subst h29
      obtain ⟨f, hT, hf⟩ := hJ.2.2.2.2.2.2.2.2.2
      have e1 : mm_cc Ad (mm_R 29) = .ref (Ad 29) := by rw [mm_ref (by decide)]; rfl
      have l9 : mm_ln M 29 = 1 := rfl
      rw [l9] at h3
      rw [List.map_cons, List.map_cons, List.map_cons, List.map_cons, List.map_cons, eb, e1]
      refine vk_copyt X.1 X.2.1 (X.2.2.1.trans hL.1.symm) X.2.2.2.1 (ww _ (by simp [mm_acW])) (ww _ (by simp [mm_acW])) (ww _ (by simp [mm_acW])) (ww _ (by simp [mm_acW])) X.2.2.2.2.2.1 hP hD hS hT q1 1 hw1 rfl s1 d1 n1 (by rw [s2, n2]; omega) (by rw [d2, n2]; omega) (fun i hi => hf _ (by rw [n2] at hi; rw [s2]; omega)) (by omega) hloc hd ?_
      rw [s2, d2, n2]
      exact fin _ (fun j hj => hf _ (by omega))
  · exact h.elim
/-- a new object's number is new -/
theorem mm_fresh {q : Nat} {x : va_E} (hD : va_D A (mm_ws E Ad M d ++ [(q, x)])) : q + 100 ∉ d := by
  intro h
  have hm : q + 100 ∈ mm_ids d := List.mem_append_right _ h
  obtain ⟨k, hk, hw⟩ := mm_idx (E := E) (Ad := Ad) (M := M) hm
  have hl := (List.getElem?_eq_some_iff.mp hw).1
  have e := hD.1 k (mm_ws E Ad M d).length _ (q, x) (by rw [List.getElem?_append_left hl]; exact hw) (by simp) (by
    show mm_ad Ad (q + 100) = q
    unfold mm_ad
    rw [if_neg (by omega)]
    omega)
  omega
theorem mz_new {k rc : Nat} (X : mm_Cx p s m args c cc own nL Ts D E A) (hR : mu ≤ R.cells ∧ 12 * mu ≤ R.slots) (hd : decode cc pc = .ok (.new k, 3)) (hrc : rc = 16 ∨ rc = 17) (hw : ∀ w ∈ mm_wk own rc 99 k, w ∈ Ts) (hu : u + 1 ≤ mu)
    (kk : ∀ o : Nat, 100 ≤ o → o ∉ d → mm_Z p l e R s m args below meth c Qm nL D E Ad A (pc + 3) ls (mm_R o :: st) (mm_nob M o rc 0) (d ++ [o]) (u + 1)) : mm_Z p l e R s m args below meth c Qm nL D E Ad A pc ls st M d u := by
  have ww : ∀ w ∈ mm_wk own rc 99 k, w.before args s = true := fun w h => X.2.2.2.2.1 _ (hw w h)
  intro H locs L hL hP hD hS
  have fin : ∀ (fs : List Value), (∀ o, 100 ≤ o → mm_fs Ad (mm_nob M o rc 0) o (mm_ft rc) = fs) → ∀ (q : Nat) (H1 : Heap), va_P D mm_cl (mm_ws E Ad M d ++ [(q, .inr (rc - 10, fs))]) H1 → va_D A (mm_ws E Ad M d ++ [(q, .inr (rc - 10, fs))]) → va_S A s.heap H1 locs →
      W p l e R s m args below meth c H1 locs (u + 1) (12 * u + 4) Qm (F0 m (pc + 3) L (.ref q :: st.map (mm_cc Ad))) := by
    intro fs hfs q H1 hP1 hD1 hS1
    have hf := mm_fresh hD1
    have e0 := mm_ws_nob (E := E) (Ad := Ad) (M := M) (d := d) (o := q + 100) (k := rc) (n := 0) (by omega) hf
    rw [mm_el_obj (mm_nob_kd (M := M) (k := rc) (n := 0) (by omega : 100 ≤ q + 100) (by omega)).1 (by omega), hfs (q + 100) (by omega), Nat.add_sub_cancel] at e0
    rw [← e0] at hP1 hD1
    have h := kk (q + 100) (by omega) hf H1 locs L hL hP1 hD1 hS1
    rw [List.map_cons, mm_ref (by omega)] at h
    have ead : mm_ad Ad (q + 100) = q := by
      unfold mm_ad
      rw [if_neg (by omega)]
      omega
    rw [ead] at h
    exact W.widen (k := u + 1) (n := 12 * (u + 1)) (Nat.le_refl _) (by omega) h
  rcases hrc with rfl | rfl
  · refine va_new (C := RXB) (T := TXB) (N := 4) (ci := 6) (fs := [.null, .int 0, .int 0, .int 0]) X.1 X.2.1 X.2.2.2.2.1 (X.2.2.2.2.2.2.2 _ (List.mem_of_getElem? (i := 6) rfl)) tyXB tyXB_ok X.2.2.2.1 (ww (.classLink own k RXB) (by simp [mm_wk, mm_rcn])) (ww (.instantiable RXB 4) (by simp [mm_wk, mm_rcn])) (ww (.initialized RXB) (by simp [mm_wk, mm_rcn])) X.2.2.2.2.2.1 hP hD hS X.2.2.2.2.2.2.1 rfl (by decide +kernel) (by omega) (by omega) hd ?_
    exact fin _ (fun o ho => by
      have h0 : (0 : Nat) ≠ o := by omega
      simp [mm_fs, mm_ft, mm_nob, mm_fv, mm_cc, mm_rn, va_rf])
  · refine va_new (C := RXS) (T := TXS) (N := 4) (ci := 7) (fs := [.null, .int 0, .int 0, .int 0]) X.1 X.2.1 X.2.2.2.2.1 (X.2.2.2.2.2.2.2 _ (List.mem_of_getElem? (i := 7) rfl)) tyXS tyXS_ok X.2.2.2.1 (ww (.classLink own k RXS) (by simp [mm_wk, mm_rcn])) (ww (.instantiable RXS 4) (by simp [mm_wk, mm_rcn])) (ww (.initialized RXS) (by simp [mm_wk, mm_rcn])) X.2.2.2.2.2.1 hP hD hS X.2.2.2.2.2.2.1 rfl (by decide +kernel) (by omega) (by omega) hd ?_
    exact fin _ (fun o ho => by
      have h0 : (0 : Nat) ≠ o := by omega
      simp [mm_fs, mm_ft, mm_nob, mm_fv, mm_cc, mm_rn, va_rf])
/-- a byte row's class is one -/
theorem mm_unB {cA : ClassId} (h : va_K D mm_cl (mm_ty E ++ [(cA, .byte)]) s) : cA = E.2.1 := Option.some.inj (((h.2 3 _ rfl).2 : s.vm.findClass _ = some cA).symm.trans ((h.2 1 _ rfl).2 : s.vm.findClass _ = some E.2.1))
/-- a byte row more -/
theorem mm_moreB {q : Nat} {n : Nat} {h : Nat → Int} {H1 : Heap} {locs : List Loc} {L : Array Slot} (hL : mm_Lo Ad nL ls L) (hP1 : va_P D mm_cl (mm_ws E Ad M d ++ [(q, .inl (E.2.1, n, .inl (fun j => mm_b8 (h j))))]) H1) (hD1 : va_D A (mm_ws E Ad M d ++ [(q, .inl (E.2.1, n, .inl (fun j => mm_b8 (h j))))])) (hS1 : va_S A s.heap H1 locs)
    (kk : ∀ o : Nat, 100 ≤ o → o ∉ d → mm_Z p l e R s m args below meth c Qm nL D E Ad A tgt ls (mm_R o :: st) (mm_any (mm_nob M o 3 (n : Int)) o h) (d ++ [o]) (u + 1 + n / 12)) : W p l e R s m args below meth c H1 locs (u + 1) (12 * u + n) Qm (F0 m tgt L (.ref q :: st.map (mm_cc Ad))) := by
  have hf := mm_fresh hD1
  have hk := mm_nob_kd (M := M) (o := q + 100) (k := 3) (n := (n : Int)) (by omega) (by omega)
  have e0 := mm_ws_nob (E := E) (Ad := Ad) (M := M) (d := d) (o := q + 100) (k := 3) (n := (n : Int)) (by omega) hf
  have hne : q + 100 ≠ 0 := by omega
  have hlen : (mm_ids (d ++ [q + 100]))[(mm_ws E Ad M d).length]? = some (q + 100) := by simp [mm_ids, mm_ws]
  rw [Nat.add_sub_cancel] at e0
  have hD2 : va_D (fun _ => True) (mm_ws E Ad (mm_nob M (q + 100) 3 (n : Int)) (d ++ [q + 100])) := by
    rw [e0]
    refine ⟨fun i j x y hx hy hxy => ?_, fun _ _ _ => trivial⟩
    have key : ∀ (i : Nat) (x : Nat × va_E) (el : va_E), (mm_ws E Ad M d ++ [(q, el)])[i]? = some x → ∃ x', (mm_ws E Ad M d ++ [(q, (.inl (E.2.1, n, .inl (fun j => mm_b8 (h j))) : va_E))])[i]? = some x' ∧ x'.1 = x.1 := by
      intro i x el hi
      by_cases hl : i < (mm_ws E Ad M d).length
      · rw [List.getElem?_append_left hl] at hi ⊢
        exact ⟨x, hi, rfl⟩
      · rw [List.getElem?_append_right (by omega)] at hi ⊢
        have hz : i - (mm_ws E Ad M d).length < 1 := (List.getElem?_eq_some_iff.mp hi).1
        rw [show i - (mm_ws E Ad M d).length = 0 by omega] at hi ⊢
        cases hi
        exact ⟨_, rfl, rfl⟩
    obtain ⟨x', g1, g2⟩ := key i x _ hx
    obtain ⟨y', g3, g4⟩ := key j y _ hy
    exact hD1.1 i j x' y' g1 g3 (by rw [g2, g4]; exact hxy)
  have hw0 := mm_wset (E := E) (Ad := Ad) (M' := mm_any (mm_nob M (q + 100) 3 (n : Int)) (q + 100) h) hD2 hlen hne mm_any_o
  have ead : mm_ad Ad (q + 100) = q := by
    unfold mm_ad
    rw [if_neg (by omega)]
    omega
  rw [mm_el_any hne hk.1, hk.2, Int.toNat_natCast, ead, e0, List.set_append_right _ _ (Nat.le_refl _), Nat.sub_self, List.set_cons_zero] at hw0
  rw [hw0] at hP1 hD1
  have h9 := kk (q + 100) (by omega) hf H1 locs L hL hP1 hD1 hS1
  rw [List.map_cons, mm_ref hne, ead] at h9
  refine W.widen (k := u + 1 + n / 12) (n := 12 * (u + 1 + n / 12)) (by omega) ?_ h9
  have := Nat.div_add_mod n 12
  have := Nat.mod_lt n (by decide : 0 < 12)
  omega
theorem mz_newa {n : Int} (X : mm_Cx p s m args c cc own nL Ts D E A) (hR : mu ≤ R.cells ∧ 12 * mu ≤ R.slots) (hd : decode cc pc = .ok (.newarray .byte, 2)) (hw : Jvm.Cond.arrayClass .byte ∈ Ts) (hn : 0 ≤ n ∧ n < 100000) (hu : u + 1 + n.toNat / 12 ≤ mu)
    (kk : ∀ o : Nat, 100 ≤ o → o ∉ d → mm_Z p l e R s m args below meth c Qm nL D E Ad A (pc + 2) ls (mm_R o :: st) (mm_nob M o 3 n) (d ++ [o]) (u + 1 + n.toNat / 12)) : mm_Z p l e R s m args below meth c Qm nL D E Ad A pc ls (mm_I n :: st) M d u := by
  intro H locs L hL hP hD hS
  obtain ⟨n1, n2⟩ := mm_num (a := n) ⟨hn.1, by omega⟩
  obtain ⟨k, rfl⟩ := Int.eq_ofNat_of_zero_le hn.1
  rw [Int.toNat_natCast] at *
  have hk9 := Nat.div_add_mod k 12
  have hm9 := Nat.mod_lt k (by decide : 0 < 12)
  refine va_newa (atype := .byte) (ty := .byte) (N' := k) (a0 := (k, .inl (fun _ => mm_b8 0))) X.1 X.2.1 (X.2.2.2.2.1 _ hw) rfl X.2.2.2.2.2.1 hP hD hS X.2.2.2.2.2.2.1 (fun _ => rfl) n1 n2 (by
    have : componentBytes .byte = 1 := by decide
    rw [this]
    omega) (by omega) (by omega) hd (fun q cA H1 hK1 hP1 hD1 hS1 => ?_)
  have ec := mm_unB hK1
  subst ec
  refine mm_moreB (h := fun _ => 0) hL hP1 hD1 hS1 (fun o ho hod => ?_)
  have e : mm_any (mm_nob M o 3 (k : Int)) o (fun _ => 0) = mm_nob M o 3 (k : Int) := by
    funext x j
    simp only [mm_any, mm_nob]
    split <;> simp_all
  rw [e]
  exact kk o ho hod
theorem mz_cloneJ {k : Nat} {K : List mm_V → mm_M → List Nat → Nat → Prop} (X : mm_Cx p s m args c cc own nL Ts D E A) (hcl : va_Nw (.castable "[B" "java/lang/Cloneable") s) (hR : (mu ≤ R.cells ∧ 12 * mu ≤ R.slots) ∧ 5 < R.frames ∧ 82 ≤ R.locals) (hd : decode cc pc = .ok (.invokevirtual k, 3)) (hw : ∀ w ∈ mm_clW own k, w ∈ Ts) (h : mm_cloneJ mu st M d u K)
    (kk : ∀ st' M' d' u', K st' M' d' u' → mm_Z p l e R s m args below meth c Qm nL D E Ad A (pc + 3) ls st' M' d' u') : mm_Z p l e R s m args below meth c Qm nL D E Ad A pc ls st M d u := by
  have ww : ∀ w ∈ mm_clW own k, w.before args s = true := fun w h => X.2.2.2.2.1 _ (hw w h)
  unfold mm_cloneJ at h
  split at h
  · rename_i a r
    obtain ⟨ha, hu, hc, hk⟩ := h
    intro H locs L hL hP hD hS
    obtain ⟨q0, hq, hw0⟩ := mm_idx (E := E) (Ad := Ad) (M := M) ha.2
    simp only [mm_el, ha.1] at hw0
    rw [List.map_cons, mm_ref (mm_is0 ha)]
    have hk9 := Nat.div_add_mod (mm_ln M a) 12
    have hm9 := Nat.mod_lt (mm_ln M a) (by decide : 0 < 12)
    refine va_clone (ad := "[B") X.1 X.2.1 (X.2.2.1.trans hL.1.symm) X.2.2.2.1 (ww _ (by simp [mm_clW])) (ww _ (by simp [mm_clW])) (ww _ (by simp [mm_clW])) (ww _ (by simp [mm_clW])) (ww _ (by simp [mm_clW])) hcl X.2.2.2.2.2.1 hP hD hS X.2.2.2.2.2.2.1 q0 1 hw0 rfl (va_nm_byte (X.2.2.2.2.2.1.2 1 _ rfl).2) (va_fit (fun i _ => mm_b8_fit _)) (by omega) (by rw [mm_catsum]; omega) (by omega) (by show 12 * u + mm_ln M a ≤ _; omega) hd (fun q H1 hK1 hP1 hD1 hS1 => ?_)
    exact mm_moreB (h := fun j => M a j) hL hP1 hD1 hS1 (fun o ho hod => kk _ _ _ _ (hk o _ ho hod))
  · exact h.elim
theorem mz_cast {k o : Nat} (X : mm_Cx p s m args c cc own nL Ts D E A) (hd : decode cc pc = .ok (.checkcast k, 3)) (hw : Jvm.Cond.classLink own k "[B" ∈ Ts) (ho : mm_is M d o 3) (kk : mm_Z p l e R s m args below meth c Qm nL D E Ad A (pc + 3) ls (mm_R o :: st) M d u) : mm_Z p l e R s m args below meth c Qm nL D E Ad A pc ls (mm_R o :: st) M d u := by
  intro H locs L hL hP hD hS
  obtain ⟨q0, hq, hw0⟩ := mm_idx (E := E) (Ad := Ad) (M := M) ho.2
  simp only [mm_el, ho.1] at hw0
  have h := kk H locs L hL hP hD hS
  rw [List.map_cons, mm_ref (mm_is0 ho)] at h ⊢
  exact va_castA X.1 X.2.1 X.2.2.2.1 (X.2.2.2.2.1 _ hw) hP q0 hw0 (va_nm_byte (X.2.2.2.2.2.1.2 1 _ rfl).2) hd h
theorem mz_getC {k n : Nat} {v : mm_V} (X : mm_Cx p s m args c cc own nL Ts D E A) (hd : decode cc pc = .ok (.getfield k, 3)) (hw : Jvm.Cond.fieldLink own k RXS (TXS n).2.1 (TXS n).2.2.1 ∈ Ts) (hE : va_OF RXS (TXS n).2.1 (TXS n).2.2.1 (mm_cc Ad v) (Ad 28) A s s.heap)
    (kk : mm_Z p l e R s m args below meth c Qm nL D E Ad A (pc + 3) ls (v :: st) M d u) : mm_Z p l e R s m args below meth c Qm nL D E Ad A pc ls (mm_R 28 :: st) M d u := by
  intro H locs L hL hP hD hS
  have e1 : mm_cc Ad (mm_R 28) = .ref (Ad 28) := by rw [mm_ref (by decide)]; rfl
  rw [List.map_cons, e1]
  exact vk_getf X.1 X.2.1 hE hS X.2.2.2.1 (X.2.2.2.2.1 _ hw) (fun _ h => h) hd (kk H locs L hL hP hD hS)
theorem mz_putS {k n o : Nat} {v : mm_V} (X : mm_Cx p s m args c cc own nL Ts D E A) (hin : meth.name = "<init>") (ho9 : own = RXS) (hd : decode cc pc = .ok (.putfield k, 3)) (hw : Jvm.Cond.fieldLink own k RXS (TXS n).2.1 (TXS n).2.2.1 ∈ Ts) (ho : mm_is M d o 17)
    (kk : mm_pS n v (fun x => mm_Z p l e R s m args below meth c Qm nL D E Ad A (pc + 3) ls st (mm_up M o n x) d u)) : mm_Z p l e R s m args below meth c Qm nL D E Ad A pc ls (v :: mm_R o :: st) M d u := by
  intro H locs L hL hP hD hS
  obtain ⟨q0, hq, hw1⟩ := mm_idx (E := E) (Ad := Ad) (M := M) ho.2
  have hne := mm_is0 ho
  rw [mm_el_obj ho.1 (by decide)] at hw1
  rw [List.map_cons, List.map_cons, mm_ref hne]
  have fin : ∀ (ft : Nat) (x : Int), mm_nth (mm_ft 17) n = some (ft, 0) → mm_cc Ad v = mm_cc Ad (mm_fv ft 0 o x) → n < 2 → fits (tyXS n) (mm_cc Ad v) = true → narrow (tyXS n) (mm_cc Ad v) = mm_cc Ad v → mm_Z p l e R s m args below meth c Qm nL D E Ad A (pc + 3) ls st (mm_up M o n x) d u → W p l e R s m args below meth c H locs u (12 * u) Qm (F0 m pc L (mm_cc Ad v :: .ref (mm_ad Ad o) :: st.map (mm_cc Ad))) := by
    intro ft x hf he hn h2 h1 hx
    have hw0 := mm_wset (E := E) (Ad := Ad) (M' := mm_up M o n x) hD hq hne mm_up_o
    have hkd : mm_kd (mm_up M o n x) o = 17 := by rw [(mm_kd_up (M := M) (o' := o) hne mm_up_o).1]; exact ho.1
    rw [mm_el_obj hkd (by decide), ← mm_fs_set hf he] at hw0
    have hT : (TXS n).2.2.2 = true ∧ (TXS n).1 = RXS := by
      rcases (show n = 0 ∨ n = 1 by omega) with rfl | rfl <;> exact ⟨rfl, rfl⟩
    refine va_putF (D := D) (ci := 7) (C := RXS) (T := TXS) (N := 4) X.1 X.2.1 X.2.2.2.2.1 (X.2.2.2.2.2.2.2 _ (List.mem_of_getElem? (i := 7) rfl)) tyXS tyXS_ok nmXS X.2.2.2.1 X.2.2.2.2.2.1 hP hD hS q0 hw1 rfl n (by omega) (X.2.2.2.2.1 _ hw) (fun y hy => by rw [hT.2] at hy; exact hy) hT.1 hin (by rw [hT.2, ho9]) (tyXS_ok n (by omega)) h1 h2 (by simp [mm_fs, mm_ft]; omega) hd (fun H1 locs1 hP1 hD1 hS1 => ?_)
    rw [show (17 : Nat) - 10 = 7 from rfl] at hw0
    rw [hw0] at hP1 hD1
    exact hx H1 locs1 L hL hP1 hD1 hS1
  unfold mm_pS at kk
  split at kk
  · rename_i a
    exact fin 8 (a : Int) rfl (by simp [mm_fv]) (by decide) (by simp only [mm_cc]; cases mm_rn Ad a <;> rfl) (by simp only [mm_cc]; cases mm_rn Ad a <;> rfl) kk
  · rename_i x
    obtain ⟨rfl, hx⟩ := kk
    exact fin 9 0 rfl rfl (by decide) rfl rfl hx
  · exact kk.elim
theorem mz_objI {k o : Nat} (X : mm_Cx p s m args c cc own nL Ts D E A) (hR : 5 < R.frames ∧ 82 ≤ R.locals) (hd : decode cc pc = .ok (.invokespecial k, 3)) (hw : ∀ w ∈ mm_wk own 0 90 k, w ∈ Ts) (ho : o ≠ 0) (hc : mm_cats st ≤ 8) (kk : mm_Z p l e R s m args below meth c Qm nL D E Ad A (pc + 3) ls st M d u) : mm_Z p l e R s m args below meth c Qm nL D E Ad A pc ls (mm_R o :: st) M d u := by
  have ww : ∀ w ∈ mm_wk own 0 90 k, w.before args s = true := fun w h => X.2.2.2.2.1 _ (hw w h)
  intro H locs L hL hP hD hS
  rw [List.map_cons, mm_ref ho]
  refine W.objInit X.1 X.2.1 X.2.2.2.1 (ww _ (by simp [mm_wk])) (ww _ (by simp [mm_wk])) (ww _ (by simp [mm_wk])) rfl (by rw [X.2.2.1]; exact hL.1) rfl hd (by omega) (by
    have := mm_catsum Ad st
    simp only [List.map_map] at this ⊢
    show 2 * 0 + _ + 12 ≤ _
    rw [this]
    omega) ?_
  exact W.eq (g2 := F0 m (pc + 3) L (st.map (mm_cc Ad))) rfl (kk H locs L hL hP hD hS)
end MZ
