/-! each method's words, the pools of fields, by program -/
theorem mm_t0 {w : Jvm.Cond} (i : Nat) (h : (k2_sels lw_privs)[i]? = some w) (g : goodWord w = true) : w ∈ mm_T := List.mem_filter.mpr ⟨List.mem_append_left _ (List.mem_of_getElem? h), g⟩
theorem mm_t1 {w : Jvm.Cond} (i : Nat) (h : tables_1_1[i]? = some w) (g : goodWord w = true) : w ∈ mm_T := List.mem_filter.mpr ⟨List.mem_append_right _ (show w ∈ tables_1 from List.mem_append_left _ (List.mem_of_getElem? h)), g⟩
theorem mm_t2 {w : Jvm.Cond} (i : Nat) (h : tables_1_2[i]? = some w) (g : goodWord w = true) : w ∈ mm_T := List.mem_filter.mpr ⟨List.mem_append_right _ (show w ∈ tables_1 from List.mem_append_right _ (List.mem_append_left _ (List.mem_of_getElem? h))), g⟩
theorem mm_t3 {w : Jvm.Cond} (i : Nat) (h : tables_1_3[i]? = some w) (g : goodWord w = true) : w ∈ mm_T := List.mem_filter.mpr ⟨List.mem_append_right _ (show w ∈ tables_1 from List.mem_append_right _ (List.mem_append_right _ (List.mem_append_left _ (List.mem_of_getElem? h)))), g⟩
theorem mm_t4 {w : Jvm.Cond} (i : Nat) (h : tables_1_4[i]? = some w) (g : goodWord w = true) : w ∈ mm_T := List.mem_filter.mpr ⟨List.mem_append_right _ (show w ∈ tables_1 from List.mem_append_right _ (List.mem_append_right _ (List.mem_append_right _ (List.mem_append_left _ (List.mem_of_getElem? h))))), g⟩
theorem mm_t5 {w : Jvm.Cond} (i : Nat) (h : tables_1_5[i]? = some w) (g : goodWord w = true) : w ∈ mm_T := List.mem_filter.mpr ⟨List.mem_append_right _ (show w ∈ tables_1 from List.mem_append_right _ (List.mem_append_right _ (List.mem_append_right _ (List.mem_append_right _ (List.mem_append_left _ (List.mem_of_getElem? h)))))), g⟩
theorem mm_t6 {w : Jvm.Cond} (i : Nat) (h : tables_1_6[i]? = some w) (g : goodWord w = true) : w ∈ mm_T := List.mem_filter.mpr ⟨List.mem_append_right _ (show w ∈ tables_1 from List.mem_append_right _ (List.mem_append_right _ (List.mem_append_right _ (List.mem_append_right _ (List.mem_append_right _ (List.mem_append_left _ (List.mem_of_getElem? h))))))), g⟩
theorem mm_t7 {w : Jvm.Cond} (i : Nat) (h : tables_1_7[i]? = some w) (g : goodWord w = true) : w ∈ mm_T := List.mem_filter.mpr ⟨List.mem_append_right _ (show w ∈ tables_1 from List.mem_append_right _ (List.mem_append_right _ (List.mem_append_right _ (List.mem_append_right _ (List.mem_append_right _ (List.mem_append_right _ (List.mem_append_left _ (List.mem_of_getElem? h)))))))), g⟩
theorem mm_t8 {w : Jvm.Cond} (i : Nat) (h : tables_1_8[i]? = some w) (g : goodWord w = true) : w ∈ mm_T := List.mem_filter.mpr ⟨List.mem_append_right _ (show w ∈ tables_1 from List.mem_append_right _ (List.mem_append_right _ (List.mem_append_right _ (List.mem_append_right _ (List.mem_append_right _ (List.mem_append_right _ (List.mem_append_right _ (List.mem_of_getElem? h)))))))), g⟩
def mm_MW (y : MethodName) (b : ByteArray) (maxL : Nat) (ret : Option FieldType) (hh : List (Nat × Nat × Nat × Nat)) (how rc n : Nat) : Prop :=
  mm_cw y b maxL ret hh ∈ mm_T ∧ Jvm.Cond.initialized y.cls ∈ mm_T ∧ (y.cls ≠ "java/lang/invoke/MethodHandle" ∧ y.cls ≠ "java/lang/invoke/VarHandle") ∧ ∃ (T : u_T) (N : Nat),
    ((how = 0 ∧ hh = [] ∧ Jvm.Cond.instanceMethod y ∈ mm_T ∧ Jvm.Cond.selects y.cls y y ∈ mm_T ∧ 10 ≤ rc ∧ mm_cl[rc - 10]? = some (y.cls, T, N) ∧ (parseMethodDescriptor y.desc).map (fun d => d.parameters.length + 1) = some n) ∨
     (how = 1 ∧ Jvm.Cond.static y ∈ mm_T ∧ (parseMethodDescriptor y.desc).map (fun d => d.parameters.length) = some n))
def mm_look {α : Type} : List (Nat × α) → Nat → Option α
  | [], _ => none
  | q :: r, n => bif q.1 == n then some q.2 else mm_look r n
/-- what a method's runs owe -/
def mm_RN (fl : List (Nat × Nat × Nat)) (ct : List (Nat × mm_Ca)) (xt : Nat → Nat → Nat → Option Nat) (lc : List (Nat × Int)) (rt mu maxL : Nat) (cd : List mm_E) (sp : mm_S) : Prop :=
  ∀ av M d Q, sp av M d Q → (mm_fl av).length ≤ maxL ∧ mm_run (mm_look fl) (mm_look ct) xt (mm_look lc) (fun _ => none) rt mu (fun _ _ => none) Q cd 0 (mm_ent maxL av) [] M d 0
def mm_F0 : Nat → mm_K := fun _ _ _ _ _ _ => False
def mm_x0 : Nat → Nat → Nat → Option Nat := fun _ _ _ => none
/-- the five throws of the class -/
def mm_x3 : Nat → Nat → Nat → Option Nat := fun idx is ic => bif idx == 342 && ic == 346 && (is == 344 || is == 352 || is == 354 || is == 356) then some 0 else bif idx == 358 && ic == 362 && is == 360 then some 1 else none
theorem mm_look_mem {α : Type} {n : Nat} {a : α} : ∀ l : List (Nat × α), mm_look l n = some a → (n, a) ∈ l
  | [], h => by simp [mm_look] at h
  | q :: r, h => by
    simp only [mm_look] at h
    cases e : q.1 == n
    · rw [e] at h
      exact List.mem_cons_of_mem _ (mm_look_mem r h)
    · rw [e] at h
      have e1 := eq_of_beq e
      simp only [cond_true, Option.some.injEq] at h
      rw [← e1, ← h]
      exact List.mem_cons_self
/-- a method's call table, entry by entry -/
def mm_PEs (l : Launch) (own : String) (R : Room) : List (Nat × mm_Ca) → Prop
  | [] => True
  | q :: r => mm_PE l own mm_U R q.1 q.2 ∧ mm_PEs l own R r
theorem mm_PEs_look {l : Launch} {own : String} {R : Room} {idx : Nat} {ca : mm_Ca} : ∀ t : List (Nat × mm_Ca), mm_PEs l own R t → mm_look t idx = some ca → mm_PE l own mm_U R idx ca
  | [], _, h => by simp [mm_look] at h
  | q :: r, hp, h => by
    simp only [mm_look] at h
    cases e : q.1 == idx
    · rw [e] at h
      exact mm_PEs_look r hp.2 h
    · rw [e] at h
      have e1 := eq_of_beq e
      simp only [cond_true, Option.some.injEq] at h
      rw [← e1, ← h]
      exact hp.1
theorem mm_pe {l : Launch} {own : String} {y : MethodName} {b : ByteArray} {maxL : Nat} {ret : Option FieldType} {hh : List (Nat × Nat × Nat × Nat)} {fr lo mu how rc n idx FR LO MU : Nat} {sp : mm_S}
    (hM : mm_Met l y b maxL ret hh fr lo mu sp) (hw : mm_MW y b maxL ret hh how rc n) (hl : Jvm.Cond.methodLink own idx y ∈ mm_T) (hfr : fr + 1 ≤ FR) (hlo : 8 + (maxL + 11) + lo ≤ LO) : mm_PE l own mm_U (mm_rm FR LO MU) idx (how, n, rc, sp, mu) := by
  obtain ⟨h1, h2, h3, T, N, h4⟩ := hw
  refine Or.inr ⟨y, b, maxL, ret, hh, fr, lo, T, N, hM, h1, mm_T_U _ h2, h3, hfr, hlo, Or.inl (mm_T_U _ hl), mm_T_U, ?_⟩
  rcases h4 with ⟨a, b, c, d, e, f, g⟩ | ⟨a, b, c⟩
  · exact Or.inl ⟨a, b, mm_T_U _ c, mm_T_U _ d, e, f, g⟩
  · exact Or.inr ⟨a, mm_T_U _ b, c⟩
theorem mm_peN {l : Launch} {own host : String} {y : MethodName} {b : ByteArray} {maxL : Nat} {ret : Option FieldType} {fr lo mu how rc n idx FR LO MU : Nat} {sp : mm_S}
    (hM : mm_Met l y b maxL ret [] fr lo mu sp) (hw : mm_MW y b maxL ret [] how rc n) (hl : Jvm.Cond.methodLinkNest own idx y host ∈ mm_nw) (hfr : fr + 1 ≤ FR) (hlo : 8 + (maxL + 11) + lo ≤ LO) : mm_PE l own mm_U (mm_rm FR LO MU) idx (how, n, rc, sp, mu) := by
  obtain ⟨h1, h2, h3, T, N, h4⟩ := hw
  refine Or.inr ⟨y, b, maxL, ret, [], fr, lo, T, N, hM, h1, mm_T_U _ h2, h3, hfr, hlo, Or.inr ⟨rfl, host, List.mem_append_right _ hl⟩, mm_T_U, ?_⟩
  rcases h4 with ⟨a, b, c, d, e, f, g⟩ | ⟨a, b, c⟩
  · exact Or.inl ⟨a, b, mm_T_U _ c, mm_T_U _ d, e, f, g⟩
  · exact Or.inr ⟨a, mm_T_U _ b, c⟩
theorem mm_xe0 (own : String) : ∀ idx is ic k, mm_x0 idx is ic = some k → mm_XE own mm_U idx is ic k := fun _ _ _ _ h => nomatch h
theorem mm_F0h {F : Nat → Option (Nat × Nat)} {C : Nat → Option mm_Ca} {X0 : Nat → Nat → Nat → Option Nat} {LC : Nat → Option Int} {SC : Nat → Option (Nat × (Nat → Int32))} {rt mu : Nat} {hn : Nat → Nat → Option Nat} {Qr : mm_Q} {cd : List mm_E} :
    ∀ t ls st M d u, mm_in t [] = true → mm_F0 t ls st M d u → mm_run F C X0 LC SC rt mu hn Qr cd t ls st M d u := fun _ _ _ _ _ _ h _ => nomatch h
theorem mm_mt {l : Launch} {y : MethodName} {b : ByteArray} {maxL : Nat} {ret : Option FieldType} {fr lo mu rt : Nat} {own : String} {sp : mm_S} {cd : List mm_E} {fl : List (Nat × Nat × Nat)} {ct : List (Nat × mm_Ca)} {xt : Nat → Nat → Nat → Option Nat} {lc : List (Nat × Int)}
    (hl : l.stackTraces = false) (h : mm_RN fl ct xt lc rt mu maxL cd sp) (hy : plainName y.cls = true ∧ y.cls = own) (hk : mm_chk b cd = true) (hrt : mm_rtOK rt ret = true) (hfl : 5 < fr ∧ 82 ≤ lo)
    (hf : ∀ q ∈ fl, mm_lk own mm_U q.2.1 q.2.2 q.1) (hlc : ∀ q ∈ lc, Jvm.Cond.constantLong own q.1 (Int64.ofInt q.2) ∈ mm_U) (hPE : mm_PEs l own (mm_rm fr lo mu) ct) (hXE : ∀ idx is ic k, xt idx is ic = some k → mm_XE own mm_U idx is ic k) (hn9 : ∀ q ∈ fl, q.2.2 < 90 := by decide) : mm_Met l y b maxL ret [] fr lo mu sp :=
  mm_meth (F := mm_look fl) (C := mm_look ct) (X0 := xt) (LC := mm_look lc) hl hy.1 hy.2 hk hrt hfl.1 hfl.2 ⟨fun k rc n e => Or.inl ⟨hn9 _ (mm_look_mem fl e), hf (k, rc, n) (mm_look_mem fl e)⟩, fun k x e => hlc (k, x) (mm_look_mem lc e)⟩ (fun idx ca e => mm_PEs_look ct hPE e) hXE (fun k rc e => absurd (hn9 _ (mm_look_mem fl e)) (by simp)) (fun av M d Q hs => h av M d Q hs)
def isW (w : Nat) : Prop := w = 8 ∨ w = 10 ∨ w = 12 ∨ w = 14
theorem mm_isW {w : Nat} (h : isW w) {M : mm_M} {d : List Nat} : mm_is M d w 12 := by
  rcases h with rfl | rfl | rfl | rfl <;> exact ⟨rfl, List.mem_append_left _ (by decide)⟩
theorem mm_isA {w : Nat} (h : isW w) {M : mm_M} {d : List Nat} : mm_is M d (w + 1) 1 := by
  rcases h with rfl | rfl | rfl | rfl <;> exact ⟨rfl, List.mem_append_left _ (by decide)⟩
theorem mm_lnA {w : Nat} (h : isW w) {M : mm_M} : mm_ln M (w + 1) = 30 := by
  rcases h with rfl | rfl | rfl | rfl <;> rfl
theorem mm_i1 {M : mm_M} {d : List Nat} : mm_is M d 1 10 := ⟨rfl, List.mem_append_left _ (by decide)⟩
theorem mm_i2 {M : mm_M} {d : List Nat} : mm_is M d 2 11 := ⟨rfl, List.mem_append_left _ (by decide)⟩
theorem mm_i3 {M : mm_M} {d : List Nat} : mm_is M d 3 1 := ⟨rfl, List.mem_append_left _ (by decide)⟩
theorem mm_i4 {M : mm_M} {d : List Nat} : mm_is M d 4 1 := ⟨rfl, List.mem_append_left _ (by decide)⟩
theorem mm_i5 {M : mm_M} {d : List Nat} : mm_is M d 5 1 := ⟨rfl, List.mem_append_left _ (by decide)⟩
theorem mm_i6 {M : mm_M} {d : List Nat} : mm_is M d 6 1 := ⟨rfl, List.mem_append_left _ (by decide)⟩
theorem mm_i7 {M : mm_M} {d : List Nat} : mm_is M d 7 2 := ⟨rfl, List.mem_append_left _ (by decide)⟩
theorem mm_i16 {M : mm_M} {d : List Nat} : mm_is M d 16 13 := ⟨rfl, List.mem_append_left _ (by decide)⟩
theorem mm_i17 {M : mm_M} {d : List Nat} : mm_is M d 17 14 := ⟨rfl, List.mem_append_left _ (by decide)⟩
theorem mm_i18 {M : mm_M} {d : List Nat} : mm_is M d 18 1 := ⟨rfl, List.mem_append_left _ (by decide)⟩
theorem mm_i19 {M : mm_M} {d : List Nat} : mm_is M d 19 1 := ⟨rfl, List.mem_append_left _ (by decide)⟩
theorem mm_i20 {M : mm_M} {d : List Nat} : mm_is M d 20 1 := ⟨rfl, List.mem_append_left _ (by decide)⟩
theorem mm_i21 {M : mm_M} {d : List Nat} : mm_is M d 21 1 := ⟨rfl, List.mem_append_left _ (by decide)⟩
theorem mm_i22 {M : mm_M} {d : List Nat} : mm_is M d 22 1 := ⟨rfl, List.mem_append_left _ (by decide)⟩
theorem mm_i23 {M : mm_M} {d : List Nat} : mm_is M d 23 15 := ⟨rfl, List.mem_append_left _ (by decide)⟩
theorem mm_l3 {M : mm_M} : mm_ln M 3 = 30 := rfl
theorem mm_l4 {M : mm_M} : mm_ln M 4 = 30 := rfl
theorem mm_l5 {M : mm_M} : mm_ln M 5 = 10 := rfl
theorem mm_l6 {M : mm_M} : mm_ln M 6 = 10 := rfl
theorem mm_l7 {M : mm_M} : mm_ln M 7 = 3 := rfl
theorem mm_l18 {M : mm_M} : mm_ln M 18 = 30 := rfl
theorem mm_l19 {M : mm_M} : mm_ln M 19 = 30 := rfl
theorem mm_l20 {M : mm_M} : mm_ln M 20 = 120 := rfl
theorem mm_l21 {M : mm_M} : mm_ln M 21 = 4 := rfl
theorem mm_l22 {M : mm_M} : mm_ln M 22 = 4 := rfl
theorem nqX3 : RX3 ≠ "java/lang/invoke/MethodHandle" ∧ RX3 ≠ "java/lang/invoke/VarHandle" := ⟨by decide +kernel, by decide +kernel⟩
theorem pd_0 : (parseMethodDescriptor "()I").map (fun d => d.parameters.length + 1) = some 1 := by decide +kernel
theorem mwX3_clear : mm_MW yX3_clear cX3_clear 2 (some .int) [] 0 10 1 := ⟨mm_t1 130 rfl rfl, mm_t1 1 rfl rfl, nqX3, TX3, _, Or.inl ⟨rfl, rfl, mm_t1 128 rfl rfl, mm_t1 129 rfl rfl, by decide, rfl, pd_0⟩⟩
theorem nqX1 : RX1 ≠ "java/lang/invoke/MethodHandle" ∧ RX1 ≠ "java/lang/invoke/VarHandle" := ⟨by decide +kernel, by decide +kernel⟩
theorem mwX1_size : mm_MW yX1_size cX1_size 1 (some .int) [] 0 11 1 := ⟨mm_t1 134 rfl rfl, mm_t1 2 rfl rfl, nqX1, TX1, _, Or.inl ⟨rfl, rfl, mm_t1 132 rfl rfl, mm_t1 133 rfl rfl, by decide, rfl, pd_0⟩⟩
theorem pd_1 : (parseMethodDescriptor "()V").map (fun d => d.parameters.length + 1) = some 1 := by decide +kernel
theorem mwX3_empty : mm_MW yX3_empty cX3_empty 2 none [] 0 10 1 := ⟨mm_t1 138 rfl rfl, mm_t1 1 rfl rfl, nqX3, TX3, _, Or.inl ⟨rfl, rfl, mm_t1 137 rfl rfl, mm_t0 0 rfl rfl, by decide, rfl, pd_1⟩⟩
theorem mwX1_dropAll : mm_MW yX1_dropAll cX1_dropAll 1 none [] 0 11 1 := ⟨mm_t1 142 rfl rfl, mm_t1 2 rfl rfl, nqX1, TX1, _, Or.inl ⟨rfl, rfl, mm_t1 140 rfl rfl, mm_t1 141 rfl rfl, by decide, rfl, pd_1⟩⟩
theorem mwX1_endWords : mm_MW yX1_endWords cX1_endWords 1 none [] 0 11 1 := ⟨mm_t1 146 rfl rfl, mm_t1 2 rfl rfl, nqX1, TX1, _, Or.inl ⟨rfl, rfl, mm_t1 144 rfl rfl, mm_t1 145 rfl rfl, by decide, rfl, pd_1⟩⟩
theorem nqX2 : RX2 ≠ "java/lang/invoke/MethodHandle" ∧ RX2 ≠ "java/lang/invoke/VarHandle" := ⟨by decide +kernel, by decide +kernel⟩
theorem pd_2 : (parseMethodDescriptor "(I)V").map (fun d => d.parameters.length + 1) = some 2 := by decide +kernel
theorem mwX2_restart : mm_MW yX2_restart cX2_restart 2 none [] 0 12 2 := ⟨mm_t1 150 rfl rfl, mm_t1 3 rfl rfl, nqX2, TX2, _, Or.inl ⟨rfl, rfl, mm_t1 148 rfl rfl, mm_t1 149 rfl rfl, by decide, rfl, pd_2⟩⟩
theorem nqX0 : RX0 ≠ "java/lang/invoke/MethodHandle" ∧ RX0 ≠ "java/lang/invoke/VarHandle" := ⟨by decide +kernel, by decide +kernel⟩
theorem mwX0_vanish : mm_MW yX0_vanish cX0_vanish 1 none [] 0 13 1 := ⟨mm_t1 154 rfl rfl, mm_t1 4 rfl rfl, nqX0, TX0, _, Or.inl ⟨rfl, rfl, mm_t1 152 rfl rfl, mm_t1 153 rfl rfl, by decide, rfl, pd_1⟩⟩
theorem pd_3 : (parseMethodDescriptor "(I)I").map (fun d => d.parameters.length + 1) = some 2 := by decide +kernel
theorem mwX3_counted : mm_MW yX3_counted cX3_counted 2 (some .int) [] 0 10 2 := ⟨mm_t1 158 rfl rfl, mm_t1 1 rfl rfl, nqX3, TX3, _, Or.inl ⟨rfl, rfl, mm_t1 157 rfl rfl, mm_t0 1 rfl rfl, by decide, rfl, pd_3⟩⟩
theorem pd_4 : (parseMethodDescriptor "(Z)I").map (fun d => d.parameters.length + 1) = some 2 := by decide +kernel
theorem mwX3_oneWay : mm_MW yX3_oneWay cX3_oneWay 3 (some .int) [] 0 10 2 := ⟨mm_t1 162 rfl rfl, mm_t1 1 rfl rfl, nqX3, TX3, _, Or.inl ⟨rfl, rfl, mm_t1 160 rfl rfl, mm_t1 161 rfl rfl, by decide, rfl, pd_4⟩⟩
theorem pd_5 : (parseMethodDescriptor "()Z").map (fun d => d.parameters.length + 1) = some 1 := by decide +kernel
theorem mwX3_anyIsBackward : mm_MW yX3_anyIsBackward cX3_anyIsBackward 2 (some .boolean) [] 0 10 1 := ⟨mm_t1 166 rfl rfl, mm_t1 1 rfl rfl, nqX3, TX3, _, Or.inl ⟨rfl, rfl, mm_t1 165 rfl rfl, mm_t0 2 rfl rfl, by decide, rfl, pd_5⟩⟩
theorem mwX2_hasBackward : mm_MW yX2_hasBackward cX2_hasBackward 2 (some .boolean) [] 0 12 1 := ⟨mm_t1 170 rfl rfl, mm_t1 3 rfl rfl, nqX2, TX2, _, Or.inl ⟨rfl, rfl, mm_t1 168 rfl rfl, mm_t1 169 rfl rfl, by decide, rfl, pd_5⟩⟩
theorem mwX1_isOneWay : mm_MW yX1_isOneWay cX1_isOneWay 1 (some .boolean) [] 0 11 1 := ⟨mm_t1 174 rfl rfl, mm_t1 2 rfl rfl, nqX1, TX1, _, Or.inl ⟨rfl, rfl, mm_t1 172 rfl rfl, mm_t1 173 rfl rfl, by decide, rfl, pd_5⟩⟩
theorem pd_6 : (parseMethodDescriptor "(Z)V").map (fun d => d.parameters.length + 1) = some 2 := by decide +kernel
theorem mwX1_setOneWay : mm_MW yX1_setOneWay cX1_setOneWay 2 none [] 0 11 2 := ⟨mm_t1 178 rfl rfl, mm_t1 2 rfl rfl, nqX1, TX1, _, Or.inl ⟨rfl, rfl, mm_t1 176 rfl rfl, mm_t1 177 rfl rfl, by decide, rfl, pd_6⟩⟩
theorem mwX3_turnTown : mm_MW yX3_turnTown cX3_turnTown 2 (some .int) [] 0 10 1 := ⟨mm_t1 182 rfl rfl, mm_t1 1 rfl rfl, nqX3, TX3, _, Or.inl ⟨rfl, rfl, mm_t1 180 rfl rfl, mm_t1 181 rfl rfl, by decide, rfl, pd_0⟩⟩
theorem mwX2_turnOrder : mm_MW yX2_turnOrder cX2_turnOrder 4 none [] 0 12 1 := ⟨mm_t1 186 rfl rfl, mm_t1 3 rfl rfl, nqX2, TX2, _, Or.inl ⟨rfl, rfl, mm_t1 184 rfl rfl, mm_t1 185 rfl rfl, by decide, rfl, pd_1⟩⟩
theorem mwX2_lastCorner : mm_MW yX2_lastCorner cX2_lastCorner 1 (some .int) [] 0 12 1 := ⟨mm_t1 190 rfl rfl, mm_t1 3 rfl rfl, nqX2, TX2, _, Or.inl ⟨rfl, rfl, mm_t1 188 rfl rfl, mm_t1 189 rfl rfl, by decide, rfl, pd_0⟩⟩
theorem mwX2_cornerOf : mm_MW yX2_cornerOf cX2_cornerOf 2 (some .int) [] 0 12 2 := ⟨mm_t1 194 rfl rfl, mm_t1 3 rfl rfl, nqX2, TX2, _, Or.inl ⟨rfl, rfl, mm_t1 192 rfl rfl, mm_t1 193 rfl rfl, by decide, rfl, pd_3⟩⟩
theorem mwX1_goalOf : mm_MW yX1_goalOf cX1_goalOf 3 (some .int) [] 0 11 2 := ⟨mm_t1 198 rfl rfl, mm_t1 2 rfl rfl, nqX1, TX1, _, Or.inl ⟨rfl, rfl, mm_t1 196 rfl rfl, mm_t1 197 rfl rfl, by decide, rfl, pd_3⟩⟩
theorem mwX1_toOf : mm_MW yX1_toOf cX1_toOf 2 (some .int) [] 0 11 2 := ⟨mm_t1 202 rfl rfl, mm_t1 2 rfl rfl, nqX1, TX1, _, Or.inl ⟨rfl, rfl, mm_t1 200 rfl rfl, mm_t1 201 rfl rfl, by decide, rfl, pd_3⟩⟩
theorem mwX1_fromOf : mm_MW yX1_fromOf cX1_fromOf 2 (some .int) [] 0 11 2 := ⟨mm_t1 206 rfl rfl, mm_t1 2 rfl rfl, nqX1, TX1, _, Or.inl ⟨rfl, rfl, mm_t1 204 rfl rfl, mm_t1 205 rfl rfl, by decide, rfl, pd_3⟩⟩
theorem mwX1_swapEnds : mm_MW yX1_swapEnds cX1_swapEnds 3 none [] 0 11 1 := ⟨mm_t1 211 rfl rfl, mm_t1 2 rfl rfl, nqX1, TX1, _, Or.inl ⟨rfl, rfl, mm_t1 209 rfl rfl, mm_t1 210 rfl rfl, by decide, rfl, pd_1⟩⟩
theorem mwX3_streets : mm_MW yX3_streets cX3_streets 1 (some .int) [] 0 10 1 := ⟨mm_t1 215 rfl rfl, mm_t1 1 rfl rfl, nqX3, TX3, _, Or.inl ⟨rfl, rfl, mm_t1 213 rfl rfl, mm_t1 214 rfl rfl, by decide, rfl, pd_0⟩⟩
theorem mwX3_odd : mm_MW yX3_odd cX3_odd 1 (some .int) [] 0 10 1 := ⟨mm_t1 219 rfl rfl, mm_t1 1 rfl rfl, nqX3, TX3, _, Or.inl ⟨rfl, rfl, mm_t1 217 rfl rfl, mm_t1 218 rfl rfl, by decide, rfl, pd_0⟩⟩
theorem mwX1_allStreets : mm_MW yX1_allStreets cX1_allStreets 1 (some .int) [] 0 11 1 := ⟨mm_t1 223 rfl rfl, mm_t1 2 rfl rfl, nqX1, TX1, _, Or.inl ⟨rfl, rfl, mm_t1 221 rfl rfl, mm_t1 222 rfl rfl, by decide, rfl, pd_0⟩⟩
theorem mwX1_oddCount : mm_MW yX1_oddCount cX1_oddCount 4 (some .int) [] 0 11 2 := ⟨mm_t1 227 rfl rfl, mm_t1 2 rfl rfl, nqX1, TX1, _, Or.inl ⟨rfl, rfl, mm_t1 225 rfl rfl, mm_t1 226 rfl rfl, by decide, rfl, pd_3⟩⟩
theorem mwX1_countWays : mm_MW yX1_countWays cX1_countWays 4 none [] 0 11 2 := ⟨mm_t1 231 rfl rfl, mm_t1 2 rfl rfl, nqX1, TX1, _, Or.inl ⟨rfl, rfl, mm_t1 230 rfl rfl, mm_t0 3 rfl rfl, by decide, rfl, pd_2⟩⟩
theorem pd_7 : (parseMethodDescriptor "(I)Z").map (fun d => d.parameters.length + 1) = some 2 := by decide +kernel
theorem mwX1_isOddAsCounted : mm_MW yX1_isOddAsCounted cX1_isOddAsCounted 2 (some .boolean) [] 0 11 2 := ⟨mm_t1 235 rfl rfl, mm_t1 2 rfl rfl, nqX1, TX1, _, Or.inl ⟨rfl, rfl, mm_t1 234 rfl rfl, mm_t0 4 rfl rfl, by decide, rfl, pd_7⟩⟩
theorem pd_8 : (parseMethodDescriptor "(I)Z").map (fun d => d.parameters.length) = some 1 := by decide +kernel
theorem mwX1_isCorner : mm_MW yX1_isCorner cX1_isCorner 1 (some .boolean) [] 1 0 1 := ⟨mm_t1 238 rfl rfl, mm_t1 2 rfl rfl, nqX1, (fun _ => default), 0, Or.inr ⟨rfl, mm_t1 237 rfl rfl, pd_8⟩⟩
theorem mwX3_hangs : mm_MW yX3_hangs cX3_hangs 1 (some .boolean) [] 0 10 1 := ⟨mm_t2 2 rfl rfl, mm_t1 1 rfl rfl, nqX3, TX3, _, Or.inl ⟨rfl, rfl, mm_t2 0 rfl rfl, mm_t2 1 rfl rfl, by decide, rfl, pd_5⟩⟩
theorem mwX1_hangTogether : mm_MW yX1_hangTogether cX1_hangTogether 6 (some .boolean) [] 0 11 2 := ⟨mm_t2 6 rfl rfl, mm_t1 2 rfl rfl, nqX1, TX1, _, Or.inl ⟨rfl, rfl, mm_t2 4 rfl rfl, mm_t2 5 rfl rfl, by decide, rfl, pd_7⟩⟩
theorem pd_9 : (parseMethodDescriptor "(II)I").map (fun d => d.parameters.length + 1) = some 3 := by decide +kernel
theorem mwX1_reachedInOnePass : mm_MW yX1_reachedInOnePass cX1_reachedInOnePass 7 (some .int) [] 0 11 3 := ⟨mm_t2 10 rfl rfl, mm_t1 2 rfl rfl, nqX1, TX1, _, Or.inl ⟨rfl, rfl, mm_t2 9 rfl rfl, mm_t0 5 rfl rfl, by decide, rfl, pd_9⟩⟩
theorem pd_10 : (parseMethodDescriptor "(II)Z").map (fun d => d.parameters.length) = some 2 := by decide +kernel
theorem mwX1_isIn : mm_MW yX1_isIn cX1_isIn 2 (some .boolean) [] 1 0 2 := ⟨mm_t2 13 rfl rfl, mm_t1 2 rfl rfl, nqX1, (fun _ => default), 0, Or.inr ⟨rfl, mm_t2 12 rfl rfl, pd_10⟩⟩
theorem mwX3_kind : mm_MW yX3_kind cX3_kind 1 (some .int) [] 0 10 1 := ⟨mm_t2 17 rfl rfl, mm_t1 1 rfl rfl, nqX3, TX3, _, Or.inl ⟨rfl, rfl, mm_t2 15 rfl rfl, mm_t2 16 rfl rfl, by decide, rfl, pd_0⟩⟩
theorem mwX1_leastStart : mm_MW yX1_leastStart cX1_leastStart 2 (some .int) [] 0 11 1 := ⟨mm_t2 23 rfl rfl, mm_t1 2 rfl rfl, nqX1, TX1, _, Or.inl ⟨rfl, rfl, mm_t2 21 rfl rfl, mm_t2 22 rfl rfl, by decide, rfl, pd_0⟩⟩
theorem pd_11 : (parseMethodDescriptor "(II)Z").map (fun d => d.parameters.length + 1) = some 3 := by decide +kernel
theorem mwX1_isStartOf : mm_MW yX1_isStartOf cX1_isStartOf 4 (some .boolean) [] 0 11 3 := ⟨mm_t2 28 rfl rfl, mm_t1 2 rfl rfl, nqX1, TX1, _, Or.inl ⟨rfl, rfl, mm_t2 26 rfl rfl, mm_t2 27 rfl rfl, by decide, rfl, pd_11⟩⟩
theorem mwX3_cursorGo : mm_MW yX3_cursorGo cX3_cursorGo 2 (some .int) [] 0 10 2 := ⟨mm_t2 34 rfl rfl, mm_t1 1 rfl rfl, nqX3, TX3, _, Or.inl ⟨rfl, rfl, mm_t2 32 rfl rfl, mm_t2 33 rfl rfl, by decide, rfl, pd_4⟩⟩
theorem mwX0_tell : mm_MW yX0_tell cX0_tell 2 (some .int) [] 0 13 2 := ⟨mm_t2 38 rfl rfl, mm_t1 4 rfl rfl, nqX0, TX0, _, Or.inl ⟨rfl, rfl, mm_t2 36 rfl rfl, mm_t2 37 rfl rfl, by decide, rfl, pd_4⟩⟩
theorem pd_12 : (parseMethodDescriptor "(Z)Z").map (fun d => d.parameters.length + 1) = some 2 := by decide +kernel
theorem mwX0_hasStep : mm_MW yX0_hasStep cX0_hasStep 3 (some .boolean) [] 0 13 2 := ⟨mm_t2 42 rfl rfl, mm_t1 4 rfl rfl, nqX0, TX0, _, Or.inl ⟨rfl, rfl, mm_t2 40 rfl rfl, mm_t2 41 rfl rfl, by decide, rfl, pd_12⟩⟩
theorem mwX2_size : mm_MW yX2_size cX2_size 1 (some .int) [] 0 12 1 := ⟨mm_t2 46 rfl rfl, mm_t1 3 rfl rfl, nqX2, TX2, _, Or.inl ⟨rfl, rfl, mm_t2 44 rfl rfl, mm_t2 45 rfl rfl, by decide, rfl, pd_0⟩⟩
theorem mwX0_placeAsked : mm_MW yX0_placeAsked cX0_placeAsked 2 (some .int) [] 0 13 2 := ⟨mm_t2 50 rfl rfl, mm_t1 4 rfl rfl, nqX0, TX0, _, Or.inl ⟨rfl, rfl, mm_t2 48 rfl rfl, mm_t2 49 rfl rfl, by decide, rfl, pd_4⟩⟩
theorem mwX2_stepOf : mm_MW yX2_stepOf cX2_stepOf 2 (some .int) [] 0 12 2 := ⟨mm_t2 54 rfl rfl, mm_t1 3 rfl rfl, nqX2, TX2, _, Or.inl ⟨rfl, rfl, mm_t2 52 rfl rfl, mm_t2 53 rfl rfl, by decide, rfl, pd_3⟩⟩
theorem mwX3_cursorRemove : mm_MW yX3_cursorRemove cX3_cursorRemove 1 (some .int) [] 0 10 1 := ⟨mm_t2 58 rfl rfl, mm_t1 1 rfl rfl, nqX3, TX3, _, Or.inl ⟨rfl, rfl, mm_t2 56 rfl rfl, mm_t2 57 rfl rfl, by decide, rfl, pd_0⟩⟩
theorem mwX0_removeTold : mm_MW yX0_removeTold cX0_removeTold 3 (some .int) [] 0 13 1 := ⟨mm_t2 62 rfl rfl, mm_t1 4 rfl rfl, nqX0, TX0, _, Or.inl ⟨rfl, rfl, mm_t2 60 rfl rfl, mm_t2 61 rfl rfl, by decide, rfl, pd_0⟩⟩
theorem mwX1_isLoop : mm_MW yX1_isLoop cX1_isLoop 2 (some .boolean) [] 0 11 2 := ⟨mm_t2 66 rfl rfl, mm_t1 2 rfl rfl, nqX1, TX1, _, Or.inl ⟨rfl, rfl, mm_t2 64 rfl rfl, mm_t2 65 rfl rfl, by decide, rfl, pd_7⟩⟩
theorem mwX2_takeOutFirst : mm_MW yX2_takeOutFirst cX2_takeOutFirst 1 none [] 0 12 1 := ⟨mm_t2 70 rfl rfl, mm_t1 3 rfl rfl, nqX2, TX2, _, Or.inl ⟨rfl, rfl, mm_t2 68 rfl rfl, mm_t2 69 rfl rfl, by decide, rfl, pd_1⟩⟩
theorem mwX2_takeOut : mm_MW yX2_takeOut cX2_takeOut 3 none [] 0 12 2 := ⟨mm_t2 74 rfl rfl, mm_t1 3 rfl rfl, nqX2, TX2, _, Or.inl ⟨rfl, rfl, mm_t2 72 rfl rfl, mm_t2 73 rfl rfl, by decide, rfl, pd_2⟩⟩
theorem mwX3_cursorCan : mm_MW yX3_cursorCan cX3_cursorCan 2 (some .boolean) [] 0 10 2 := ⟨mm_t2 79 rfl rfl, mm_t1 1 rfl rfl, nqX3, TX3, _, Or.inl ⟨rfl, rfl, mm_t2 77 rfl rfl, mm_t2 78 rfl rfl, by decide, rfl, pd_12⟩⟩
theorem mwX3_cursorPlace : mm_MW yX3_cursorPlace cX3_cursorPlace 2 (some .int) [] 0 10 2 := ⟨mm_t2 84 rfl rfl, mm_t1 1 rfl rfl, nqX3, TX3, _, Or.inl ⟨rfl, rfl, mm_t2 82 rfl rfl, mm_t2 83 rfl rfl, by decide, rfl, pd_4⟩⟩
theorem mwX3_knock : mm_MW yX3_knock cX3_knock 1 (some .int) [] 0 10 1 := ⟨mm_t2 89 rfl rfl, mm_t1 1 rfl rfl, nqX3, TX3, _, Or.inl ⟨rfl, rfl, mm_t2 87 rfl rfl, mm_t2 88 rfl rfl, by decide, rfl, pd_0⟩⟩
theorem mwX3_isSound : mm_MW yX3_isSound cX3_isSound 3 (some .boolean) [] 0 10 1 := ⟨mm_t2 93 rfl rfl, mm_t1 1 rfl rfl, nqX3, TX3, _, Or.inl ⟨rfl, rfl, mm_t2 91 rfl rfl, mm_t2 92 rfl rfl, by decide, rfl, pd_5⟩⟩
theorem mwX2_isTrueWalk : mm_MW yX2_isTrueWalk cX2_isTrueWalk 5 (some .boolean) [] 0 12 1 := ⟨mm_t2 97 rfl rfl, mm_t1 3 rfl rfl, nqX2, TX2, _, Or.inl ⟨rfl, rfl, mm_t2 95 rfl rfl, mm_t2 96 rfl rfl, by decide, rfl, pd_5⟩⟩
theorem mwX1_leaving : mm_MW yX1_leaving cX1_leaving 3 (some .int) [] 0 11 3 := ⟨mm_t2 101 rfl rfl, mm_t1 2 rfl rfl, nqX1, TX1, _, Or.inl ⟨rfl, rfl, mm_t2 99 rfl rfl, mm_t2 100 rfl rfl, by decide, rfl, pd_9⟩⟩
theorem mwX2_leadsBack : mm_MW yX2_leadsBack cX2_leadsBack 3 (some .boolean) [] 0 12 1 := ⟨mm_t2 105 rfl rfl, mm_t1 3 rfl rfl, nqX2, TX2, _, Or.inl ⟨rfl, rfl, mm_t2 104 rfl rfl, mm_t0 6 rfl rfl, by decide, rfl, pd_5⟩⟩
theorem mwX1_sourceOf : mm_MW yX1_sourceOf cX1_sourceOf 2 (some .int) [] 0 11 2 := ⟨mm_t2 109 rfl rfl, mm_t1 2 rfl rfl, nqX1, TX1, _, Or.inl ⟨rfl, rfl, mm_t2 107 rfl rfl, mm_t2 108 rfl rfl, by decide, rfl, pd_3⟩⟩
theorem mwX1_waysAddUp : mm_MW yX1_waysAddUp cX1_waysAddUp 5 (some .boolean) [] 0 11 1 := ⟨mm_t2 115 rfl rfl, mm_t1 2 rfl rfl, nqX1, TX1, _, Or.inl ⟨rfl, rfl, mm_t2 113 rfl rfl, mm_t2 114 rfl rfl, by decide, rfl, pd_5⟩⟩
theorem mwX2_fillUp : mm_MW yX2_fillUp cX2_fillUp 4 (some .int) [] 0 12 2 := ⟨mm_t2 119 rfl rfl, mm_t1 3 rfl rfl, nqX2, TX2, _, Or.inl ⟨rfl, rfl, mm_t2 117 rfl rfl, mm_t2 118 rfl rfl, by decide, rfl, pd_4⟩⟩
theorem pd_13 : (parseMethodDescriptor "(IZ)I").map (fun d => d.parameters.length + 1) = some 3 := by decide +kernel
theorem mwX2_goOn : mm_MW yX2_goOn cX2_goOn 8 (some .int) [] 0 12 3 := ⟨mm_t2 123 rfl rfl, mm_t1 3 rfl rfl, nqX2, TX2, _, Or.inl ⟨rfl, rfl, mm_t2 121 rfl rfl, mm_t2 122 rfl rfl, by decide, rfl, pd_13⟩⟩
theorem mwX2_notWalked : mm_MW yX2_notWalked cX2_notWalked 3 (some .int) [] 0 12 1 := ⟨mm_t2 127 rfl rfl, mm_t1 3 rfl rfl, nqX2, TX2, _, Or.inl ⟨rfl, rfl, mm_t2 126 rfl rfl, mm_t0 7 rfl rfl, by decide, rfl, pd_0⟩⟩
theorem pd_14 : (parseMethodDescriptor "(IIZ)I").map (fun d => d.parameters.length + 1) = some 4 := by decide +kernel
theorem mwX1_stepOn : mm_MW yX1_stepOn cX1_stepOn 7 (some .int) [] 0 11 4 := ⟨mm_t2 132 rfl rfl, mm_t1 2 rfl rfl, nqX1, TX1, _, Or.inl ⟨rfl, rfl, mm_t2 130 rfl rfl, mm_t2 131 rfl rfl, by decide, rfl, pd_14⟩⟩
theorem pd_15 : (parseMethodDescriptor "(II)V").map (fun d => d.parameters.length + 1) = some 3 := by decide +kernel
theorem mwX2_putIn : mm_MW yX2_putIn cX2_putIn 4 none [] 0 12 3 := ⟨mm_t2 137 rfl rfl, mm_t1 3 rfl rfl, nqX2, TX2, _, Or.inl ⟨rfl, rfl, mm_t2 135 rfl rfl, mm_t2 136 rfl rfl, by decide, rfl, pd_15⟩⟩
theorem mwX2_isWhole : mm_MW yX2_isWhole cX2_isWhole 1 (some .boolean) [] 0 12 1 := ⟨mm_t2 141 rfl rfl, mm_t1 3 rfl rfl, nqX2, TX2, _, Or.inl ⟨rfl, rfl, mm_t2 139 rfl rfl, mm_t2 140 rfl rfl, by decide, rfl, pd_5⟩⟩
theorem mwX2_isHome : mm_MW yX2_isHome cX2_isHome 1 (some .boolean) [] 0 12 1 := ⟨mm_t2 146 rfl rfl, mm_t1 3 rfl rfl, nqX2, TX2, _, Or.inl ⟨rfl, rfl, mm_t2 144 rfl rfl, mm_t2 145 rfl rfl, by decide, rfl, pd_5⟩⟩
theorem pd_16 : (parseMethodDescriptor "(LAllstreets$Walk;)Z").map (fun d => d.parameters.length + 1) = some 2 := by decide +kernel
theorem mwX3_hasEachWordOnce : mm_MW yX3_hasEachWordOnce cX3_hasEachWordOnce 4 (some .boolean) [] 0 10 2 := ⟨mm_t2 150 rfl rfl, mm_t1 1 rfl rfl, nqX3, TX3, _, Or.inl ⟨rfl, rfl, mm_t2 149 rfl rfl, mm_t0 8 rfl rfl, by decide, rfl, pd_16⟩⟩
theorem mwX1_isOfWords : mm_MW yX1_isOfWords cX1_isOfWords 1 (some .boolean) [] 0 11 1 := ⟨mm_t2 154 rfl rfl, mm_t1 2 rfl rfl, nqX1, TX1, _, Or.inl ⟨rfl, rfl, mm_t2 152 rfl rfl, mm_t2 153 rfl rfl, by decide, rfl, pd_5⟩⟩
theorem mwX2_placeOfWord : mm_MW yX2_placeOfWord cX2_placeOfWord 4 (some .int) [] 0 12 3 := ⟨mm_t2 158 rfl rfl, mm_t1 3 rfl rfl, nqX2, TX2, _, Or.inl ⟨rfl, rfl, mm_t2 156 rfl rfl, mm_t2 157 rfl rfl, by decide, rfl, pd_9⟩⟩
theorem mwX2_hasWord : mm_MW yX2_hasWord cX2_hasWord 6 (some .boolean) [] 0 12 3 := ⟨mm_t2 163 rfl rfl, mm_t1 3 rfl rfl, nqX2, TX2, _, Or.inl ⟨rfl, rfl, mm_t2 162 rfl rfl, mm_t0 9 rfl rfl, by decide, rfl, pd_11⟩⟩
theorem mwX1_signCount : mm_MW yX1_signCount cX1_signCount 1 (some .int) [] 0 11 1 := ⟨mm_t2 167 rfl rfl, mm_t1 2 rfl rfl, nqX1, TX1, _, Or.inl ⟨rfl, rfl, mm_t2 165 rfl rfl, mm_t2 166 rfl rfl, by decide, rfl, pd_0⟩⟩
theorem mwX1_wordSize : mm_MW yX1_wordSize cX1_wordSize 1 (some .int) [] 0 11 1 := ⟨mm_t2 171 rfl rfl, mm_t1 2 rfl rfl, nqX1, TX1, _, Or.inl ⟨rfl, rfl, mm_t2 169 rfl rfl, mm_t2 170 rfl rfl, by decide, rfl, pd_0⟩⟩
theorem mwX1_signOf : mm_MW yX1_signOf cX1_signOf 2 (some .int) [] 0 11 2 := ⟨mm_t2 175 rfl rfl, mm_t1 2 rfl rfl, nqX1, TX1, _, Or.inl ⟨rfl, rfl, mm_t2 173 rfl rfl, mm_t2 174 rfl rfl, by decide, rfl, pd_3⟩⟩
theorem pd_17 : (parseMethodDescriptor "()J").map (fun d => d.parameters.length + 1) = some 1 := by decide +kernel
theorem mwX3_digest : mm_MW yX3_digest cX3_digest 4 (some .long) [] 0 10 1 := ⟨mm_t2 179 rfl rfl, mm_t1 1 rfl rfl, nqX3, TX3, _, Or.inl ⟨rfl, rfl, mm_t2 177 rfl rfl, mm_t2 178 rfl rfl, by decide, rfl, pd_17⟩⟩
theorem pd_18 : (parseMethodDescriptor "(J)J").map (fun d => d.parameters.length + 1) = some 2 := by decide +kernel
theorem mwX3_digestOfTown : mm_MW yX3_digestOfTown cX3_digestOfTown 6 (some .long) [] 0 10 2 := ⟨mm_t2 184 rfl rfl, mm_t1 1 rfl rfl, nqX3, TX3, _, Or.inl ⟨rfl, rfl, mm_t2 183 rfl rfl, mm_t0 10 rfl rfl, by decide, rfl, pd_18⟩⟩
theorem pd_19 : (parseMethodDescriptor "(JJ)J").map (fun d => d.parameters.length) = some 2 := by decide +kernel
theorem mwX3_mixed : mm_MW yX3_mixed cX3_mixed 4 (some .long) [] 1 0 2 := ⟨mm_t2 187 rfl rfl, mm_t1 1 rfl rfl, nqX3, (fun _ => default), 0, Or.inr ⟨rfl, mm_t2 186 rfl rfl, pd_19⟩⟩
theorem mwX1_outOf : mm_MW yX1_outOf cX1_outOf 2 (some .int) [] 0 11 2 := ⟨mm_t2 194 rfl rfl, mm_t1 2 rfl rfl, nqX1, TX1, _, Or.inl ⟨rfl, rfl, mm_t2 192 rfl rfl, mm_t2 193 rfl rfl, by decide, rfl, pd_3⟩⟩
theorem mwX1_inOf : mm_MW yX1_inOf cX1_inOf 2 (some .int) [] 0 11 2 := ⟨mm_t2 198 rfl rfl, mm_t1 2 rfl rfl, nqX1, TX1, _, Or.inl ⟨rfl, rfl, mm_t2 196 rfl rfl, mm_t2 197 rfl rfl, by decide, rfl, pd_3⟩⟩
theorem pd_20 : (parseMethodDescriptor "(Z)I").map (fun d => d.parameters.length) = some 1 := by decide +kernel
theorem mwX3_numberOf : mm_MW yX3_numberOf cX3_numberOf 1 (some .int) [] 1 0 1 := ⟨mm_t2 202 rfl rfl, mm_t1 1 rfl rfl, nqX3, (fun _ => default), 0, Or.inr ⟨rfl, mm_t2 201 rfl rfl, pd_20⟩⟩
theorem pd_21 : (parseMethodDescriptor "(JI)J").map (fun d => d.parameters.length + 1) = some 3 := by decide +kernel
theorem mwX3_digestOfWalk : mm_MW yX3_digestOfWalk cX3_digestOfWalk 9 (some .long) [] 0 10 3 := ⟨mm_t2 208 rfl rfl, mm_t1 1 rfl rfl, nqX3, TX3, _, Or.inl ⟨rfl, rfl, mm_t2 207 rfl rfl, mm_t0 11 rfl rfl, by decide, rfl, pd_21⟩⟩
theorem pd_22 : (parseMethodDescriptor "(I)LAllstreets$Walk;").map (fun d => d.parameters.length + 1) = some 2 := by decide +kernel
theorem mwX3_walkOf : mm_MW yX3_walkOf cX3_walkOf 2 (some (.object "Allstreets$Walk")) [] 0 10 2 := ⟨mm_t2 212 rfl rfl, mm_t1 1 rfl rfl, nqX3, TX3, _, Or.inl ⟨rfl, rfl, mm_t2 211 rfl rfl, mm_t0 12 rfl rfl, by decide, rfl, pd_22⟩⟩
theorem mwX2_firstCorner : mm_MW yX2_firstCorner cX2_firstCorner 1 (some .int) [] 0 12 1 := ⟨mm_t3 44 rfl rfl, mm_t1 3 rfl rfl, nqX2, TX2, _, Or.inl ⟨rfl, rfl, mm_t3 42 rfl rfl, mm_t3 43 rfl rfl, by decide, rfl, pd_0⟩⟩
theorem pd_23 : (parseMethodDescriptor "(LAllstreets$Walk;)I").map (fun d => d.parameters.length + 1) = some 2 := by decide +kernel
theorem mwX2_turnTo : mm_MW yX2_turnTo cX2_turnTo 3 (some .int) [] 0 12 2 := ⟨mm_t3 50 rfl rfl, mm_t1 3 rfl rfl, nqX2, TX2, _, Or.inl ⟨rfl, rfl, mm_t3 48 rfl rfl, mm_t3 49 rfl rfl, by decide, rfl, pd_23⟩⟩
theorem pd_24 : (parseMethodDescriptor "(LAllstreets$Walk;I)Z").map (fun d => d.parameters.length + 1) = some 3 := by decide +kernel
theorem mwX2_isSameTurned : mm_MW yX2_isSameTurned cX2_isSameTurned 4 (some .boolean) [] 0 12 3 := ⟨mm_t3 54 rfl rfl, mm_t1 3 rfl rfl, nqX2, TX2, _, Or.inl ⟨rfl, rfl, mm_t3 52 rfl rfl, mm_t3 53 rfl rfl, by decide, rfl, pd_24⟩⟩
theorem nqL : RL ≠ "java/lang/invoke/MethodHandle" ∧ RL ≠ "java/lang/invoke/VarHandle" := ⟨by decide +kernel, by decide +kernel⟩
theorem pd_25 : (parseMethodDescriptor "(LAllstreets;IILAllstreetsLaw$Out;)I").map (fun d => d.parameters.length) = some 4 := by decide +kernel
theorem mwL_lay : mm_MW yL_lay cL_lay 5 (some .int) [(0, 11, 14, 19)] 1 0 4 := ⟨mm_t3 74 rfl rfl, mm_t1 0 rfl rfl, nqL, (fun _ => default), 0, Or.inr ⟨rfl, mm_t3 73 rfl rfl, pd_25⟩⟩
theorem mwX3_lay : mm_MW yX3_lay cX3_lay 3 (some .int) [] 0 10 3 := ⟨mm_t3 79 rfl rfl, mm_t1 1 rfl rfl, nqX3, TX3, _, Or.inl ⟨rfl, rfl, mm_t3 77 rfl rfl, mm_t3 78 rfl rfl, by decide, rfl, pd_9⟩⟩
theorem mwX3_checkCorner : mm_MW yX3_checkCorner cX3_checkCorner 2 none [] 0 10 2 := ⟨mm_t3 83 rfl rfl, mm_t1 1 rfl rfl, nqX3, TX3, _, Or.inl ⟨rfl, rfl, mm_t3 82 rfl rfl, mm_t0 14 rfl rfl, by decide, rfl, pd_2⟩⟩
theorem mwX1_hasRoomFor : mm_MW yX1_hasRoomFor cX1_hasRoomFor 2 (some .boolean) [] 0 11 2 := ⟨mm_t3 89 rfl rfl, mm_t1 2 rfl rfl, nqX1, TX1, _, Or.inl ⟨rfl, rfl, mm_t3 87 rfl rfl, mm_t3 88 rfl rfl, by decide, rfl, pd_7⟩⟩
theorem mwX1_addStreet : mm_MW yX1_addStreet cX1_addStreet 3 none [] 0 11 3 := ⟨mm_t3 93 rfl rfl, mm_t1 2 rfl rfl, nqX1, TX1, _, Or.inl ⟨rfl, rfl, mm_t3 91 rfl rfl, mm_t3 92 rfl rfl, by decide, rfl, pd_15⟩⟩
theorem mwL_layRing : mm_MW yL_layRing cL_layRing 5 (some .int) [(0, 11, 14, 24)] 1 0 4 := ⟨mm_t3 96 rfl rfl, mm_t1 0 rfl rfl, nqL, (fun _ => default), 0, Or.inr ⟨rfl, mm_t3 95 rfl rfl, pd_25⟩⟩
theorem mwX3_layRing : mm_MW yX3_layRing cX3_layRing 3 (some .int) [] 0 10 3 := ⟨mm_t3 101 rfl rfl, mm_t1 1 rfl rfl, nqX3, TX3, _, Or.inl ⟨rfl, rfl, mm_t3 99 rfl rfl, mm_t3 100 rfl rfl, by decide, rfl, pd_9⟩⟩
theorem pd_26 : (parseMethodDescriptor "(III)V").map (fun d => d.parameters.length) = some 3 := by decide +kernel
theorem mwX3_checkRange : mm_MW yX3_checkRange cX3_checkRange 3 none [] 1 0 3 := ⟨mm_t3 104 rfl rfl, mm_t1 1 rfl rfl, nqX3, (fun _ => default), 0, Or.inr ⟨rfl, mm_t3 103 rfl rfl, pd_26⟩⟩
theorem mwX1_addRing : mm_MW yX1_addRing cX1_addRing 4 none [] 0 11 3 := ⟨mm_t3 124 rfl rfl, mm_t1 2 rfl rfl, nqX1, TX1, _, Or.inl ⟨rfl, rfl, mm_t3 122 rfl rfl, mm_t3 123 rfl rfl, by decide, rfl, pd_15⟩⟩
theorem mwL_words : mm_MW yL_words cL_words 5 (some .int) [(0, 11, 14, 24)] 1 0 4 := ⟨mm_t3 128 rfl rfl, mm_t1 0 rfl rfl, nqL, (fun _ => default), 0, Or.inr ⟨rfl, mm_t3 127 rfl rfl, pd_25⟩⟩
theorem mwX3_words : mm_MW yX3_words cX3_words 3 (some .int) [] 0 10 3 := ⟨mm_t3 132 rfl rfl, mm_t1 1 rfl rfl, nqX3, TX3, _, Or.inl ⟨rfl, rfl, mm_t3 130 rfl rfl, mm_t3 131 rfl rfl, by decide, rfl, pd_9⟩⟩
theorem pd_27 : (parseMethodDescriptor "(II)I").map (fun d => d.parameters.length) = some 2 := by decide +kernel
theorem mwX3_powerOf : mm_MW yX3_powerOf cX3_powerOf 4 (some .int) [] 1 0 2 := ⟨mm_t3 135 rfl rfl, mm_t1 1 rfl rfl, nqX3, (fun _ => default), 0, Or.inr ⟨rfl, mm_t3 134 rfl rfl, pd_27⟩⟩
theorem mwX1_becomeWords : mm_MW yX1_becomeWords cX1_becomeWords 5 none [] 0 11 3 := ⟨mm_t3 139 rfl rfl, mm_t1 2 rfl rfl, nqX1, TX1, _, Or.inl ⟨rfl, rfl, mm_t3 137 rfl rfl, mm_t3 138 rfl rfl, by decide, rfl, pd_15⟩⟩
theorem pd_28 : (parseMethodDescriptor "(LAllstreets;ILAllstreetsLaw$Out;)I").map (fun d => d.parameters.length) = some 3 := by decide +kernel
theorem mwL_close : mm_MW yL_close cL_close 4 (some .int) [(0, 10, 13, 19)] 1 0 3 := ⟨mm_t3 143 rfl rfl, mm_t1 0 rfl rfl, nqL, (fun _ => default), 0, Or.inr ⟨rfl, mm_t3 142 rfl rfl, pd_28⟩⟩
theorem mwX3_close : mm_MW yX3_close cX3_close 3 (some .int) [] 0 10 2 := ⟨mm_t3 147 rfl rfl, mm_t1 1 rfl rfl, nqX3, TX3, _, Or.inl ⟨rfl, rfl, mm_t3 145 rfl rfl, mm_t3 146 rfl rfl, by decide, rfl, pd_3⟩⟩
theorem mwX3_checkStreet : mm_MW yX3_checkStreet cX3_checkStreet 2 none [] 0 10 2 := ⟨mm_t3 151 rfl rfl, mm_t1 1 rfl rfl, nqX3, TX3, _, Or.inl ⟨rfl, rfl, mm_t3 150 rfl rfl, mm_t0 15 rfl rfl, by decide, rfl, pd_2⟩⟩
theorem mwX2_placeOf : mm_MW yX2_placeOf cX2_placeOf 3 (some .int) [] 0 12 2 := ⟨mm_t3 156 rfl rfl, mm_t1 3 rfl rfl, nqX2, TX2, _, Or.inl ⟨rfl, rfl, mm_t3 154 rfl rfl, mm_t3 155 rfl rfl, by decide, rfl, pd_3⟩⟩
theorem mwX1_dropStreet : mm_MW yX1_dropStreet cX1_dropStreet 3 none [] 0 11 2 := ⟨mm_t3 160 rfl rfl, mm_t1 2 rfl rfl, nqX1, TX1, _, Or.inl ⟨rfl, rfl, mm_t3 158 rfl rfl, mm_t3 159 rfl rfl, by decide, rfl, pd_2⟩⟩
theorem mwX2_renumberBehind : mm_MW yX2_renumberBehind cX2_renumberBehind 3 none [] 0 12 2 := ⟨mm_t3 164 rfl rfl, mm_t1 3 rfl rfl, nqX2, TX2, _, Or.inl ⟨rfl, rfl, mm_t3 162 rfl rfl, mm_t3 163 rfl rfl, by decide, rfl, pd_2⟩⟩
theorem pd_29 : (parseMethodDescriptor "(LAllstreets;IZLAllstreetsLaw$Out;)I").map (fun d => d.parameters.length) = some 4 := by decide +kernel
theorem mwL_end : mm_MW yL_end cL_end 5 (some .int) [(0, 11, 14, 19)] 1 0 4 := ⟨mm_t3 167 rfl rfl, mm_t1 0 rfl rfl, nqL, (fun _ => default), 0, Or.inr ⟨rfl, mm_t3 166 rfl rfl, pd_29⟩⟩
theorem mwX3_end : mm_MW yX3_end cX3_end 3 (some .int) [] 0 10 3 := ⟨mm_t3 171 rfl rfl, mm_t1 1 rfl rfl, nqX3, TX3, _, Or.inl ⟨rfl, rfl, mm_t3 169 rfl rfl, mm_t3 170 rfl rfl, by decide, rfl, pd_13⟩⟩
theorem mwL_ways : mm_MW yL_ways cL_ways 5 (some .int) [(0, 11, 14, 19), (0, 11, 18, 24)] 1 0 4 := ⟨mm_t3 174 rfl rfl, mm_t1 0 rfl rfl, nqL, (fun _ => default), 0, Or.inr ⟨rfl, mm_t3 173 rfl rfl, pd_25⟩⟩
theorem mwX3_ways : mm_MW yX3_ways cX3_ways 3 (some .int) [] 0 10 3 := ⟨mm_t3 178 rfl rfl, mm_t1 1 rfl rfl, nqX3, TX3, _, Or.inl ⟨rfl, rfl, mm_t3 176 rfl rfl, mm_t3 177 rfl rfl, by decide, rfl, pd_9⟩⟩
theorem mwL_isStart : mm_MW yL_isStart cL_isStart 4 (some .int) [(0, 17, 20, 19)] 1 0 3 := ⟨mm_t3 181 rfl rfl, mm_t1 0 rfl rfl, nqL, (fun _ => default), 0, Or.inr ⟨rfl, mm_t3 180 rfl rfl, pd_28⟩⟩
theorem mwX3_isStart : mm_MW yX3_isStart cX3_isStart 2 (some .boolean) [] 0 10 2 := ⟨mm_t3 185 rfl rfl, mm_t1 1 rfl rfl, nqX3, TX3, _, Or.inl ⟨rfl, rfl, mm_t3 183 rfl rfl, mm_t3 184 rfl rfl, by decide, rfl, pd_7⟩⟩
theorem mwL_rule : mm_MW yL_rule cL_rule 4 (some .int) [(0, 10, 13, 24)] 1 0 3 := ⟨mm_t3 188 rfl rfl, mm_t1 0 rfl rfl, nqL, (fun _ => default), 0, Or.inr ⟨rfl, mm_t3 187 rfl rfl, pd_28⟩⟩
theorem mwX3_rule : mm_MW yX3_rule cX3_rule 2 (some .int) [] 0 10 2 := ⟨mm_t3 192 rfl rfl, mm_t1 1 rfl rfl, nqX3, TX3, _, Or.inl ⟨rfl, rfl, mm_t3 190 rfl rfl, mm_t3 191 rfl rfl, by decide, rfl, pd_3⟩⟩
theorem mwL_begin : mm_MW yL_begin cL_begin 5 (some .int) [(0, 11, 14, 19)] 1 0 4 := ⟨mm_t3 195 rfl rfl, mm_t1 0 rfl rfl, nqL, (fun _ => default), 0, Or.inr ⟨rfl, mm_t3 194 rfl rfl, pd_25⟩⟩
theorem mwX3_begin : mm_MW yX3_begin cX3_begin 5 (some .int) [] 0 10 3 := ⟨mm_t3 199 rfl rfl, mm_t1 1 rfl rfl, nqX3, TX3, _, Or.inl ⟨rfl, rfl, mm_t3 197 rfl rfl, mm_t3 198 rfl rfl, by decide, rfl, pd_9⟩⟩
theorem pd_30 : (parseMethodDescriptor "(LAllstreets$Walk;)V").map (fun d => d.parameters.length + 1) = some 2 := by decide +kernel
theorem mwX0_loseOn : mm_MW yX0_loseOn cX0_loseOn 2 none [] 0 13 2 := ⟨mm_t3 203 rfl rfl, mm_t1 4 rfl rfl, nqX0, TX0, _, Or.inl ⟨rfl, rfl, mm_t3 201 rfl rfl, mm_t3 202 rfl rfl, by decide, rfl, pd_30⟩⟩
theorem pd_31 : (parseMethodDescriptor "(LAllstreets;IIZLAllstreetsLaw$Out;)I").map (fun d => d.parameters.length) = some 5 := by decide +kernel
theorem mwL_step : mm_MW yL_step cL_step 6 (some .int) [(0, 13, 16, 19)] 1 0 5 := ⟨mm_t3 206 rfl rfl, mm_t1 0 rfl rfl, nqL, (fun _ => default), 0, Or.inr ⟨rfl, mm_t3 205 rfl rfl, pd_31⟩⟩
theorem mwX3_step : mm_MW yX3_step cX3_step 5 (some .int) [] 0 10 4 := ⟨mm_t3 210 rfl rfl, mm_t1 1 rfl rfl, nqX3, TX3, _, Or.inl ⟨rfl, rfl, mm_t3 208 rfl rfl, mm_t3 209 rfl rfl, by decide, rfl, pd_14⟩⟩
theorem mwX2_walkStreet : mm_MW yX2_walkStreet cX2_walkStreet 4 (some .int) [] 0 12 3 := ⟨mm_t3 214 rfl rfl, mm_t1 3 rfl rfl, nqX2, TX2, _, Or.inl ⟨rfl, rfl, mm_t3 212 rfl rfl, mm_t3 213 rfl rfl, by decide, rfl, pd_13⟩⟩
theorem mwX1_comingTo : mm_MW yX1_comingTo cX1_comingTo 3 (some .int) [] 0 11 3 := ⟨mm_t3 218 rfl rfl, mm_t1 2 rfl rfl, nqX1, TX1, _, Or.inl ⟨rfl, rfl, mm_t3 216 rfl rfl, mm_t3 217 rfl rfl, by decide, rfl, pd_9⟩⟩
theorem mwX2_putAhead : mm_MW yX2_putAhead cX2_putAhead 2 none [] 0 12 2 := ⟨mm_t3 223 rfl rfl, mm_t1 3 rfl rfl, nqX2, TX2, _, Or.inl ⟨rfl, rfl, mm_t3 221 rfl rfl, mm_t3 222 rfl rfl, by decide, rfl, pd_2⟩⟩
theorem pd_32 : (parseMethodDescriptor "(LAllstreets$Walk;I)I").map (fun d => d.parameters.length + 1) = some 3 := by decide +kernel
theorem mwX3_countedMove : mm_MW yX3_countedMove cX3_countedMove 3 (some .int) [] 0 10 3 := ⟨mm_t3 227 rfl rfl, mm_t1 1 rfl rfl, nqX3, TX3, _, Or.inl ⟨rfl, rfl, mm_t3 226 rfl rfl, mm_t0 16 rfl rfl, by decide, rfl, pd_32⟩⟩
theorem mwL_back : mm_MW yL_back cL_back 5 (some .int) [(0, 11, 14, 19)] 1 0 4 := ⟨mm_t3 230 rfl rfl, mm_t1 0 rfl rfl, nqL, (fun _ => default), 0, Or.inr ⟨rfl, mm_t3 229 rfl rfl, pd_29⟩⟩
theorem mwX3_back : mm_MW yX3_back cX3_back 4 (some .int) [] 0 10 3 := ⟨mm_t3 234 rfl rfl, mm_t1 1 rfl rfl, nqX3, TX3, _, Or.inl ⟨rfl, rfl, mm_t3 232 rfl rfl, mm_t3 233 rfl rfl, by decide, rfl, pd_13⟩⟩
theorem mwX2_stepBack : mm_MW yX2_stepBack cX2_stepBack 3 (some .int) [] 0 12 2 := ⟨mm_t3 238 rfl rfl, mm_t1 3 rfl rfl, nqX2, TX2, _, Or.inl ⟨rfl, rfl, mm_t3 236 rfl rfl, mm_t3 237 rfl rfl, by decide, rfl, pd_4⟩⟩
theorem mwL_on : mm_MW yL_on cL_on 5 (some .int) [(0, 11, 14, 19)] 1 0 4 := ⟨mm_t4 3 rfl rfl, mm_t1 0 rfl rfl, nqL, (fun _ => default), 0, Or.inr ⟨rfl, mm_t4 2 rfl rfl, pd_29⟩⟩
theorem mwX3_on : mm_MW yX3_on cX3_on 4 (some .int) [] 0 10 3 := ⟨mm_t4 7 rfl rfl, mm_t1 1 rfl rfl, nqX3, TX3, _, Or.inl ⟨rfl, rfl, mm_t4 5 rfl rfl, mm_t4 6 rfl rfl, by decide, rfl, pd_13⟩⟩
theorem mwX3_countedGrowth : mm_MW yX3_countedGrowth cX3_countedGrowth 3 (some .int) [] 0 10 3 := ⟨mm_t4 12 rfl rfl, mm_t1 1 rfl rfl, nqX3, TX3, _, Or.inl ⟨rfl, rfl, mm_t4 11 rfl rfl, mm_t0 17 rfl rfl, by decide, rfl, pd_32⟩⟩
theorem mwL_complete : mm_MW yL_complete cL_complete 5 (some .int) [(0, 11, 14, 19)] 1 0 4 := ⟨mm_t4 15 rfl rfl, mm_t1 0 rfl rfl, nqL, (fun _ => default), 0, Or.inr ⟨rfl, mm_t4 14 rfl rfl, pd_29⟩⟩
theorem mwX3_complete : mm_MW yX3_complete cX3_complete 4 (some .int) [] 0 10 3 := ⟨mm_t4 19 rfl rfl, mm_t1 1 rfl rfl, nqX3, TX3, _, Or.inl ⟨rfl, rfl, mm_t4 17 rfl rfl, mm_t4 18 rfl rfl, by decide, rfl, pd_13⟩⟩
theorem pd_33 : (parseMethodDescriptor "(LAllstreets;IIILAllstreetsLaw$Out;)I").map (fun d => d.parameters.length) = some 5 := by decide +kernel
theorem mwL_splice : mm_MW yL_splice cL_splice 6 (some .int) [(0, 13, 16, 19)] 1 0 5 := ⟨mm_t4 22 rfl rfl, mm_t1 0 rfl rfl, nqL, (fun _ => default), 0, Or.inr ⟨rfl, mm_t4 21 rfl rfl, pd_33⟩⟩
theorem pd_34 : (parseMethodDescriptor "(III)I").map (fun d => d.parameters.length + 1) = some 4 := by decide +kernel
theorem mwX3_splice : mm_MW yX3_splice cX3_splice 6 (some .int) [] 0 10 4 := ⟨mm_t4 26 rfl rfl, mm_t1 1 rfl rfl, nqX3, TX3, _, Or.inl ⟨rfl, rfl, mm_t4 24 rfl rfl, mm_t4 25 rfl rfl, by decide, rfl, pd_34⟩⟩
theorem pd_35 : (parseMethodDescriptor "(II)V").map (fun d => d.parameters.length) = some 2 := by decide +kernel
theorem mwX3_checkIndex : mm_MW yX3_checkIndex cX3_checkIndex 2 none [] 1 0 2 := ⟨mm_t4 29 rfl rfl, mm_t1 1 rfl rfl, nqX3, (fun _ => default), 0, Or.inr ⟨rfl, mm_t4 28 rfl rfl, pd_35⟩⟩
theorem mwX2_canTakeIn : mm_MW yX2_canTakeIn cX2_canTakeIn 2 (some .boolean) [] 0 12 2 := ⟨mm_t4 34 rfl rfl, mm_t1 3 rfl rfl, nqX2, TX2, _, Or.inl ⟨rfl, rfl, mm_t4 32 rfl rfl, mm_t4 33 rfl rfl, by decide, rfl, pd_16⟩⟩
theorem pd_36 : (parseMethodDescriptor "(LAllstreets$Walk;I)V").map (fun d => d.parameters.length + 1) = some 3 := by decide +kernel
theorem mwX2_takeIn : mm_MW yX2_takeIn cX2_takeIn 5 none [] 0 12 3 := ⟨mm_t4 39 rfl rfl, mm_t1 3 rfl rfl, nqX2, TX2, _, Or.inl ⟨rfl, rfl, mm_t4 37 rfl rfl, mm_t4 38 rfl rfl, by decide, rfl, pd_36⟩⟩
theorem mwL_join : mm_MW yL_join cL_join 5 (some .int) [(0, 11, 14, 19)] 1 0 4 := ⟨mm_t4 42 rfl rfl, mm_t1 0 rfl rfl, nqL, (fun _ => default), 0, Or.inr ⟨rfl, mm_t4 41 rfl rfl, pd_25⟩⟩
theorem mwX3_join : mm_MW yX3_join cX3_join 6 (some .int) [] 0 10 3 := ⟨mm_t4 46 rfl rfl, mm_t1 1 rfl rfl, nqX3, TX3, _, Or.inl ⟨rfl, rfl, mm_t4 44 rfl rfl, mm_t4 45 rfl rfl, by decide, rfl, pd_9⟩⟩
theorem mwX2_meetingPlace : mm_MW yX2_meetingPlace cX2_meetingPlace 3 (some .int) [] 0 12 2 := ⟨mm_t4 50 rfl rfl, mm_t1 3 rfl rfl, nqX2, TX2, _, Or.inl ⟨rfl, rfl, mm_t4 48 rfl rfl, mm_t4 49 rfl rfl, by decide, rfl, pd_23⟩⟩
theorem mwX2_placeOfCorner : mm_MW yX2_placeOfCorner cX2_placeOfCorner 3 (some .int) [] 0 12 2 := ⟨mm_t4 54 rfl rfl, mm_t1 3 rfl rfl, nqX2, TX2, _, Or.inl ⟨rfl, rfl, mm_t4 52 rfl rfl, mm_t4 53 rfl rfl, by decide, rfl, pd_3⟩⟩
theorem mwX2_turnBy : mm_MW yX2_turnBy cX2_turnBy 5 none [] 0 12 2 := ⟨mm_t4 59 rfl rfl, mm_t1 3 rfl rfl, nqX2, TX2, _, Or.inl ⟨rfl, rfl, mm_t4 57 rfl rfl, mm_t4 58 rfl rfl, by decide, rfl, pd_2⟩⟩
theorem pd_37 : (parseMethodDescriptor "(LAllstreets;IIIILAllstreetsLaw$Out;)I").map (fun d => d.parameters.length) = some 6 := by decide +kernel
theorem mwL_cut : mm_MW yL_cut cL_cut 7 (some .int) [(0, 15, 18, 19)] 1 0 6 := ⟨mm_t4 62 rfl rfl, mm_t1 0 rfl rfl, nqL, (fun _ => default), 0, Or.inr ⟨rfl, mm_t4 61 rfl rfl, pd_37⟩⟩
theorem pd_38 : (parseMethodDescriptor "(IIII)I").map (fun d => d.parameters.length + 1) = some 5 := by decide +kernel
theorem mwX3_cut : mm_MW yX3_cut cX3_cut 7 (some .int) [] 0 10 5 := ⟨mm_t4 66 rfl rfl, mm_t1 1 rfl rfl, nqX3, TX3, _, Or.inl ⟨rfl, rfl, mm_t4 64 rfl rfl, mm_t4 65 rfl rfl, by decide, rfl, pd_38⟩⟩
theorem pd_39 : (parseMethodDescriptor "(IILAllstreets$Walk;)V").map (fun d => d.parameters.length + 1) = some 4 := by decide +kernel
theorem mwX2_giveOut : mm_MW yX2_giveOut cX2_giveOut 5 none [] 0 12 4 := ⟨mm_t4 70 rfl rfl, mm_t1 3 rfl rfl, nqX2, TX2, _, Or.inl ⟨rfl, rfl, mm_t4 68 rfl rfl, mm_t4 69 rfl rfl, by decide, rfl, pd_39⟩⟩
theorem mwL_turnRound : mm_MW yL_turnRound cL_turnRound 4 (some .int) [(0, 10, 13, 19)] 1 0 3 := ⟨mm_t4 74 rfl rfl, mm_t1 0 rfl rfl, nqL, (fun _ => default), 0, Or.inr ⟨rfl, mm_t4 73 rfl rfl, pd_28⟩⟩
theorem mwX3_turnRound : mm_MW yX3_turnRound cX3_turnRound 3 (some .int) [] 0 10 2 := ⟨mm_t4 78 rfl rfl, mm_t1 1 rfl rfl, nqX3, TX3, _, Or.inl ⟨rfl, rfl, mm_t4 76 rfl rfl, mm_t4 77 rfl rfl, by decide, rfl, pd_3⟩⟩
theorem mwX2_turnSteps : mm_MW yX2_turnSteps cX2_turnSteps 2 none [] 0 12 1 := ⟨mm_t4 82 rfl rfl, mm_t1 3 rfl rfl, nqX2, TX2, _, Or.inl ⟨rfl, rfl, mm_t4 80 rfl rfl, mm_t4 81 rfl rfl, by decide, rfl, pd_1⟩⟩
theorem mwL_rotate : mm_MW yL_rotate cL_rotate 5 (some .int) [(0, 11, 14, 19), (0, 11, 18, 24)] 1 0 4 := ⟨mm_t4 86 rfl rfl, mm_t1 0 rfl rfl, nqL, (fun _ => default), 0, Or.inr ⟨rfl, mm_t4 85 rfl rfl, pd_25⟩⟩
theorem mwX3_rotate : mm_MW yX3_rotate cX3_rotate 4 (some .int) [] 0 10 3 := ⟨mm_t4 90 rfl rfl, mm_t1 1 rfl rfl, nqX3, TX3, _, Or.inl ⟨rfl, rfl, mm_t4 88 rfl rfl, mm_t4 89 rfl rfl, by decide, rfl, pd_9⟩⟩
theorem mwL_first : mm_MW yL_first cL_first 6 (some .int) [(0, 13, 16, 19)] 1 0 5 := ⟨mm_t4 93 rfl rfl, mm_t1 0 rfl rfl, nqL, (fun _ => default), 0, Or.inr ⟨rfl, mm_t4 92 rfl rfl, pd_31⟩⟩
theorem mwX3_first : mm_MW yX3_first cX3_first 6 (some .int) [] 0 10 4 := ⟨mm_t4 97 rfl rfl, mm_t1 1 rfl rfl, nqX3, TX3, _, Or.inl ⟨rfl, rfl, mm_t4 95 rfl rfl, mm_t4 96 rfl rfl, by decide, rfl, pd_14⟩⟩
theorem mwX2_fillInOrder : mm_MW yX2_fillInOrder cX2_fillInOrder 5 none [] 0 12 2 := ⟨mm_t4 101 rfl rfl, mm_t1 3 rfl rfl, nqX2, TX2, _, Or.inl ⟨rfl, rfl, mm_t4 99 rfl rfl, mm_t4 100 rfl rfl, by decide, rfl, pd_6⟩⟩
theorem pd_40 : (parseMethodDescriptor "(IIIZ)I").map (fun d => d.parameters.length + 1) = some 5 := by decide +kernel
theorem mwX1_stepToWhole : mm_MW yX1_stepToWhole cX1_stepToWhole 8 (some .int) [] 0 11 5 := ⟨mm_t4 105 rfl rfl, mm_t1 2 rfl rfl, nqX1, TX1, _, Or.inl ⟨rfl, rfl, mm_t4 103 rfl rfl, mm_t4 104 rfl rfl, by decide, rfl, pd_40⟩⟩
theorem mwL_next : mm_MW yL_next cL_next 5 (some .int) [(0, 11, 14, 19)] 1 0 4 := ⟨mm_t4 108 rfl rfl, mm_t1 0 rfl rfl, nqL, (fun _ => default), 0, Or.inr ⟨rfl, mm_t4 107 rfl rfl, pd_29⟩⟩
theorem mwX3_next : mm_MW yX3_next cX3_next 5 (some .int) [] 0 10 3 := ⟨mm_t4 112 rfl rfl, mm_t1 1 rfl rfl, nqX3, TX3, _, Or.inl ⟨rfl, rfl, mm_t4 110 rfl rfl, mm_t4 111 rfl rfl, by decide, rfl, pd_13⟩⟩
theorem mwX2_takeAllOf : mm_MW yX2_takeAllOf cX2_takeAllOf 4 none [] 0 12 2 := ⟨mm_t4 116 rfl rfl, mm_t1 3 rfl rfl, nqX2, TX2, _, Or.inl ⟨rfl, rfl, mm_t4 114 rfl rfl, mm_t4 115 rfl rfl, by decide, rfl, pd_30⟩⟩
theorem mwX2_becomeNeighbour : mm_MW yX2_becomeNeighbour cX2_becomeNeighbour 5 (some .int) [] 0 12 2 := ⟨mm_t4 120 rfl rfl, mm_t1 3 rfl rfl, nqX2, TX2, _, Or.inl ⟨rfl, rfl, mm_t4 118 rfl rfl, mm_t4 119 rfl rfl, by decide, rfl, pd_4⟩⟩
theorem mwL_copy : mm_MW yL_copy cL_copy 5 (some .int) [(0, 11, 14, 19)] 1 0 4 := ⟨mm_t4 125 rfl rfl, mm_t1 0 rfl rfl, nqL, (fun _ => default), 0, Or.inr ⟨rfl, mm_t4 124 rfl rfl, pd_25⟩⟩
theorem mwX3_copy : mm_MW yX3_copy cX3_copy 5 (some .int) [] 0 10 3 := ⟨mm_t4 129 rfl rfl, mm_t1 1 rfl rfl, nqX3, TX3, _, Or.inl ⟨rfl, rfl, mm_t4 127 rfl rfl, mm_t4 128 rfl rfl, by decide, rfl, pd_9⟩⟩
theorem mwL_length : mm_MW yL_length cL_length 4 (some .int) [(0, 10, 13, 19)] 1 0 3 := ⟨mm_t4 132 rfl rfl, mm_t1 0 rfl rfl, nqL, (fun _ => default), 0, Or.inr ⟨rfl, mm_t4 131 rfl rfl, pd_28⟩⟩
theorem mwX3_length : mm_MW yX3_length cX3_length 2 (some .int) [] 0 10 2 := ⟨mm_t4 136 rfl rfl, mm_t1 1 rfl rfl, nqX3, TX3, _, Or.inl ⟨rfl, rfl, mm_t4 134 rfl rfl, mm_t4 135 rfl rfl, by decide, rfl, pd_3⟩⟩
theorem mwL_cornerAt : mm_MW yL_cornerAt cL_cornerAt 5 (some .int) [(0, 11, 14, 19)] 1 0 4 := ⟨mm_t4 139 rfl rfl, mm_t1 0 rfl rfl, nqL, (fun _ => default), 0, Or.inr ⟨rfl, mm_t4 138 rfl rfl, pd_25⟩⟩
theorem mwX3_cornerAt : mm_MW yX3_cornerAt cX3_cornerAt 4 (some .int) [] 0 10 3 := ⟨mm_t4 143 rfl rfl, mm_t1 1 rfl rfl, nqX3, TX3, _, Or.inl ⟨rfl, rfl, mm_t4 141 rfl rfl, mm_t4 142 rfl rfl, by decide, rfl, pd_9⟩⟩
theorem mwL_stepAt : mm_MW yL_stepAt cL_stepAt 5 (some .int) [(0, 11, 14, 19)] 1 0 4 := ⟨mm_t4 146 rfl rfl, mm_t1 0 rfl rfl, nqL, (fun _ => default), 0, Or.inr ⟨rfl, mm_t4 145 rfl rfl, pd_25⟩⟩
theorem mwX3_stepAt : mm_MW yX3_stepAt cX3_stepAt 4 (some .int) [] 0 10 3 := ⟨mm_t4 150 rfl rfl, mm_t1 1 rfl rfl, nqX3, TX3, _, Or.inl ⟨rfl, rfl, mm_t4 148 rfl rfl, mm_t4 149 rfl rfl, by decide, rfl, pd_9⟩⟩
theorem mwL_find : mm_MW yL_find cL_find 5 (some .int) [(0, 11, 14, 19)] 1 0 4 := ⟨mm_t4 153 rfl rfl, mm_t1 0 rfl rfl, nqL, (fun _ => default), 0, Or.inr ⟨rfl, mm_t4 152 rfl rfl, pd_25⟩⟩
theorem mwX3_find : mm_MW yX3_find cX3_find 4 (some .int) [] 0 10 3 := ⟨mm_t4 157 rfl rfl, mm_t1 1 rfl rfl, nqX3, TX3, _, Or.inl ⟨rfl, rfl, mm_t4 155 rfl rfl, mm_t4 156 rfl rfl, by decide, rfl, pd_9⟩⟩
theorem mwL_is : mm_MW yL_is cL_is 5 (some .int) [(0, 18, 21, 19)] 1 0 4 := ⟨mm_t4 160 rfl rfl, mm_t1 0 rfl rfl, nqL, (fun _ => default), 0, Or.inr ⟨rfl, mm_t4 159 rfl rfl, pd_29⟩⟩
theorem pd_41 : (parseMethodDescriptor "(IZ)Z").map (fun d => d.parameters.length + 1) = some 3 := by decide +kernel
theorem mwX3_is : mm_MW yX3_is cX3_is 4 (some .boolean) [] 0 10 3 := ⟨mm_t4 164 rfl rfl, mm_t1 1 rfl rfl, nqX3, TX3, _, Or.inl ⟨rfl, rfl, mm_t4 162 rfl rfl, mm_t4 163 rfl rfl, by decide, rfl, pd_41⟩⟩
theorem mwL_same : mm_MW yL_same cL_same 5 (some .int) [(0, 18, 21, 19)] 1 0 4 := ⟨mm_t4 167 rfl rfl, mm_t1 0 rfl rfl, nqL, (fun _ => default), 0, Or.inr ⟨rfl, mm_t4 166 rfl rfl, pd_25⟩⟩
theorem mwX3_same : mm_MW yX3_same cX3_same 5 (some .boolean) [] 0 10 3 := ⟨mm_t4 171 rfl rfl, mm_t1 1 rfl rfl, nqX3, TX3, _, Or.inl ⟨rfl, rfl, mm_t4 169 rfl rfl, mm_t4 170 rfl rfl, by decide, rfl, pd_11⟩⟩
theorem mwL_turnOf : mm_MW yL_turnOf cL_turnOf 5 (some .int) [(0, 11, 14, 19)] 1 0 4 := ⟨mm_t4 175 rfl rfl, mm_t1 0 rfl rfl, nqL, (fun _ => default), 0, Or.inr ⟨rfl, mm_t4 174 rfl rfl, pd_25⟩⟩
theorem mwX3_turnOf : mm_MW yX3_turnOf cX3_turnOf 5 (some .int) [] 0 10 3 := ⟨mm_t4 179 rfl rfl, mm_t1 1 rfl rfl, nqX3, TX3, _, Or.inl ⟨rfl, rfl, mm_t4 177 rfl rfl, mm_t4 178 rfl rfl, by decide, rfl, pd_9⟩⟩
theorem mwL_text : mm_MW yL_text cL_text 5 (some .int) [(0, 10, 13, 19), (0, 10, 17, 24)] 1 0 4 := ⟨mm_t4 182 rfl rfl, mm_t1 0 rfl rfl, nqL, (fun _ => default), 0, Or.inr ⟨rfl, mm_t4 181 rfl rfl, pd_25⟩⟩
theorem pd_42 : (parseMethodDescriptor "(II)Ljava/lang/String;").map (fun d => d.parameters.length + 1) = some 3 := by decide +kernel
theorem mwX3_text : mm_MW yX3_text cX3_text 7 (some (.object "java/lang/String")) [] 0 10 3 := ⟨mm_t4 186 rfl rfl, mm_t1 1 rfl rfl, nqX3, TX3, _, Or.inl ⟨rfl, rfl, mm_t4 184 rfl rfl, mm_t4 185 rfl rfl, by decide, rfl, pd_42⟩⟩
theorem pd_43 : (parseMethodDescriptor "(LAllstreets$Walk;II)I").map (fun d => d.parameters.length + 1) = some 4 := by decide +kernel
theorem mwX3_numberAt : mm_MW yX3_numberAt cX3_numberAt 5 (some .int) [] 0 10 4 := ⟨mm_t5 77 rfl rfl, mm_t1 1 rfl rfl, nqX3, TX3, _, Or.inl ⟨rfl, rfl, mm_t5 76 rfl rfl, mm_t0 18 rfl rfl, by decide, rfl, pd_43⟩⟩
theorem mwL_wordAt : mm_MW yL_wordAt cL_wordAt 6 (some .int) [(0, 13, 16, 19), (0, 13, 20, 24)] 1 0 5 := ⟨mm_t5 220 rfl rfl, mm_t1 0 rfl rfl, nqL, (fun _ => default), 0, Or.inr ⟨rfl, mm_t5 219 rfl rfl, pd_33⟩⟩
theorem mwX3_wordAt : mm_MW yX3_wordAt cX3_wordAt 5 (some .int) [] 0 10 4 := ⟨mm_t5 224 rfl rfl, mm_t1 1 rfl rfl, nqX3, TX3, _, Or.inl ⟨rfl, rfl, mm_t5 222 rfl rfl, mm_t5 223 rfl rfl, by decide, rfl, pd_34⟩⟩
theorem mwL_cursor : mm_MW yL_cursor cL_cursor 5 (some .int) [(0, 11, 14, 19)] 1 0 4 := ⟨mm_t5 227 rfl rfl, mm_t1 0 rfl rfl, nqL, (fun _ => default), 0, Or.inr ⟨rfl, mm_t5 226 rfl rfl, pd_25⟩⟩
theorem mwX3_cursor : mm_MW yX3_cursor cX3_cursor 4 (some .int) [] 0 10 3 := ⟨mm_t5 231 rfl rfl, mm_t1 1 rfl rfl, nqX3, TX3, _, Or.inl ⟨rfl, rfl, mm_t5 229 rfl rfl, mm_t5 230 rfl rfl, by decide, rfl, pd_9⟩⟩
theorem mwX0_standOn : mm_MW yX0_standOn cX0_standOn 3 none [] 0 13 3 := ⟨mm_t5 235 rfl rfl, mm_t1 4 rfl rfl, nqX0, TX0, _, Or.inl ⟨rfl, rfl, mm_t5 233 rfl rfl, mm_t5 234 rfl rfl, by decide, rfl, pd_36⟩⟩
theorem mwL_cursorSet : mm_MW yL_cursorSet cL_cursorSet 4 (some .int) [(0, 10, 13, 19)] 1 0 3 := ⟨mm_t5 238 rfl rfl, mm_t1 0 rfl rfl, nqL, (fun _ => default), 0, Or.inr ⟨rfl, mm_t5 237 rfl rfl, pd_28⟩⟩
theorem mwX3_cursorSet : mm_MW yX3_cursorSet cX3_cursorSet 2 (some .int) [] 0 10 2 := ⟨mm_t6 2 rfl rfl, mm_t1 1 rfl rfl, nqX3, TX3, _, Or.inl ⟨rfl, rfl, mm_t6 0 rfl rfl, mm_t6 1 rfl rfl, by decide, rfl, pd_3⟩⟩
theorem mwX0_exchangeTold : mm_MW yX0_exchangeTold cX0_exchangeTold 5 (some .int) [] 0 13 2 := ⟨mm_t6 6 rfl rfl, mm_t1 4 rfl rfl, nqX0, TX0, _, Or.inl ⟨rfl, rfl, mm_t6 4 rfl rfl, mm_t6 5 rfl rfl, by decide, rfl, pd_3⟩⟩
theorem mwX1_between : mm_MW yX1_between cX1_between 5 (some .int) [] 0 11 4 := ⟨mm_t6 13 rfl rfl, mm_t1 2 rfl rfl, nqX1, TX1, _, Or.inl ⟨rfl, rfl, mm_t6 11 rfl rfl, mm_t6 12 rfl rfl, by decide, rfl, pd_34⟩⟩
theorem mwX2_exchange : mm_MW yX2_exchange cX2_exchange 3 none [] 0 12 3 := ⟨mm_t6 17 rfl rfl, mm_t1 3 rfl rfl, nqX2, TX2, _, Or.inl ⟨rfl, rfl, mm_t6 15 rfl rfl, mm_t6 16 rfl rfl, by decide, rfl, pd_15⟩⟩
theorem mwL_cursorAdd : mm_MW yL_cursorAdd cL_cursorAdd 4 (some .int) [(0, 10, 13, 19)] 1 0 3 := ⟨mm_t6 20 rfl rfl, mm_t1 0 rfl rfl, nqL, (fun _ => default), 0, Or.inr ⟨rfl, mm_t6 19 rfl rfl, pd_28⟩⟩
theorem mwX3_cursorAdd : mm_MW yX3_cursorAdd cX3_cursorAdd 2 (some .int) [] 0 10 2 := ⟨mm_t6 24 rfl rfl, mm_t1 1 rfl rfl, nqX3, TX3, _, Or.inl ⟨rfl, rfl, mm_t6 22 rfl rfl, mm_t6 23 rfl rfl, by decide, rfl, pd_3⟩⟩
theorem mwX0_letIn : mm_MW yX0_letIn cX0_letIn 6 (some .int) [] 0 13 2 := ⟨mm_t6 28 rfl rfl, mm_t1 4 rfl rfl, nqX0, TX0, _, Or.inl ⟨rfl, rfl, mm_t6 26 rfl rfl, mm_t6 27 rfl rfl, by decide, rfl, pd_3⟩⟩
theorem mwL_house : mm_MW yL_house cL_house 4 (some .int) [(0, 10, 13, 24)] 1 0 3 := ⟨mm_t6 36 rfl rfl, mm_t1 0 rfl rfl, nqL, (fun _ => default), 0, Or.inr ⟨rfl, mm_t6 35 rfl rfl, pd_28⟩⟩
theorem mwX3_house : mm_MW yX3_house cX3_house 2 (some .int) [] 0 10 2 := ⟨mm_t6 40 rfl rfl, mm_t1 1 rfl rfl, nqX3, TX3, _, Or.inl ⟨rfl, rfl, mm_t6 38 rfl rfl, mm_t6 39 rfl rfl, by decide, rfl, pd_3⟩⟩
theorem nqX5 : RX5 ≠ "java/lang/invoke/MethodHandle" ∧ RX5 ≠ "java/lang/invoke/VarHandle" := ⟨by decide +kernel, by decide +kernel⟩
theorem mwX5_lay : mm_MW yX5_lay cX5_lay 3 (some .int) [] 0 14 3 := ⟨mm_t6 102 rfl rfl, mm_t1 5 rfl rfl, nqX5, TX5, _, Or.inl ⟨rfl, rfl, mm_t6 100 rfl rfl, mm_t6 101 rfl rfl, by decide, rfl, pd_9⟩⟩
theorem mwX5_isNoCorner : mm_MW yX5_isNoCorner cX5_isNoCorner 2 (some .boolean) [] 0 14 2 := ⟨mm_t6 106 rfl rfl, mm_t1 5 rfl rfl, nqX5, TX5, _, Or.inl ⟨rfl, rfl, mm_t6 105 rfl rfl, mm_t0 19 rfl rfl, by decide, rfl, pd_7⟩⟩
theorem pd_44 : (parseMethodDescriptor "(III)Z").map (fun d => d.parameters.length) = some 3 := by decide +kernel
theorem mwX5_isIn : mm_MW yX5_isIn cX5_isIn 3 (some .boolean) [] 1 0 3 := ⟨mm_t6 109 rfl rfl, mm_t1 5 rfl rfl, nqX5, (fun _ => default), 0, Or.inr ⟨rfl, mm_t6 108 rfl rfl, pd_44⟩⟩
theorem pd_45 : (parseMethodDescriptor "(ZI)Z").map (fun d => d.parameters.length + 1) = some 3 := by decide +kernel
theorem mwX5_start : mm_MW yX5_start cX5_start 3 (some .boolean) [] 0 14 3 := ⟨mm_t6 113 rfl rfl, mm_t1 5 rfl rfl, nqX5, TX5, _, Or.inl ⟨rfl, rfl, mm_t6 112 rfl rfl, mm_t0 20 rfl rfl, by decide, rfl, pd_45⟩⟩
theorem mwX5_refuse : mm_MW yX5_refuse cX5_refuse 3 (some .boolean) [] 0 14 3 := ⟨mm_t6 117 rfl rfl, mm_t1 5 rfl rfl, nqX5, TX5, _, Or.inl ⟨rfl, rfl, mm_t6 116 rfl rfl, mm_t0 21 rfl rfl, by decide, rfl, pd_45⟩⟩
theorem mwX5_cannot : mm_MW yX5_cannot cX5_cannot 1 (some .int) [] 0 14 1 := ⟨mm_t6 121 rfl rfl, mm_t1 5 rfl rfl, nqX5, TX5, _, Or.inl ⟨rfl, rfl, mm_t6 120 rfl rfl, mm_t0 22 rfl rfl, by decide, rfl, pd_0⟩⟩
theorem mwX5_laid : mm_MW yX5_laid cX5_laid 3 none [] 0 14 3 := ⟨mm_t6 125 rfl rfl, mm_t1 5 rfl rfl, nqX5, TX5, _, Or.inl ⟨rfl, rfl, mm_t6 124 rfl rfl, mm_t0 23 rfl rfl, by decide, rfl, pd_15⟩⟩
theorem mwX5_endWords : mm_MW yX5_endWords cX5_endWords 1 none [] 0 14 1 := ⟨mm_t6 129 rfl rfl, mm_t1 5 rfl rfl, nqX5, TX5, _, Or.inl ⟨rfl, rfl, mm_t6 128 rfl rfl, mm_t0 24 rfl rfl, by decide, rfl, pd_1⟩⟩
theorem mwX5_act : mm_MW yX5_act cX5_act 2 (some .int) [] 0 14 2 := ⟨mm_t6 133 rfl rfl, mm_t1 5 rfl rfl, nqX5, TX5, _, Or.inl ⟨rfl, rfl, mm_t6 132 rfl rfl, mm_t0 25 rfl rfl, by decide, rfl, pd_3⟩⟩
theorem mwX5_layRing : mm_MW yX5_layRing cX5_layRing 4 (some .int) [] 0 14 3 := ⟨mm_t6 137 rfl rfl, mm_t1 5 rfl rfl, nqX5, TX5, _, Or.inl ⟨rfl, rfl, mm_t6 135 rfl rfl, mm_t6 136 rfl rfl, by decide, rfl, pd_9⟩⟩
theorem mwX5_words : mm_MW yX5_words cX5_words 5 (some .int) [] 0 14 3 := ⟨mm_t6 141 rfl rfl, mm_t1 5 rfl rfl, nqX5, TX5, _, Or.inl ⟨rfl, rfl, mm_t6 139 rfl rfl, mm_t6 140 rfl rfl, by decide, rfl, pd_9⟩⟩
theorem mwX5_emptied : mm_MW yX5_emptied cX5_emptied 2 none [] 0 14 1 := ⟨mm_t6 145 rfl rfl, mm_t1 5 rfl rfl, nqX5, TX5, _, Or.inl ⟨rfl, rfl, mm_t6 144 rfl rfl, mm_t0 26 rfl rfl, by decide, rfl, pd_1⟩⟩
theorem mwX5_close : mm_MW yX5_close cX5_close 4 (some .int) [] 0 14 2 := ⟨mm_t6 149 rfl rfl, mm_t1 5 rfl rfl, nqX5, TX5, _, Or.inl ⟨rfl, rfl, mm_t6 147 rfl rfl, mm_t6 148 rfl rfl, by decide, rfl, pd_3⟩⟩
theorem mwX5_isNoStreet : mm_MW yX5_isNoStreet cX5_isNoStreet 2 (some .boolean) [] 0 14 2 := ⟨mm_t6 153 rfl rfl, mm_t1 5 rfl rfl, nqX5, TX5, _, Or.inl ⟨rfl, rfl, mm_t6 152 rfl rfl, mm_t0 27 rfl rfl, by decide, rfl, pd_7⟩⟩
theorem mwX5_placeOf : mm_MW yX5_placeOf cX5_placeOf 4 (some .int) [] 0 14 3 := ⟨mm_t6 157 rfl rfl, mm_t1 5 rfl rfl, nqX5, TX5, _, Or.inl ⟨rfl, rfl, mm_t6 156 rfl rfl, mm_t0 28 rfl rfl, by decide, rfl, pd_9⟩⟩
theorem mwX5_stepOf : mm_MW yX5_stepOf cX5_stepOf 3 (some .int) [] 0 14 3 := ⟨mm_t6 161 rfl rfl, mm_t1 5 rfl rfl, nqX5, TX5, _, Or.inl ⟨rfl, rfl, mm_t6 160 rfl rfl, mm_t0 29 rfl rfl, by decide, rfl, pd_9⟩⟩
theorem mwX5_clear : mm_MW yX5_clear cX5_clear 2 (some .int) [] 0 14 1 := ⟨mm_t6 165 rfl rfl, mm_t1 5 rfl rfl, nqX5, TX5, _, Or.inl ⟨rfl, rfl, mm_t6 163 rfl rfl, mm_t6 164 rfl rfl, by decide, rfl, pd_0⟩⟩
theorem mwX5_oneWay : mm_MW yX5_oneWay cX5_oneWay 4 (some .int) [] 0 14 2 := ⟨mm_t6 169 rfl rfl, mm_t1 5 rfl rfl, nqX5, TX5, _, Or.inl ⟨rfl, rfl, mm_t6 167 rfl rfl, mm_t6 168 rfl rfl, by decide, rfl, pd_4⟩⟩
theorem mwX5_one : mm_MW yX5_one cX5_one 1 (some .int) [] 1 0 1 := ⟨mm_t6 172 rfl rfl, mm_t1 5 rfl rfl, nqX5, (fun _ => default), 0, Or.inr ⟨rfl, mm_t6 171 rfl rfl, pd_20⟩⟩
theorem mwX5_turnTown : mm_MW yX5_turnTown cX5_turnTown 3 (some .int) [] 0 14 1 := ⟨mm_t6 176 rfl rfl, mm_t1 5 rfl rfl, nqX5, TX5, _, Or.inl ⟨rfl, rfl, mm_t6 174 rfl rfl, mm_t6 175 rfl rfl, by decide, rfl, pd_0⟩⟩
theorem mwX5_turned : mm_MW yX5_turned cX5_turned 4 none [] 0 14 2 := ⟨mm_t6 180 rfl rfl, mm_t1 5 rfl rfl, nqX5, TX5, _, Or.inl ⟨rfl, rfl, mm_t6 179 rfl rfl, mm_t0 30 rfl rfl, by decide, rfl, pd_2⟩⟩
theorem mwX5_endOf : mm_MW yX5_endOf cX5_endOf 2 (some .int) [] 0 14 2 := ⟨mm_t6 184 rfl rfl, mm_t1 5 rfl rfl, nqX5, TX5, _, Or.inl ⟨rfl, rfl, mm_t6 183 rfl rfl, mm_t0 31 rfl rfl, by decide, rfl, pd_3⟩⟩
theorem mwX5_cornerOf : mm_MW yX5_cornerOf cX5_cornerOf 3 (some .int) [] 0 14 3 := ⟨mm_t6 188 rfl rfl, mm_t1 5 rfl rfl, nqX5, TX5, _, Or.inl ⟨rfl, rfl, mm_t6 187 rfl rfl, mm_t0 32 rfl rfl, by decide, rfl, pd_9⟩⟩
theorem mwX5_comesTo : mm_MW yX5_comesTo cX5_comesTo 2 (some .int) [] 0 14 2 := ⟨mm_t6 192 rfl rfl, mm_t1 5 rfl rfl, nqX5, TX5, _, Or.inl ⟨rfl, rfl, mm_t6 191 rfl rfl, mm_t0 33 rfl rfl, by decide, rfl, pd_3⟩⟩
theorem mwX5_take : mm_MW yX5_take cX5_take 5 (some .int) [] 0 14 3 := ⟨mm_t6 196 rfl rfl, mm_t1 5 rfl rfl, nqX5, TX5, _, Or.inl ⟨rfl, rfl, mm_t6 195 rfl rfl, mm_t0 34 rfl rfl, by decide, rfl, pd_9⟩⟩
theorem pd_46 : (parseMethodDescriptor "(III)V").map (fun d => d.parameters.length + 1) = some 4 := by decide +kernel
theorem mwX5_put : mm_MW yX5_put cX5_put 5 none [] 0 14 4 := ⟨mm_t6 200 rfl rfl, mm_t1 5 rfl rfl, nqX5, TX5, _, Or.inl ⟨rfl, rfl, mm_t6 199 rfl rfl, mm_t0 35 rfl rfl, by decide, rfl, pd_46⟩⟩
theorem mwX5_streets : mm_MW yX5_streets cX5_streets 1 (some .int) [] 0 14 1 := ⟨mm_t6 204 rfl rfl, mm_t1 5 rfl rfl, nqX5, TX5, _, Or.inl ⟨rfl, rfl, mm_t6 202 rfl rfl, mm_t6 203 rfl rfl, by decide, rfl, pd_0⟩⟩
theorem mwX5_end : mm_MW yX5_end cX5_end 3 (some .int) [] 0 14 3 := ⟨mm_t6 208 rfl rfl, mm_t1 5 rfl rfl, nqX5, TX5, _, Or.inl ⟨rfl, rfl, mm_t6 206 rfl rfl, mm_t6 207 rfl rfl, by decide, rfl, pd_13⟩⟩
theorem mwX5_ways : mm_MW yX5_ways cX5_ways 3 (some .int) [] 0 14 3 := ⟨mm_t6 212 rfl rfl, mm_t1 5 rfl rfl, nqX5, TX5, _, Or.inl ⟨rfl, rfl, mm_t6 210 rfl rfl, mm_t6 211 rfl rfl, by decide, rfl, pd_9⟩⟩
theorem mwX5_all : mm_MW yX5_all cX5_all 1 (some .int) [] 0 14 1 := ⟨mm_t6 216 rfl rfl, mm_t1 5 rfl rfl, nqX5, TX5, _, Or.inl ⟨rfl, rfl, mm_t6 215 rfl rfl, mm_t0 36 rfl rfl, by decide, rfl, pd_0⟩⟩
theorem mwX5_waysOf : mm_MW yX5_waysOf cX5_waysOf 7 (some .int) [] 0 14 4 := ⟨mm_t6 220 rfl rfl, mm_t1 5 rfl rfl, nqX5, TX5, _, Or.inl ⟨rfl, rfl, mm_t6 219 rfl rfl, mm_t0 37 rfl rfl, by decide, rfl, pd_34⟩⟩
theorem mwX5_has : mm_MW yX5_has cX5_has 2 (some .boolean) [] 1 0 2 := ⟨mm_t6 223 rfl rfl, mm_t1 5 rfl rfl, nqX5, (fun _ => default), 0, Or.inr ⟨rfl, mm_t6 222 rfl rfl, pd_10⟩⟩
theorem mwX5_odd : mm_MW yX5_odd cX5_odd 1 (some .int) [] 0 14 1 := ⟨mm_t6 227 rfl rfl, mm_t1 5 rfl rfl, nqX5, TX5, _, Or.inl ⟨rfl, rfl, mm_t6 225 rfl rfl, mm_t6 226 rfl rfl, by decide, rfl, pd_0⟩⟩
theorem mwX5_oddOf : mm_MW yX5_oddOf cX5_oddOf 4 (some .int) [] 0 14 2 := ⟨mm_t6 231 rfl rfl, mm_t1 5 rfl rfl, nqX5, TX5, _, Or.inl ⟨rfl, rfl, mm_t6 230 rfl rfl, mm_t0 38 rfl rfl, by decide, rfl, pd_3⟩⟩
theorem mwX5_isOdd : mm_MW yX5_isOdd cX5_isOdd 3 (some .boolean) [] 0 14 3 := ⟨mm_t6 235 rfl rfl, mm_t1 5 rfl rfl, nqX5, TX5, _, Or.inl ⟨rfl, rfl, mm_t6 234 rfl rfl, mm_t0 39 rfl rfl, by decide, rfl, pd_11⟩⟩
theorem mwX5_hangs : mm_MW yX5_hangs cX5_hangs 1 (some .boolean) [] 0 14 1 := ⟨mm_t6 239 rfl rfl, mm_t1 5 rfl rfl, nqX5, TX5, _, Or.inl ⟨rfl, rfl, mm_t6 237 rfl rfl, mm_t6 238 rfl rfl, by decide, rfl, pd_5⟩⟩
theorem mwX5_hang : mm_MW yX5_hang cX5_hang 6 (some .boolean) [] 0 14 2 := ⟨mm_t7 3 rfl rfl, mm_t1 5 rfl rfl, nqX5, TX5, _, Or.inl ⟨rfl, rfl, mm_t7 2 rfl rfl, mm_t0 40 rfl rfl, by decide, rfl, pd_7⟩⟩
theorem mwX5_kind : mm_MW yX5_kind cX5_kind 1 (some .int) [] 0 14 1 := ⟨mm_t7 7 rfl rfl, mm_t1 5 rfl rfl, nqX5, TX5, _, Or.inl ⟨rfl, rfl, mm_t7 5 rfl rfl, mm_t7 6 rfl rfl, by decide, rfl, pd_0⟩⟩
theorem mwX5_kindOf : mm_MW yX5_kindOf cX5_kindOf 1 (some .int) [] 0 14 1 := ⟨mm_t7 11 rfl rfl, mm_t1 5 rfl rfl, nqX5, TX5, _, Or.inl ⟨rfl, rfl, mm_t7 10 rfl rfl, mm_t0 41 rfl rfl, by decide, rfl, pd_0⟩⟩
theorem mwX5_leastStart : mm_MW yX5_leastStart cX5_leastStart 2 (some .int) [] 0 14 1 := ⟨mm_t7 15 rfl rfl, mm_t1 5 rfl rfl, nqX5, TX5, _, Or.inl ⟨rfl, rfl, mm_t7 14 rfl rfl, mm_t0 42 rfl rfl, by decide, rfl, pd_0⟩⟩
theorem mwX5_isStartOf : mm_MW yX5_isStartOf cX5_isStartOf 4 (some .boolean) [] 0 14 3 := ⟨mm_t7 19 rfl rfl, mm_t1 5 rfl rfl, nqX5, TX5, _, Or.inl ⟨rfl, rfl, mm_t7 18 rfl rfl, mm_t0 43 rfl rfl, by decide, rfl, pd_11⟩⟩
theorem mwX5_isStart : mm_MW yX5_isStart cX5_isStart 2 (some .boolean) [] 0 14 2 := ⟨mm_t7 23 rfl rfl, mm_t1 5 rfl rfl, nqX5, TX5, _, Or.inl ⟨rfl, rfl, mm_t7 21 rfl rfl, mm_t7 22 rfl rfl, by decide, rfl, pd_7⟩⟩
theorem mwX5_rule : mm_MW yX5_rule cX5_rule 2 (some .int) [] 0 14 2 := ⟨mm_t7 27 rfl rfl, mm_t1 5 rfl rfl, nqX5, TX5, _, Or.inl ⟨rfl, rfl, mm_t7 25 rfl rfl, mm_t7 26 rfl rfl, by decide, rfl, pd_3⟩⟩
theorem mwX5_ruleOf : mm_MW yX5_ruleOf cX5_ruleOf 2 (some .int) [] 0 14 2 := ⟨mm_t7 31 rfl rfl, mm_t1 5 rfl rfl, nqX5, TX5, _, Or.inl ⟨rfl, rfl, mm_t7 30 rfl rfl, mm_t0 44 rfl rfl, by decide, rfl, pd_3⟩⟩
theorem mwX5_begin : mm_MW yX5_begin cX5_begin 4 (some .int) [] 0 14 3 := ⟨mm_t7 35 rfl rfl, mm_t1 5 rfl rfl, nqX5, TX5, _, Or.inl ⟨rfl, rfl, mm_t7 33 rfl rfl, mm_t7 34 rfl rfl, by decide, rfl, pd_9⟩⟩
theorem mwX5_isNoWalk : mm_MW yX5_isNoWalk cX5_isNoWalk 2 (some .boolean) [] 0 14 2 := ⟨mm_t7 39 rfl rfl, mm_t1 5 rfl rfl, nqX5, TX5, _, Or.inl ⟨rfl, rfl, mm_t7 38 rfl rfl, mm_t0 45 rfl rfl, by decide, rfl, pd_7⟩⟩
theorem mwX5_lose : mm_MW yX5_lose cX5_lose 2 none [] 0 14 2 := ⟨mm_t7 43 rfl rfl, mm_t1 5 rfl rfl, nqX5, TX5, _, Or.inl ⟨rfl, rfl, mm_t7 42 rfl rfl, mm_t0 46 rfl rfl, by decide, rfl, pd_2⟩⟩
theorem mwX5_step : mm_MW yX5_step cX5_step 5 (some .int) [] 0 14 4 := ⟨mm_t7 47 rfl rfl, mm_t1 5 rfl rfl, nqX5, TX5, _, Or.inl ⟨rfl, rfl, mm_t7 45 rfl rfl, mm_t7 46 rfl rfl, by decide, rfl, pd_14⟩⟩
theorem mwX5_coming : mm_MW yX5_coming cX5_coming 3 (some .int) [] 0 14 3 := ⟨mm_t7 51 rfl rfl, mm_t1 5 rfl rfl, nqX5, TX5, _, Or.inl ⟨rfl, rfl, mm_t7 50 rfl rfl, mm_t0 47 rfl rfl, by decide, rfl, pd_9⟩⟩
theorem mwX5_leaving : mm_MW yX5_leaving cX5_leaving 3 (some .int) [] 0 14 3 := ⟨mm_t7 55 rfl rfl, mm_t1 5 rfl rfl, nqX5, TX5, _, Or.inl ⟨rfl, rfl, mm_t7 54 rfl rfl, mm_t0 48 rfl rfl, by decide, rfl, pd_9⟩⟩
theorem mwX5_goesFrom : mm_MW yX5_goesFrom cX5_goesFrom 2 (some .int) [] 0 14 2 := ⟨mm_t7 59 rfl rfl, mm_t1 5 rfl rfl, nqX5, TX5, _, Or.inl ⟨rfl, rfl, mm_t7 58 rfl rfl, mm_t0 49 rfl rfl, by decide, rfl, pd_3⟩⟩
theorem mwX5_back : mm_MW yX5_back cX5_back 4 (some .int) [] 0 14 3 := ⟨mm_t7 63 rfl rfl, mm_t1 5 rfl rfl, nqX5, TX5, _, Or.inl ⟨rfl, rfl, mm_t7 61 rfl rfl, mm_t7 62 rfl rfl, by decide, rfl, pd_13⟩⟩
theorem mwX5_on : mm_MW yX5_on cX5_on 4 (some .int) [] 0 14 3 := ⟨mm_t7 67 rfl rfl, mm_t1 5 rfl rfl, nqX5, TX5, _, Or.inl ⟨rfl, rfl, mm_t7 65 rfl rfl, mm_t7 66 rfl rfl, by decide, rfl, pd_13⟩⟩
theorem mwX5_gone : mm_MW yX5_gone cX5_gone 10 (some .int) [] 0 14 4 := ⟨mm_t7 71 rfl rfl, mm_t1 5 rfl rfl, nqX5, TX5, _, Or.inl ⟨rfl, rfl, mm_t7 70 rfl rfl, mm_t0 50 rfl rfl, by decide, rfl, pd_14⟩⟩
theorem mwX5_setOf : mm_MW yX5_setOf cX5_setOf 4 (some .int) [] 0 14 2 := ⟨mm_t7 75 rfl rfl, mm_t1 5 rfl rfl, nqX5, TX5, _, Or.inl ⟨rfl, rfl, mm_t7 74 rfl rfl, mm_t0 51 rfl rfl, by decide, rfl, pd_3⟩⟩
theorem mwX5_complete : mm_MW yX5_complete cX5_complete 4 (some .int) [] 0 14 3 := ⟨mm_t7 79 rfl rfl, mm_t1 5 rfl rfl, nqX5, TX5, _, Or.inl ⟨rfl, rfl, mm_t7 77 rfl rfl, mm_t7 78 rfl rfl, by decide, rfl, pd_13⟩⟩
theorem mwX5_completed : mm_MW yX5_completed cX5_completed 5 (some .int) [] 0 14 3 := ⟨mm_t7 83 rfl rfl, mm_t1 5 rfl rfl, nqX5, TX5, _, Or.inl ⟨rfl, rfl, mm_t7 82 rfl rfl, mm_t0 52 rfl rfl, by decide, rfl, pd_13⟩⟩
theorem mwX5_splice : mm_MW yX5_splice cX5_splice 4 (some .int) [] 0 14 4 := ⟨mm_t7 87 rfl rfl, mm_t1 5 rfl rfl, nqX5, TX5, _, Or.inl ⟨rfl, rfl, mm_t7 85 rfl rfl, mm_t7 86 rfl rfl, by decide, rfl, pd_34⟩⟩
theorem mwX5_isNoRound : mm_MW yX5_isNoRound cX5_isNoRound 3 (some .boolean) [] 0 14 3 := ⟨mm_t7 91 rfl rfl, mm_t1 5 rfl rfl, nqX5, TX5, _, Or.inl ⟨rfl, rfl, mm_t7 90 rfl rfl, mm_t0 53 rfl rfl, by decide, rfl, pd_11⟩⟩
theorem mwX5_isHome : mm_MW yX5_isHome cX5_isHome 2 (some .boolean) [] 0 14 2 := ⟨mm_t7 95 rfl rfl, mm_t1 5 rfl rfl, nqX5, TX5, _, Or.inl ⟨rfl, rfl, mm_t7 94 rfl rfl, mm_t0 54 rfl rfl, by decide, rfl, pd_7⟩⟩
theorem mwX5_spliced : mm_MW yX5_spliced cX5_spliced 5 none [] 0 14 4 := ⟨mm_t7 99 rfl rfl, mm_t1 5 rfl rfl, nqX5, TX5, _, Or.inl ⟨rfl, rfl, mm_t7 98 rfl rfl, mm_t0 55 rfl rfl, by decide, rfl, pd_46⟩⟩
theorem mwX5_join : mm_MW yX5_join cX5_join 5 (some .int) [] 0 14 3 := ⟨mm_t7 103 rfl rfl, mm_t1 5 rfl rfl, nqX5, TX5, _, Or.inl ⟨rfl, rfl, mm_t7 101 rfl rfl, mm_t7 102 rfl rfl, by decide, rfl, pd_9⟩⟩
theorem mwX5_rotated : mm_MW yX5_rotated cX5_rotated 5 none [] 0 14 3 := ⟨mm_t7 107 rfl rfl, mm_t1 5 rfl rfl, nqX5, TX5, _, Or.inl ⟨rfl, rfl, mm_t7 106 rfl rfl, mm_t0 56 rfl rfl, by decide, rfl, pd_15⟩⟩
theorem mwX5_cut : mm_MW yX5_cut cX5_cut 6 (some .int) [] 0 14 5 := ⟨mm_t7 111 rfl rfl, mm_t1 5 rfl rfl, nqX5, TX5, _, Or.inl ⟨rfl, rfl, mm_t7 109 rfl rfl, mm_t7 110 rfl rfl, by decide, rfl, pd_38⟩⟩
theorem mwX5_turnRound : mm_MW yX5_turnRound cX5_turnRound 4 (some .int) [] 0 14 2 := ⟨mm_t7 115 rfl rfl, mm_t1 5 rfl rfl, nqX5, TX5, _, Or.inl ⟨rfl, rfl, mm_t7 113 rfl rfl, mm_t7 114 rfl rfl, by decide, rfl, pd_3⟩⟩
theorem mwX5_rotate : mm_MW yX5_rotate cX5_rotate 3 (some .int) [] 0 14 3 := ⟨mm_t7 119 rfl rfl, mm_t1 5 rfl rfl, nqX5, TX5, _, Or.inl ⟨rfl, rfl, mm_t7 117 rfl rfl, mm_t7 118 rfl rfl, by decide, rfl, pd_9⟩⟩
theorem mwX5_first : mm_MW yX5_first cX5_first 4 (some .int) [] 0 14 4 := ⟨mm_t7 123 rfl rfl, mm_t1 5 rfl rfl, nqX5, TX5, _, Or.inl ⟨rfl, rfl, mm_t7 121 rfl rfl, mm_t7 122 rfl rfl, by decide, rfl, pd_14⟩⟩
theorem pd_47 : (parseMethodDescriptor "(IZ)V").map (fun d => d.parameters.length + 1) = some 3 := by decide +kernel
theorem mwX5_filled : mm_MW yX5_filled cX5_filled 5 none [] 0 14 3 := ⟨mm_t7 127 rfl rfl, mm_t1 5 rfl rfl, nqX5, TX5, _, Or.inl ⟨rfl, rfl, mm_t7 126 rfl rfl, mm_t0 57 rfl rfl, by decide, rfl, pd_47⟩⟩
theorem mwX5_fitting : mm_MW yX5_fitting cX5_fitting 7 (some .int) [] 0 14 4 := ⟨mm_t7 131 rfl rfl, mm_t1 5 rfl rfl, nqX5, TX5, _, Or.inl ⟨rfl, rfl, mm_t7 130 rfl rfl, mm_t0 58 rfl rfl, by decide, rfl, pd_14⟩⟩
theorem mwX5_next : mm_MW yX5_next cX5_next 6 (some .int) [] 0 14 3 := ⟨mm_t7 135 rfl rfl, mm_t1 5 rfl rfl, nqX5, TX5, _, Or.inl ⟨rfl, rfl, mm_t7 133 rfl rfl, mm_t7 134 rfl rfl, by decide, rfl, pd_13⟩⟩
theorem mwX5_isWhole : mm_MW yX5_isWhole cX5_isWhole 2 (some .boolean) [] 0 14 2 := ⟨mm_t7 139 rfl rfl, mm_t1 5 rfl rfl, nqX5, TX5, _, Or.inl ⟨rfl, rfl, mm_t7 138 rfl rfl, mm_t0 59 rfl rfl, by decide, rfl, pd_7⟩⟩
theorem mwX5_copied : mm_MW yX5_copied cX5_copied 4 none [] 0 14 3 := ⟨mm_t7 143 rfl rfl, mm_t1 5 rfl rfl, nqX5, TX5, _, Or.inl ⟨rfl, rfl, mm_t7 142 rfl rfl, mm_t0 60 rfl rfl, by decide, rfl, pd_15⟩⟩
theorem mwX5_copy : mm_MW yX5_copy cX5_copy 3 (some .int) [] 0 14 3 := ⟨mm_t7 147 rfl rfl, mm_t1 5 rfl rfl, nqX5, TX5, _, Or.inl ⟨rfl, rfl, mm_t7 145 rfl rfl, mm_t7 146 rfl rfl, by decide, rfl, pd_9⟩⟩
theorem mwX5_length : mm_MW yX5_length cX5_length 2 (some .int) [] 0 14 2 := ⟨mm_t7 151 rfl rfl, mm_t1 5 rfl rfl, nqX5, TX5, _, Or.inl ⟨rfl, rfl, mm_t7 149 rfl rfl, mm_t7 150 rfl rfl, by decide, rfl, pd_3⟩⟩
theorem mwX5_cornerAt : mm_MW yX5_cornerAt cX5_cornerAt 3 (some .int) [] 0 14 3 := ⟨mm_t7 155 rfl rfl, mm_t1 5 rfl rfl, nqX5, TX5, _, Or.inl ⟨rfl, rfl, mm_t7 153 rfl rfl, mm_t7 154 rfl rfl, by decide, rfl, pd_9⟩⟩
theorem mwX5_stepAt : mm_MW yX5_stepAt cX5_stepAt 3 (some .int) [] 0 14 3 := ⟨mm_t7 159 rfl rfl, mm_t1 5 rfl rfl, nqX5, TX5, _, Or.inl ⟨rfl, rfl, mm_t7 157 rfl rfl, mm_t7 158 rfl rfl, by decide, rfl, pd_9⟩⟩
theorem mwX5_find : mm_MW yX5_find cX5_find 3 (some .int) [] 0 14 3 := ⟨mm_t7 163 rfl rfl, mm_t1 5 rfl rfl, nqX5, TX5, _, Or.inl ⟨rfl, rfl, mm_t7 161 rfl rfl, mm_t7 162 rfl rfl, by decide, rfl, pd_9⟩⟩
theorem mwX5_is : mm_MW yX5_is cX5_is 3 (some .boolean) [] 0 14 3 := ⟨mm_t7 167 rfl rfl, mm_t1 5 rfl rfl, nqX5, TX5, _, Or.inl ⟨rfl, rfl, mm_t7 165 rfl rfl, mm_t7 166 rfl rfl, by decide, rfl, pd_41⟩⟩
theorem mwX5_same : mm_MW yX5_same cX5_same 3 (some .boolean) [] 0 14 3 := ⟨mm_t7 171 rfl rfl, mm_t1 5 rfl rfl, nqX5, TX5, _, Or.inl ⟨rfl, rfl, mm_t7 169 rfl rfl, mm_t7 170 rfl rfl, by decide, rfl, pd_11⟩⟩
theorem mwX5_isSame : mm_MW yX5_isSame cX5_isSame 4 (some .boolean) [] 0 14 3 := ⟨mm_t7 175 rfl rfl, mm_t1 5 rfl rfl, nqX5, TX5, _, Or.inl ⟨rfl, rfl, mm_t7 174 rfl rfl, mm_t0 61 rfl rfl, by decide, rfl, pd_11⟩⟩
theorem mwX5_turnOf : mm_MW yX5_turnOf cX5_turnOf 3 (some .int) [] 0 14 3 := ⟨mm_t7 179 rfl rfl, mm_t1 5 rfl rfl, nqX5, TX5, _, Or.inl ⟨rfl, rfl, mm_t7 177 rfl rfl, mm_t7 178 rfl rfl, by decide, rfl, pd_9⟩⟩
theorem mwX5_turnTo : mm_MW yX5_turnTo cX5_turnTo 4 (some .int) [] 0 14 3 := ⟨mm_t7 183 rfl rfl, mm_t1 5 rfl rfl, nqX5, TX5, _, Or.inl ⟨rfl, rfl, mm_t7 182 rfl rfl, mm_t0 62 rfl rfl, by decide, rfl, pd_9⟩⟩
theorem pd_48 : (parseMethodDescriptor "(III)Z").map (fun d => d.parameters.length + 1) = some 4 := by decide +kernel
theorem mwX5_isTurnedBy : mm_MW yX5_isTurnedBy cX5_isTurnedBy 5 (some .boolean) [] 0 14 4 := ⟨mm_t7 187 rfl rfl, mm_t1 5 rfl rfl, nqX5, TX5, _, Or.inl ⟨rfl, rfl, mm_t7 186 rfl rfl, mm_t0 63 rfl rfl, by decide, rfl, pd_48⟩⟩
theorem mwX5_text : mm_MW yX5_text cX5_text 5 (some (.object "java/lang/String")) [] 0 14 3 := ⟨mm_t7 191 rfl rfl, mm_t1 5 rfl rfl, nqX5, TX5, _, Or.inl ⟨rfl, rfl, mm_t7 189 rfl rfl, mm_t7 190 rfl rfl, by decide, rfl, pd_42⟩⟩
theorem mwX5_wordAt : mm_MW yX5_wordAt cX5_wordAt 4 (some .int) [] 0 14 4 := ⟨mm_t7 202 rfl rfl, mm_t1 5 rfl rfl, nqX5, TX5, _, Or.inl ⟨rfl, rfl, mm_t7 200 rfl rfl, mm_t7 201 rfl rfl, by decide, rfl, pd_34⟩⟩
theorem mwX5_wordIn : mm_MW yX5_wordIn cX5_wordIn 7 (some .int) [] 0 14 4 := ⟨mm_t7 206 rfl rfl, mm_t1 5 rfl rfl, nqX5, TX5, _, Or.inl ⟨rfl, rfl, mm_t7 205 rfl rfl, mm_t0 64 rfl rfl, by decide, rfl, pd_34⟩⟩
theorem mwX5_cursor : mm_MW yX5_cursor cX5_cursor 3 (some .int) [] 0 14 3 := ⟨mm_t7 210 rfl rfl, mm_t1 5 rfl rfl, nqX5, TX5, _, Or.inl ⟨rfl, rfl, mm_t7 208 rfl rfl, mm_t7 209 rfl rfl, by decide, rfl, pd_9⟩⟩
theorem mwX5_cursorGo : mm_MW yX5_cursorGo cX5_cursorGo 2 (some .int) [] 0 14 2 := ⟨mm_t7 214 rfl rfl, mm_t1 5 rfl rfl, nqX5, TX5, _, Or.inl ⟨rfl, rfl, mm_t7 212 rfl rfl, mm_t7 213 rfl rfl, by decide, rfl, pd_4⟩⟩
theorem mwX5_canGo : mm_MW yX5_canGo cX5_canGo 2 (some .boolean) [] 0 14 2 := ⟨mm_t7 218 rfl rfl, mm_t1 5 rfl rfl, nqX5, TX5, _, Or.inl ⟨rfl, rfl, mm_t7 217 rfl rfl, mm_t0 65 rfl rfl, by decide, rfl, pd_12⟩⟩
theorem mwX5_isThere : mm_MW yX5_isThere cX5_isThere 1 (some .boolean) [] 0 14 1 := ⟨mm_t7 222 rfl rfl, mm_t1 5 rfl rfl, nqX5, TX5, _, Or.inl ⟨rfl, rfl, mm_t7 221 rfl rfl, mm_t0 66 rfl rfl, by decide, rfl, pd_5⟩⟩
theorem mwX5_cursorSet : mm_MW yX5_cursorSet cX5_cursorSet 5 (some .int) [] 0 14 2 := ⟨mm_t7 226 rfl rfl, mm_t1 5 rfl rfl, nqX5, TX5, _, Or.inl ⟨rfl, rfl, mm_t7 224 rfl rfl, mm_t7 225 rfl rfl, by decide, rfl, pd_3⟩⟩
theorem mwX5_between : mm_MW yX5_between cX5_between 4 (some .int) [] 0 14 4 := ⟨mm_t7 230 rfl rfl, mm_t1 5 rfl rfl, nqX5, TX5, _, Or.inl ⟨rfl, rfl, mm_t7 229 rfl rfl, mm_t0 67 rfl rfl, by decide, rfl, pd_34⟩⟩
theorem mwX5_cursorAdd : mm_MW yX5_cursorAdd cX5_cursorAdd 3 (some .int) [] 0 14 2 := ⟨mm_t7 234 rfl rfl, mm_t1 5 rfl rfl, nqX5, TX5, _, Or.inl ⟨rfl, rfl, mm_t7 232 rfl rfl, mm_t7 233 rfl rfl, by decide, rfl, pd_3⟩⟩
theorem mwX5_fittingHere : mm_MW yX5_fittingHere cX5_fittingHere 3 (some .int) [] 0 14 2 := ⟨mm_t7 238 rfl rfl, mm_t1 5 rfl rfl, nqX5, TX5, _, Or.inl ⟨rfl, rfl, mm_t7 237 rfl rfl, mm_t0 68 rfl rfl, by decide, rfl, pd_3⟩⟩
theorem mwX5_cursorRemove : mm_MW yX5_cursorRemove cX5_cursorRemove 3 (some .int) [] 0 14 1 := ⟨mm_t8 2 rfl rfl, mm_t1 5 rfl rfl, nqX5, TX5, _, Or.inl ⟨rfl, rfl, mm_t8 0 rfl rfl, mm_t8 1 rfl rfl, by decide, rfl, pd_0⟩⟩
theorem mwX5_cursorCan : mm_MW yX5_cursorCan cX5_cursorCan 2 (some .boolean) [] 0 14 2 := ⟨mm_t8 6 rfl rfl, mm_t1 5 rfl rfl, nqX5, TX5, _, Or.inl ⟨rfl, rfl, mm_t8 4 rfl rfl, mm_t8 5 rfl rfl, by decide, rfl, pd_12⟩⟩
theorem mwX5_cursorPlace : mm_MW yX5_cursorPlace cX5_cursorPlace 2 (some .int) [] 0 14 2 := ⟨mm_t8 10 rfl rfl, mm_t1 5 rfl rfl, nqX5, TX5, _, Or.inl ⟨rfl, rfl, mm_t8 8 rfl rfl, mm_t8 9 rfl rfl, by decide, rfl, pd_4⟩⟩
theorem mwX5_placeTold : mm_MW yX5_placeTold cX5_placeTold 2 (some .int) [] 0 14 2 := ⟨mm_t8 14 rfl rfl, mm_t1 5 rfl rfl, nqX5, TX5, _, Or.inl ⟨rfl, rfl, mm_t8 13 rfl rfl, mm_t0 69 rfl rfl, by decide, rfl, pd_4⟩⟩
theorem mwX5_house : mm_MW yX5_house cX5_house 2 (some .int) [] 0 14 2 := ⟨mm_t8 18 rfl rfl, mm_t1 5 rfl rfl, nqX5, TX5, _, Or.inl ⟨rfl, rfl, mm_t8 16 rfl rfl, mm_t8 17 rfl rfl, by decide, rfl, pd_3⟩⟩
theorem mwX5_houseOf : mm_MW yX5_houseOf cX5_houseOf 2 (some .int) [] 0 14 2 := ⟨mm_t8 22 rfl rfl, mm_t1 5 rfl rfl, nqX5, TX5, _, Or.inl ⟨rfl, rfl, mm_t8 21 rfl rfl, mm_t0 70 rfl rfl, by decide, rfl, pd_3⟩⟩
theorem mwX5_knock : mm_MW yX5_knock cX5_knock 1 (some .int) [] 0 14 1 := ⟨mm_t8 26 rfl rfl, mm_t1 5 rfl rfl, nqX5, TX5, _, Or.inl ⟨rfl, rfl, mm_t8 24 rfl rfl, mm_t8 25 rfl rfl, by decide, rfl, pd_0⟩⟩
theorem mwX5_isSound : mm_MW yX5_isSound cX5_isSound 1 (some .boolean) [] 0 14 1 := ⟨mm_t8 30 rfl rfl, mm_t1 5 rfl rfl, nqX5, TX5, _, Or.inl ⟨rfl, rfl, mm_t8 28 rfl rfl, mm_t8 29 rfl rfl, by decide, rfl, pd_5⟩⟩
theorem mwX5_isAllSo : mm_MW yX5_isAllSo cX5_isAllSo 1 (some .boolean) [] 0 14 1 := ⟨mm_t8 34 rfl rfl, mm_t1 5 rfl rfl, nqX5, TX5, _, Or.inl ⟨rfl, rfl, mm_t8 33 rfl rfl, mm_t0 71 rfl rfl, by decide, rfl, pd_5⟩⟩
theorem mwX5_isWalk : mm_MW yX5_isWalk cX5_isWalk 5 (some .boolean) [] 0 14 2 := ⟨mm_t8 38 rfl rfl, mm_t1 5 rfl rfl, nqX5, TX5, _, Or.inl ⟨rfl, rfl, mm_t8 37 rfl rfl, mm_t0 72 rfl rfl, by decide, rfl, pd_7⟩⟩
theorem mwX5_isCounted : mm_MW yX5_isCounted cX5_isCounted 4 (some .boolean) [] 0 14 1 := ⟨mm_t8 42 rfl rfl, mm_t1 5 rfl rfl, nqX5, TX5, _, Or.inl ⟨rfl, rfl, mm_t8 41 rfl rfl, mm_t0 73 rfl rfl, by decide, rfl, pd_5⟩⟩
theorem mwX5_isCompleted : mm_MW yX5_isCompleted cX5_isCompleted 5 (some .boolean) [] 0 14 1 := ⟨mm_t8 46 rfl rfl, mm_t1 5 rfl rfl, nqX5, TX5, _, Or.inl ⟨rfl, rfl, mm_t8 45 rfl rfl, mm_t0 74 rfl rfl, by decide, rfl, pd_5⟩⟩
theorem mwX5_digest : mm_MW yX5_digest cX5_digest 4 (some .long) [] 0 14 1 := ⟨mm_t8 50 rfl rfl, mm_t1 5 rfl rfl, nqX5, TX5, _, Or.inl ⟨rfl, rfl, mm_t8 48 rfl rfl, mm_t8 49 rfl rfl, by decide, rfl, pd_17⟩⟩
theorem mwX5_addTown : mm_MW yX5_addTown cX5_addTown 7 (some .long) [] 0 14 2 := ⟨mm_t8 55 rfl rfl, mm_t1 5 rfl rfl, nqX5, TX5, _, Or.inl ⟨rfl, rfl, mm_t8 54 rfl rfl, mm_t0 75 rfl rfl, by decide, rfl, pd_18⟩⟩
theorem mwX5_add : mm_MW yX5_add cX5_add 4 (some .long) [] 1 0 2 := ⟨mm_t8 58 rfl rfl, mm_t1 5 rfl rfl, nqX5, (fun _ => default), 0, Or.inr ⟨rfl, mm_t8 57 rfl rfl, pd_19⟩⟩
theorem mwX5_addWalk : mm_MW yX5_addWalk cX5_addWalk 7 (some .long) [] 0 14 3 := ⟨mm_t8 63 rfl rfl, mm_t1 5 rfl rfl, nqX5, TX5, _, Or.inl ⟨rfl, rfl, mm_t8 62 rfl rfl, mm_t0 76 rfl rfl, by decide, rfl, pd_21⟩⟩
def flX1 : List (Nat × Nat × Nat) := [(9, 11, 0), (15, 11, 1), (18, 11, 2), (21, 11, 3), (24, 11, 4), (28, 11, 5), (32, 11, 6), (35, 11, 7)]
theorem flkX1 : ∀ q ∈ flX1, mm_lk RX1 mm_U q.2.1 q.2.2 q.1 := by
  intro q hq
  simp only [flX1, List.mem_cons, List.not_mem_nil, or_false] at hq
  rcases hq with rfl | rfl | rfl | rfl | rfl | rfl | rfl | rfl
  · exact Or.inl (mm_T_U _ (mm_t1 37 rfl rfl))
  · exact Or.inl (mm_T_U _ (mm_t1 38 rfl rfl))
  · exact Or.inl (mm_T_U _ (mm_t1 39 rfl rfl))
  · exact Or.inl (mm_T_U _ (mm_t1 40 rfl rfl))
  · exact Or.inl (mm_T_U _ (mm_t1 41 rfl rfl))
  · exact Or.inl (mm_T_U _ (mm_t1 42 rfl rfl))
  · exact Or.inl (mm_T_U _ (mm_t1 43 rfl rfl))
  · exact Or.inl (mm_T_U _ (mm_t1 44 rfl rfl))
def flX2 : List (Nat × Nat × Nat) := [(9, 12, 0), (15, 12, 1), (19, 12, 2), (23, 12, 3)]
theorem flkX2 : ∀ q ∈ flX2, mm_lk RX2 mm_U q.2.1 q.2.2 q.1 := by
  intro q hq
  simp only [flX2, List.mem_cons, List.not_mem_nil, or_false] at hq
  rcases hq with rfl | rfl | rfl | rfl
  · exact Or.inl (mm_T_U _ (mm_t1 70 rfl rfl))
  · exact Or.inl (mm_T_U _ (mm_t1 71 rfl rfl))
  · exact Or.inl (mm_T_U _ (mm_t1 72 rfl rfl))
  · exact Or.inl (mm_T_U _ (mm_t1 73 rfl rfl))
def flX0 : List (Nat × Nat × Nat) := [(9, 13, 0), (19, 13, 1), (23, 13, 2), (15, 13, 3), (26, 13, 4)]
theorem flkX0 : ∀ q ∈ flX0, mm_lk RX0 mm_U q.2.1 q.2.2 q.1 := by
  intro q hq
  simp only [flX0, List.mem_cons, List.not_mem_nil, or_false] at hq
  rcases hq with rfl | rfl | rfl | rfl | rfl
  · exact Or.inl (mm_T_U _ (mm_t1 89 rfl rfl))
  · exact Or.inl (mm_T_U _ (mm_t1 90 rfl rfl))
  · exact Or.inl (mm_T_U _ (mm_t1 91 rfl rfl))
  · exact Or.inl (mm_T_U _ (mm_t1 92 rfl rfl))
  · exact Or.inl (mm_T_U _ (mm_t1 93 rfl rfl))
def flX3 : List (Nat × Nat × Nat) := [(10, 10, 0), (18, 10, 1), (25, 10, 2), (32, 10, 3), (285, 10, 4), (289, 10, 5), (292, 10, 6)]
theorem flkX3 : ∀ q ∈ flX3, mm_lk RX3 mm_U q.2.1 q.2.2 q.1 := by
  intro q hq
  simp only [flX3, List.mem_cons, List.not_mem_nil, or_false] at hq
  rcases hq with rfl | rfl | rfl | rfl | rfl | rfl | rfl
  · exact Or.inl (mm_T_U _ (mm_t1 105 rfl rfl))
  · exact Or.inl (mm_T_U _ (mm_t1 106 rfl rfl))
  · exact Or.inl (mm_T_U _ (mm_t1 107 rfl rfl))
  · exact Or.inl (mm_T_U _ (mm_t1 108 rfl rfl))
  · exact Or.inl (mm_T_U _ (mm_t1 109 rfl rfl))
  · exact Or.inl (mm_T_U _ (mm_t1 110 rfl rfl))
  · exact Or.inl (mm_T_U _ (mm_t1 111 rfl rfl))
def flL : List (Nat × Nat × Nat) := [(13, 15, 0), (116, 15, 1)]
theorem flkL : ∀ q ∈ flL, mm_lk RL mm_U q.2.1 q.2.2 q.1 := by
  intro q hq
  simp only [flL, List.mem_cons, List.not_mem_nil, or_false] at hq
  rcases hq with rfl | rfl
  · exact Or.inr ⟨RL, List.mem_append_right _ (by decide +kernel)⟩
  · exact Or.inr ⟨RL, List.mem_append_right _ (by decide +kernel)⟩
def flX5 : List (Nat × Nat × Nat) := [(32, 14, 0), (49, 14, 1), (9, 14, 2), (13, 14, 3), (60, 14, 4), (89, 14, 5), (92, 14, 6), (16, 14, 7), (19, 14, 8), (22, 14, 9), (25, 14, 10), (237, 14, 11), (29, 14, 12), (114, 14, 13), (39, 14, 14), (42, 14, 15), (257, 14, 16)]
theorem flkX5 : ∀ q ∈ flX5, mm_lk RX5 mm_U q.2.1 q.2.2 q.1 := by
  intro q hq
  simp only [flX5, List.mem_cons, List.not_mem_nil, or_false] at hq
  rcases hq with rfl | rfl | rfl | rfl | rfl | rfl | rfl | rfl | rfl | rfl | rfl | rfl | rfl | rfl | rfl | rfl | rfl
  · exact Or.inl (mm_T_U _ (mm_t6 47 rfl rfl))
  · exact Or.inl (mm_T_U _ (mm_t6 48 rfl rfl))
  · exact Or.inl (mm_T_U _ (mm_t6 49 rfl rfl))
  · exact Or.inl (mm_T_U _ (mm_t6 50 rfl rfl))
  · exact Or.inl (mm_T_U _ (mm_t6 51 rfl rfl))
  · exact Or.inl (mm_T_U _ (mm_t6 52 rfl rfl))
  · exact Or.inl (mm_T_U _ (mm_t6 53 rfl rfl))
  · exact Or.inl (mm_T_U _ (mm_t6 54 rfl rfl))
  · exact Or.inl (mm_T_U _ (mm_t6 55 rfl rfl))
  · exact Or.inl (mm_T_U _ (mm_t6 56 rfl rfl))
  · exact Or.inl (mm_T_U _ (mm_t6 57 rfl rfl))
  · exact Or.inl (mm_T_U _ (mm_t6 58 rfl rfl))
  · exact Or.inl (mm_T_U _ (mm_t6 59 rfl rfl))
  · exact Or.inl (mm_T_U _ (mm_t6 60 rfl rfl))
  · exact Or.inl (mm_T_U _ (mm_t6 61 rfl rfl))
  · exact Or.inl (mm_T_U _ (mm_t6 62 rfl rfl))
  · exact Or.inl (mm_T_U _ (mm_t6 63 rfl rfl))
