section
/-! the constructors of the walk, the cursor, the answer's box and the model, natively -/
theorem dX2_init : decode cX2_init 0 = .ok (.aload_n 0, 1) ∧ decode cX2_init 1 = .ok (.invokespecial 3, 3) ∧ decode cX2_init 4 = .ok (.aload_n 0, 1) ∧ decode cX2_init 5 = .ok (.aload_n 1, 1) ∧ decode cX2_init 6 = .ok (.putfield 9, 3) ∧ decode cX2_init 9 = .ok (.aload_n 0, 1) ∧ decode cX2_init 10 = .ok (.bipush 30, 2) ∧ decode cX2_init 12 = .ok (.newarray .int, 2) ∧ decode cX2_init 14 = .ok (.putfield 15, 3) ∧ decode cX2_init 17 = .ok (.return_, 1) := by (repeat' apply And.intro) <;> decide +kernel
set_option maxHeartbeats 4000000 in
set_option maxRecDepth 100000 in
theorem c_X2_init (l : Launch) (D : va_G) (h0 t0 sz : Nat) (cI : ClassId) : Met l yX2_init (.code yX2_init cX2_init 2 none :: mm_T) ({ frames := 1, cells := 1, slots := 30, locals := 12 }) (va_Pc [.ref h0, .ref t0] (fun U => U.heap.size = sz ∧ va_P D mm_cl [(h0, .inr (2, [.null, .null, .int 0, .int 0]))] U.heap ∧ va_K D mm_cl [(cI, .int)] U ∧ va_D (fun _ => True) [(h0, .inr (2, [.null, .null, .int 0, .int 0]))])) (va_Qv (fun _ : Nat => True) (fun u U => va_P D mm_cl [(h0, .inr (2, [.ref t0, .ref u, .int 0, .int 0])), (u, row0 cI 30)] U.heap ∧ va_K D mm_cl [(cI, .int)] U ∧ va_D (va_A [(h0, .inr (2, [.null, .null, .int 0, .int 0]))] sz) [(h0, .inr (2, [.ref t0, .ref u, .int 0, .int 0])), (u, row0 cI 30)]) (va_A [(h0, .inr (2, [.null, .null, .int 0, .int 0]))] sz)) 1 30 (va_A [(h0, .inr (2, [.null, .null, .int 0, .int 0]))] sz) := by
  refine Met.ofW (cc := cX2_init) (maxL := 2) (ret := none) (by decide) rfl ?_
  intro p e s m args below meth c s₁ B hml hv
  obtain ⟨rfl, hsz, hP, hK, hD0⟩ := hv
  have hx := B.exec
  have hb := B.bytes
  have hr := B.returns
  have hts := atoms_spec (ws := .code yX2_init cX2_init 2 none :: mm_T) B.pre
  have htT : ∀ w ∈ mm_T, w.before #[Value.ref h0, Value.ref t0] s = true := fun w hw => hts w (List.mem_cons_of_mem _ hw)
  have hin9 : ∀ w ∈ u_ws RX2 TX2 4, w ∈ (.code yX2_init cX2_init 2 none :: mm_T : List Jvm.Cond) := fun w hw => List.mem_cons_of_mem _ (mm_T_cls (RX2, TX2, 4) (List.mem_of_getElem? (i := 2) rfl) w hw)
  have hown : s.vm.findClass RX2 = some m.cls := findClass_of_methodNamed B.named
  have hlocks := B.notSynchronized
  have hin : meth.name = "<init>" := (name_of_methodNamed B.named B.method).1
  subst hsz
  have hD := hD0.self (sz := s.heap.size)
  generalize hAe : va_A [(h0, .inr (2, [.null, .null, .int 0, .int 0]))] s.heap.size = A at hD ⊢
  have hA : ∀ q : Nat, s.heap.size ≤ q → A q := fun q h => by rw [← hAe]; exact Or.inr h
  have hS : va_S A s.heap s.heap [] := va_S.rf
  have hl := lv_entry ([.ref h0, .ref t0]) (n := 2) (Nat.le_of_ble_eq_true rfl)
  rw [lg_entry_eq]
  generalize (lg_sl ([.ref h0, .ref t0]) ++ List.replicate (2 - (lg_sl ([.ref h0, .ref t0])).length) Slot.unset).toArray = ls at hl ⊢
  have hl : lv_has ls 2 [(0, .ref h0), (1, .ref t0)] := hl
  obtain ⟨d0, d1, d4, d5, d6, d9, d10, d12, d14, d17⟩ := dX2_init
  have un : ∀ cA, va_K D mm_cl ([(cI, .int)] ++ [(cA, .int)]) s → cA = cI := fun cA h => Option.some.inj (((h.2 1 _ rfl).2 : s.vm.findClass _ = some cA).symm.trans ((h.2 0 _ rfl).2 : s.vm.findClass _ = some cI))
  refine lv_aload_n hx hb d0 rfl (lv_at hl 0 rfl) ?_
  refine W.objInit hx hb hown (htT _ (mm_t1 69 rfl rfl)) (htT _ (mm_t1 29 rfl rfl)) (htT _ (mm_t1 30 rfl rfl)) rfl (by rw [hml]; exact hl.1) rfl d1 (Nat.le_of_ble_eq_true rfl) (Nat.le_of_ble_eq_true rfl) ?_
  refine W.eq (g2 := F0 m 4 ls []) rfl ?_
  refine lv_aload_n hx hb d4 rfl (lv_at hl 0 rfl) ?_
  refine lv_aload_n hx hb d5 rfl (lv_at hl 1 rfl) ?_
  refine va_putF (D := D) (ci := 2) (v := .ref t0) (ty := .object "Allstreets$Town") (C := RX2) (T := TX2) (N := 4) hx hb hts hin9 tyX2 tyX2_ok nmX2 hown hK hP hD hS 0 rfl rfl 0 (by decide) (htT _ (mm_t1 70 rfl rfl)) (fun _ h9 => h9) rfl hin rfl (by decide +kernel) rfl rfl (Nat.le_of_ble_eq_true rfl) d6 (fun H locs hP hD hS => ?_)
  have hP : va_P D mm_cl [(h0, .inr (2, [.ref t0, .null, .int 0, .int 0]))] H := hP
  have hD : va_D A [(h0, .inr (2, [.ref t0, .null, .int 0, .int 0]))] := hD
  refine lv_aload_n hx hb d9 rfl (lv_at hl 0 rfl) ?_
  refine lv_bipush (v := 30) hx hb d10 rfl ?_
  refine va_newa (atype := .int) (ty := .int) (a0 := (30, .inl (fun _ => 0))) hx hb (htT _ (mm_t1 62 rfl rfl)) rfl hK hP hD hS hA (fun _ => rfl) (by decide) rfl (Nat.le_of_ble_eq_true rfl) (Nat.le_of_ble_eq_true rfl) (Nat.le_of_ble_eq_true rfl) d12 (fun a0 cA H hK hP hD hS => ?_)
  have ecA := un cA hK
  rw [ecA] at hK hP hD
  have hK : va_K D mm_cl [(cI, .int)] s := hK.sub (tys' := [(cI, .int)]) [0] rfl
  have hP : va_P D mm_cl [(h0, .inr (2, [.ref t0, .null, .int 0, .int 0])), (a0, row0 cI 30)] H := hP
  have hD : va_D A [(h0, .inr (2, [.ref t0, .null, .int 0, .int 0])), (a0, row0 cI 30)] := hD
  refine va_putF (D := D) (ci := 2) (v := .ref a0) (ty := .array .int) (C := RX2) (T := TX2) (N := 4) hx hb hts hin9 tyX2 tyX2_ok nmX2 hown hK hP hD hS 0 rfl rfl 1 (by decide) (htT _ (mm_t1 71 rfl rfl)) (fun _ h9 => h9) rfl hin rfl (by decide +kernel) rfl rfl (Nat.le_of_ble_eq_true rfl) d14 (fun H locs hP hD hS => ?_)
  have hP : va_P D mm_cl [(h0, .inr (2, [.ref t0, .ref a0, .int 0, .int 0])), (a0, row0 cI 30)] H := hP
  have hD : va_D A [(h0, .inr (2, [.ref t0, .ref a0, .int 0, .int 0])), (a0, row0 cI 30)] := hD
  exact W.vret hx hb hr (fun t ht hW => ⟨⟨a0, rfl, trivial, by rw [ht]; exact hP, va_K.moved hW.alike hK, hD⟩, hS.F ht⟩) hS.2.2 d17
theorem dX0_init : decode cX0_init 0 = .ok (.aload_n 0, 1) ∧ decode cX0_init 1 = .ok (.invokespecial 3, 3) ∧ decode cX0_init 4 = .ok (.aload_n 0, 1) ∧ decode cX0_init 5 = .ok (.aload_n 1, 1) ∧ decode cX0_init 6 = .ok (.putfield 9, 3) ∧ decode cX0_init 9 = .ok (.aload_n 0, 1) ∧ decode cX0_init 10 = .ok (.iconst (-1), 1) ∧ decode cX0_init 11 = .ok (.putfield 15, 3) ∧ decode cX0_init 14 = .ok (.return_, 1) := by (repeat' apply And.intro) <;> decide +kernel
set_option maxHeartbeats 4000000 in
set_option maxRecDepth 100000 in
theorem c_X0_init (l : Launch) (D : va_G) (h0 t0 sz : Nat) (cI : ClassId) : Met l yX0_init (.code yX0_init cX0_init 2 none :: mm_T) ({ frames := 1, cells := 0, slots := 0, locals := 12 }) (va_Pc [.ref h0, .ref t0] (fun U => U.heap.size = sz ∧ va_P D mm_cl [(h0, .inr (3, [.null, .null, .int 0, .int 0, .int 0]))] U.heap ∧ va_K D mm_cl [(cI, .int)] U ∧ va_D (fun _ => True) [(h0, .inr (3, [.null, .null, .int 0, .int 0, .int 0]))])) (va_Qv (fun _ : Unit => True) (fun u U => va_P D mm_cl [(h0, .inr (3, [.ref t0, .null, .int 0, .int (-1), .int 0]))] U.heap ∧ va_K D mm_cl [(cI, .int)] U ∧ va_D (va_A [(h0, .inr (3, [.null, .null, .int 0, .int 0, .int 0]))] sz) [(h0, .inr (3, [.ref t0, .null, .int 0, .int (-1), .int 0]))]) (va_A [(h0, .inr (3, [.null, .null, .int 0, .int 0, .int 0]))] sz)) 0 0 (va_A [(h0, .inr (3, [.null, .null, .int 0, .int 0, .int 0]))] sz) := by
  refine Met.ofW (cc := cX0_init) (maxL := 2) (ret := none) (by decide) rfl ?_
  intro p e s m args below meth c s₁ B hml hv
  obtain ⟨rfl, hsz, hP, hK, hD0⟩ := hv
  have hx := B.exec
  have hb := B.bytes
  have hr := B.returns
  have hts := atoms_spec (ws := .code yX0_init cX0_init 2 none :: mm_T) B.pre
  have htT : ∀ w ∈ mm_T, w.before #[Value.ref h0, Value.ref t0] s = true := fun w hw => hts w (List.mem_cons_of_mem _ hw)
  have hin9 : ∀ w ∈ u_ws RX0 TX0 5, w ∈ (.code yX0_init cX0_init 2 none :: mm_T : List Jvm.Cond) := fun w hw => List.mem_cons_of_mem _ (mm_T_cls (RX0, TX0, 5) (List.mem_of_getElem? (i := 3) rfl) w hw)
  have hown : s.vm.findClass RX0 = some m.cls := findClass_of_methodNamed B.named
  have hlocks := B.notSynchronized
  have hin : meth.name = "<init>" := (name_of_methodNamed B.named B.method).1
  subst hsz
  have hD := hD0.self (sz := s.heap.size)
  generalize hAe : va_A [(h0, .inr (3, [.null, .null, .int 0, .int 0, .int 0]))] s.heap.size = A at hD ⊢
  have hA : ∀ q : Nat, s.heap.size ≤ q → A q := fun q h => by rw [← hAe]; exact Or.inr h
  have hS : va_S A s.heap s.heap [] := va_S.rf
  have hl := lv_entry ([.ref h0, .ref t0]) (n := 2) (Nat.le_of_ble_eq_true rfl)
  rw [lg_entry_eq]
  generalize (lg_sl ([.ref h0, .ref t0]) ++ List.replicate (2 - (lg_sl ([.ref h0, .ref t0])).length) Slot.unset).toArray = ls at hl ⊢
  have hl : lv_has ls 2 [(0, .ref h0), (1, .ref t0)] := hl
  obtain ⟨d0, d1, d4, d5, d6, d9, d10, d11, d14⟩ := dX0_init
  have un : ∀ cA, va_K D mm_cl ([(cI, .int)] ++ [(cA, .int)]) s → cA = cI := fun cA h => Option.some.inj (((h.2 1 _ rfl).2 : s.vm.findClass _ = some cA).symm.trans ((h.2 0 _ rfl).2 : s.vm.findClass _ = some cI))
  refine lv_aload_n hx hb d0 rfl (lv_at hl 0 rfl) ?_
  refine W.objInit hx hb hown (htT _ (mm_t1 88 rfl rfl)) (htT _ (mm_t1 29 rfl rfl)) (htT _ (mm_t1 30 rfl rfl)) rfl (by rw [hml]; exact hl.1) rfl d1 (Nat.le_of_ble_eq_true rfl) (Nat.le_of_ble_eq_true rfl) ?_
  refine W.eq (g2 := F0 m 4 ls []) rfl ?_
  refine lv_aload_n hx hb d4 rfl (lv_at hl 0 rfl) ?_
  refine lv_aload_n hx hb d5 rfl (lv_at hl 1 rfl) ?_
  refine va_putF (D := D) (ci := 3) (v := .ref t0) (ty := .object "Allstreets$Town") (C := RX0) (T := TX0) (N := 5) hx hb hts hin9 tyX0 tyX0_ok nmX0 hown hK hP hD hS 0 rfl rfl 0 (by decide) (htT _ (mm_t1 89 rfl rfl)) (fun _ h9 => h9) rfl hin rfl (by decide +kernel) rfl rfl (Nat.le_of_ble_eq_true rfl) d6 (fun H locs hP hD hS => ?_)
  have hP : va_P D mm_cl [(h0, .inr (3, [.ref t0, .null, .int 0, .int 0, .int 0]))] H := hP
  have hD : va_D A [(h0, .inr (3, [.ref t0, .null, .int 0, .int 0, .int 0]))] := hD
  refine lv_aload_n hx hb d9 rfl (lv_at hl 0 rfl) ?_
  refine lv_iconst (v := -1) hx hb d10 (by decide) ?_
  refine va_put (D := D) (ci := 3) (v := .int (-1)) (ty := .int) (C := RX0) (T := TX0) (N := 5) hx hb hts hin9 tyX0 tyX0_ok nmX0 hown hK hP hD hS 0 rfl rfl 3 (by decide) (htT _ (mm_t1 92 rfl rfl)) (fun _ h9 => h9) rfl (by decide +kernel) rfl rfl (Nat.le_of_ble_eq_true rfl) d11 (fun H locs hP hD hS => ?_)
  have hP : va_P D mm_cl [(h0, .inr (3, [.ref t0, .null, .int 0, .int (-1), .int 0]))] H := hP
  have hD : va_D A [(h0, .inr (3, [.ref t0, .null, .int 0, .int (-1), .int 0]))] := hD
  exact W.vret hx hb hr (fun t ht hW => ⟨⟨(), rfl, trivial, by rw [ht]; exact hP, va_K.moved hW.alike hK, hD⟩, hS.F ht⟩) hS.2.2 d14
theorem dX4_init : decode cX4_init 0 = .ok (.aload_n 0, 1) ∧ decode cX4_init 1 = .ok (.invokespecial 1, 3) ∧ decode cX4_init 4 = .ok (.return_, 1) := by (repeat' apply And.intro) <;> decide +kernel
set_option maxHeartbeats 4000000 in
set_option maxRecDepth 100000 in
theorem c_X4_init (l : Launch) (D : va_G) (h0 sz : Nat) (cI : ClassId) : Met l yX4_init (.code yX4_init cX4_init 1 none :: mm_T) ({ frames := 1, cells := 0, slots := 0, locals := 12 }) (va_Pc [.ref h0] (fun U => U.heap.size = sz ∧ va_P D mm_cl [(h0, .inr (5, [.long 0, .null]))] U.heap ∧ va_K D mm_cl [(cI, .int)] U ∧ va_D (fun _ => True) [(h0, .inr (5, [.long 0, .null]))])) (va_Qv (fun _ : Unit => True) (fun u U => va_P D mm_cl [(h0, .inr (5, [.long 0, .null]))] U.heap ∧ va_K D mm_cl [(cI, .int)] U ∧ va_D (va_A [(h0, .inr (5, [.long 0, .null]))] sz) [(h0, .inr (5, [.long 0, .null]))]) (va_A [(h0, .inr (5, [.long 0, .null]))] sz)) 0 0 (va_A [(h0, .inr (5, [.long 0, .null]))] sz) := by
  refine Met.ofW (cc := cX4_init) (maxL := 1) (ret := none) (by decide) rfl ?_
  intro p e s m args below meth c s₁ B hml hv
  obtain ⟨rfl, hsz, hP, hK, hD0⟩ := hv
  have hx := B.exec
  have hb := B.bytes
  have hr := B.returns
  have hts := atoms_spec (ws := .code yX4_init cX4_init 1 none :: mm_T) B.pre
  have htT : ∀ w ∈ mm_T, w.before #[Value.ref h0] s = true := fun w hw => hts w (List.mem_cons_of_mem _ hw)
  have hin9 : ∀ w ∈ u_ws RX4 TX4 2, w ∈ (.code yX4_init cX4_init 1 none :: mm_T : List Jvm.Cond) := fun w hw => List.mem_cons_of_mem _ (mm_T_cls (RX4, TX4, 2) (List.mem_of_getElem? (i := 5) rfl) w hw)
  have hown : s.vm.findClass RX4 = some m.cls := findClass_of_methodNamed B.named
  have hlocks := B.notSynchronized
  have hin : meth.name = "<init>" := (name_of_methodNamed B.named B.method).1
  subst hsz
  have hD := hD0.self (sz := s.heap.size)
  generalize hAe : va_A [(h0, .inr (5, [.long 0, .null]))] s.heap.size = A at hD ⊢
  have hA : ∀ q : Nat, s.heap.size ≤ q → A q := fun q h => by rw [← hAe]; exact Or.inr h
  have hS : va_S A s.heap s.heap [] := va_S.rf
  have hl := lv_entry ([.ref h0]) (n := 1) (Nat.le_of_ble_eq_true rfl)
  rw [lg_entry_eq]
  generalize (lg_sl ([.ref h0]) ++ List.replicate (1 - (lg_sl ([.ref h0])).length) Slot.unset).toArray = ls at hl ⊢
  have hl : lv_has ls 1 [(0, .ref h0)] := hl
  obtain ⟨d0, d1, d4⟩ := dX4_init
  have un : ∀ cA, va_K D mm_cl ([(cI, .int)] ++ [(cA, .int)]) s → cA = cI := fun cA h => Option.some.inj (((h.2 1 _ rfl).2 : s.vm.findClass _ = some cA).symm.trans ((h.2 0 _ rfl).2 : s.vm.findClass _ = some cI))
  refine lv_aload_n hx hb d0 rfl (lv_at hl 0 rfl) ?_
  refine W.objInit hx hb hown (htT _ (mm_t3 64 rfl rfl)) (htT _ (mm_t1 29 rfl rfl)) (htT _ (mm_t1 30 rfl rfl)) rfl (by rw [hml]; exact hl.1) rfl d1 (Nat.le_of_ble_eq_true rfl) (Nat.le_of_ble_eq_true rfl) ?_
  refine W.eq (g2 := F0 m 4 ls []) rfl ?_
  exact W.vret hx hb hr (fun t ht hW => ⟨⟨(), rfl, trivial, by rw [ht]; exact hP, va_K.moved hW.alike hK, hD⟩, hS.F ht⟩) hS.2.2 d4
theorem dX5_init : decode cX5_init 0 = .ok (.aload_n 0, 1) ∧ decode cX5_init 1 = .ok (.invokespecial 1, 3) ∧ decode cX5_init 4 = .ok (.aload_n 0, 1) ∧ decode cX5_init 5 = .ok (.bipush 30, 2) ∧ decode cX5_init 7 = .ok (.newarray .int, 2) ∧ decode cX5_init 9 = .ok (.putfield 9, 3) ∧ decode cX5_init 12 = .ok (.aload_n 0, 1) ∧ decode cX5_init 13 = .ok (.bipush 30, 2) ∧ decode cX5_init 15 = .ok (.newarray .int, 2) ∧ decode cX5_init 17 = .ok (.putfield 13, 3) ∧ decode cX5_init 20 = .ok (.aload_n 0, 1) ∧ decode cX5_init 21 = .ok (.bipush 120, 2) ∧ decode cX5_init 23 = .ok (.newarray .int, 2) ∧ decode cX5_init 25 = .ok (.putfield 16, 3) ∧ decode cX5_init 28 = .ok (.aload_n 0, 1) ∧ decode cX5_init 29 = .ok (.iconst 4, 1) ∧ decode cX5_init 30 = .ok (.newarray .int, 2) ∧ decode cX5_init 32 = .ok (.putfield 19, 3) ∧ decode cX5_init 35 = .ok (.aload_n 0, 1) ∧ decode cX5_init 36 = .ok (.iconst 4, 1) ∧ decode cX5_init 37 = .ok (.newarray .int, 2) ∧ decode cX5_init 39 = .ok (.putfield 22, 3) ∧ decode cX5_init 42 = .ok (.aload_n 0, 1) ∧ decode cX5_init 43 = .ok (.iconst (-1), 1) ∧ decode cX5_init 44 = .ok (.putfield 25, 3) ∧ decode cX5_init 47 = .ok (.aload_n 0, 1) ∧ decode cX5_init 48 = .ok (.iconst (-1), 1) ∧ decode cX5_init 49 = .ok (.putfield 29, 3) ∧ decode cX5_init 52 = .ok (.return_, 1) := by (repeat' apply And.intro) <;> decide +kernel
set_option maxHeartbeats 4000000 in
set_option maxRecDepth 100000 in
theorem c_X5_init (l : Launch) (D : va_G) (h0 sz : Nat) (cI : ClassId) : Met l yX5_init (.code yX5_init cX5_init 1 none :: mm_T) ({ frames := 1, cells := 5, slots := 188, locals := 12 }) (va_Pc [.ref h0] (fun U => U.heap.size = sz ∧ va_P D mm_cl [(h0, .inr (4, [.int 0, .int 0, .null, .null, .int 0, .int 0, .int 0, .null, .null, .null, .int 0, .int 0, .int 0, .int 0, .int 0, .int 0, .int 0]))] U.heap ∧ va_K D mm_cl [(cI, .int)] U ∧ va_D (fun _ => True) [(h0, .inr (4, [.int 0, .int 0, .null, .null, .int 0, .int 0, .int 0, .null, .null, .null, .int 0, .int 0, .int 0, .int 0, .int 0, .int 0, .int 0]))])) (va_Qv (fun _ : Nat × Nat × Nat × Nat × Nat => True) (fun u U => va_P D mm_cl [(h0, .inr (4, [.int 0, .int 0, .ref u.1, .ref u.2.1, .int 0, .int 0, .int 0, .ref u.2.2.1, .ref u.2.2.2.1, .ref u.2.2.2.2, .int (-1), .int 0, .int (-1), .int 0, .int 0, .int 0, .int 0])), (u.1, row0 cI 30), (u.2.1, row0 cI 30), (u.2.2.1, row0 cI 120), (u.2.2.2.1, row0 cI 4), (u.2.2.2.2, row0 cI 4)] U.heap ∧ va_K D mm_cl [(cI, .int)] U ∧ va_D (va_A [(h0, .inr (4, [.int 0, .int 0, .null, .null, .int 0, .int 0, .int 0, .null, .null, .null, .int 0, .int 0, .int 0, .int 0, .int 0, .int 0, .int 0]))] sz) [(h0, .inr (4, [.int 0, .int 0, .ref u.1, .ref u.2.1, .int 0, .int 0, .int 0, .ref u.2.2.1, .ref u.2.2.2.1, .ref u.2.2.2.2, .int (-1), .int 0, .int (-1), .int 0, .int 0, .int 0, .int 0])), (u.1, row0 cI 30), (u.2.1, row0 cI 30), (u.2.2.1, row0 cI 120), (u.2.2.2.1, row0 cI 4), (u.2.2.2.2, row0 cI 4)]) (va_A [(h0, .inr (4, [.int 0, .int 0, .null, .null, .int 0, .int 0, .int 0, .null, .null, .null, .int 0, .int 0, .int 0, .int 0, .int 0, .int 0, .int 0]))] sz)) 5 188 (va_A [(h0, .inr (4, [.int 0, .int 0, .null, .null, .int 0, .int 0, .int 0, .null, .null, .null, .int 0, .int 0, .int 0, .int 0, .int 0, .int 0, .int 0]))] sz) := by
  refine Met.ofW (cc := cX5_init) (maxL := 1) (ret := none) (by decide) rfl ?_
  intro p e s m args below meth c s₁ B hml hv
  obtain ⟨rfl, hsz, hP, hK, hD0⟩ := hv
  have hx := B.exec
  have hb := B.bytes
  have hr := B.returns
  have hts := atoms_spec (ws := .code yX5_init cX5_init 1 none :: mm_T) B.pre
  have htT : ∀ w ∈ mm_T, w.before #[Value.ref h0] s = true := fun w hw => hts w (List.mem_cons_of_mem _ hw)
  have hin9 : ∀ w ∈ u_ws RX5 TX5 17, w ∈ (.code yX5_init cX5_init 1 none :: mm_T : List Jvm.Cond) := fun w hw => List.mem_cons_of_mem _ (mm_T_cls (RX5, TX5, 17) (List.mem_of_getElem? (i := 4) rfl) w hw)
  have hown : s.vm.findClass RX5 = some m.cls := findClass_of_methodNamed B.named
  have hlocks := B.notSynchronized
  have hin : meth.name = "<init>" := (name_of_methodNamed B.named B.method).1
  subst hsz
  have hD := hD0.self (sz := s.heap.size)
  generalize hAe : va_A [(h0, .inr (4, [.int 0, .int 0, .null, .null, .int 0, .int 0, .int 0, .null, .null, .null, .int 0, .int 0, .int 0, .int 0, .int 0, .int 0, .int 0]))] s.heap.size = A at hD ⊢
  have hA : ∀ q : Nat, s.heap.size ≤ q → A q := fun q h => by rw [← hAe]; exact Or.inr h
  have hS : va_S A s.heap s.heap [] := va_S.rf
  have hl := lv_entry ([.ref h0]) (n := 1) (Nat.le_of_ble_eq_true rfl)
  rw [lg_entry_eq]
  generalize (lg_sl ([.ref h0]) ++ List.replicate (1 - (lg_sl ([.ref h0])).length) Slot.unset).toArray = ls at hl ⊢
  have hl : lv_has ls 1 [(0, .ref h0)] := hl
  obtain ⟨d0, d1, d4, d5, d7, d9, d12, d13, d15, d17, d20, d21, d23, d25, d28, d29, d30, d32, d35, d36, d37, d39, d42, d43, d44, d47, d48, d49, d52⟩ := dX5_init
  have un : ∀ cA, va_K D mm_cl ([(cI, .int)] ++ [(cA, .int)]) s → cA = cI := fun cA h => Option.some.inj (((h.2 1 _ rfl).2 : s.vm.findClass _ = some cA).symm.trans ((h.2 0 _ rfl).2 : s.vm.findClass _ = some cI))
  refine lv_aload_n hx hb d0 rfl (lv_at hl 0 rfl) ?_
  refine W.objInit hx hb hown (htT _ (mm_t6 46 rfl rfl)) (htT _ (mm_t1 29 rfl rfl)) (htT _ (mm_t1 30 rfl rfl)) rfl (by rw [hml]; exact hl.1) rfl d1 (Nat.le_of_ble_eq_true rfl) (Nat.le_of_ble_eq_true rfl) ?_
  refine W.eq (g2 := F0 m 4 ls []) rfl ?_
  refine lv_aload_n hx hb d4 rfl (lv_at hl 0 rfl) ?_
  refine lv_bipush (v := 30) hx hb d5 rfl ?_
  refine va_newa (atype := .int) (ty := .int) (a0 := (30, .inl (fun _ => 0))) hx hb (htT _ (mm_t1 62 rfl rfl)) rfl hK hP hD hS hA (fun _ => rfl) (by decide) rfl (Nat.le_of_ble_eq_true rfl) (Nat.le_of_ble_eq_true rfl) (Nat.le_of_ble_eq_true rfl) d7 (fun a0 cA H hK hP hD hS => ?_)
  have ecA := un cA hK
  rw [ecA] at hK hP hD
  have hK : va_K D mm_cl [(cI, .int)] s := hK.sub (tys' := [(cI, .int)]) [0] rfl
  have hP : va_P D mm_cl [(h0, .inr (4, [.int 0, .int 0, .null, .null, .int 0, .int 0, .int 0, .null, .null, .null, .int 0, .int 0, .int 0, .int 0, .int 0, .int 0, .int 0])), (a0, row0 cI 30)] H := hP
  have hD : va_D A [(h0, .inr (4, [.int 0, .int 0, .null, .null, .int 0, .int 0, .int 0, .null, .null, .null, .int 0, .int 0, .int 0, .int 0, .int 0, .int 0, .int 0])), (a0, row0 cI 30)] := hD
  refine va_putF (D := D) (ci := 4) (v := .ref a0) (ty := .array .int) (C := RX5) (T := TX5) (N := 17) hx hb hts hin9 tyX5 tyX5_ok nmX5 hown hK hP hD hS 0 rfl rfl 2 (by decide) (htT _ (mm_t6 49 rfl rfl)) (fun _ h9 => h9) rfl hin rfl (by decide +kernel) rfl rfl (Nat.le_of_ble_eq_true rfl) d9 (fun H locs hP hD hS => ?_)
  have hP : va_P D mm_cl [(h0, .inr (4, [.int 0, .int 0, .ref a0, .null, .int 0, .int 0, .int 0, .null, .null, .null, .int 0, .int 0, .int 0, .int 0, .int 0, .int 0, .int 0])), (a0, row0 cI 30)] H := hP
  have hD : va_D A [(h0, .inr (4, [.int 0, .int 0, .ref a0, .null, .int 0, .int 0, .int 0, .null, .null, .null, .int 0, .int 0, .int 0, .int 0, .int 0, .int 0, .int 0])), (a0, row0 cI 30)] := hD
  refine lv_aload_n hx hb d12 rfl (lv_at hl 0 rfl) ?_
  refine lv_bipush (v := 30) hx hb d13 rfl ?_
  refine va_newa (atype := .int) (ty := .int) (a0 := (30, .inl (fun _ => 0))) hx hb (htT _ (mm_t1 62 rfl rfl)) rfl hK hP hD hS hA (fun _ => rfl) (by decide) rfl (Nat.le_of_ble_eq_true rfl) (Nat.le_of_ble_eq_true rfl) (Nat.le_of_ble_eq_true rfl) d15 (fun a1 cA H hK hP hD hS => ?_)
  have ecA := un cA hK
  rw [ecA] at hK hP hD
  have hK : va_K D mm_cl [(cI, .int)] s := hK.sub (tys' := [(cI, .int)]) [0] rfl
  have hP : va_P D mm_cl [(h0, .inr (4, [.int 0, .int 0, .ref a0, .null, .int 0, .int 0, .int 0, .null, .null, .null, .int 0, .int 0, .int 0, .int 0, .int 0, .int 0, .int 0])), (a0, row0 cI 30), (a1, row0 cI 30)] H := hP
  have hD : va_D A [(h0, .inr (4, [.int 0, .int 0, .ref a0, .null, .int 0, .int 0, .int 0, .null, .null, .null, .int 0, .int 0, .int 0, .int 0, .int 0, .int 0, .int 0])), (a0, row0 cI 30), (a1, row0 cI 30)] := hD
  refine va_putF (D := D) (ci := 4) (v := .ref a1) (ty := .array .int) (C := RX5) (T := TX5) (N := 17) hx hb hts hin9 tyX5 tyX5_ok nmX5 hown hK hP hD hS 0 rfl rfl 3 (by decide) (htT _ (mm_t6 50 rfl rfl)) (fun _ h9 => h9) rfl hin rfl (by decide +kernel) rfl rfl (Nat.le_of_ble_eq_true rfl) d17 (fun H locs hP hD hS => ?_)
  have hP : va_P D mm_cl [(h0, .inr (4, [.int 0, .int 0, .ref a0, .ref a1, .int 0, .int 0, .int 0, .null, .null, .null, .int 0, .int 0, .int 0, .int 0, .int 0, .int 0, .int 0])), (a0, row0 cI 30), (a1, row0 cI 30)] H := hP
  have hD : va_D A [(h0, .inr (4, [.int 0, .int 0, .ref a0, .ref a1, .int 0, .int 0, .int 0, .null, .null, .null, .int 0, .int 0, .int 0, .int 0, .int 0, .int 0, .int 0])), (a0, row0 cI 30), (a1, row0 cI 30)] := hD
  refine lv_aload_n hx hb d20 rfl (lv_at hl 0 rfl) ?_
  refine lv_bipush (v := 120) hx hb d21 rfl ?_
  refine va_newa (atype := .int) (ty := .int) (a0 := (120, .inl (fun _ => 0))) hx hb (htT _ (mm_t1 62 rfl rfl)) rfl hK hP hD hS hA (fun _ => rfl) (by decide) rfl (Nat.le_of_ble_eq_true rfl) (Nat.le_of_ble_eq_true rfl) (Nat.le_of_ble_eq_true rfl) d23 (fun a2 cA H hK hP hD hS => ?_)
  have ecA := un cA hK
  rw [ecA] at hK hP hD
  have hK : va_K D mm_cl [(cI, .int)] s := hK.sub (tys' := [(cI, .int)]) [0] rfl
  have hP : va_P D mm_cl [(h0, .inr (4, [.int 0, .int 0, .ref a0, .ref a1, .int 0, .int 0, .int 0, .null, .null, .null, .int 0, .int 0, .int 0, .int 0, .int 0, .int 0, .int 0])), (a0, row0 cI 30), (a1, row0 cI 30), (a2, row0 cI 120)] H := hP
  have hD : va_D A [(h0, .inr (4, [.int 0, .int 0, .ref a0, .ref a1, .int 0, .int 0, .int 0, .null, .null, .null, .int 0, .int 0, .int 0, .int 0, .int 0, .int 0, .int 0])), (a0, row0 cI 30), (a1, row0 cI 30), (a2, row0 cI 120)] := hD
  refine va_putF (D := D) (ci := 4) (v := .ref a2) (ty := .array .int) (C := RX5) (T := TX5) (N := 17) hx hb hts hin9 tyX5 tyX5_ok nmX5 hown hK hP hD hS 0 rfl rfl 7 (by decide) (htT _ (mm_t6 54 rfl rfl)) (fun _ h9 => h9) rfl hin rfl (by decide +kernel) rfl rfl (Nat.le_of_ble_eq_true rfl) d25 (fun H locs hP hD hS => ?_)
  have hP : va_P D mm_cl [(h0, .inr (4, [.int 0, .int 0, .ref a0, .ref a1, .int 0, .int 0, .int 0, .ref a2, .null, .null, .int 0, .int 0, .int 0, .int 0, .int 0, .int 0, .int 0])), (a0, row0 cI 30), (a1, row0 cI 30), (a2, row0 cI 120)] H := hP
  have hD : va_D A [(h0, .inr (4, [.int 0, .int 0, .ref a0, .ref a1, .int 0, .int 0, .int 0, .ref a2, .null, .null, .int 0, .int 0, .int 0, .int 0, .int 0, .int 0, .int 0])), (a0, row0 cI 30), (a1, row0 cI 30), (a2, row0 cI 120)] := hD
  refine lv_aload_n hx hb d28 rfl (lv_at hl 0 rfl) ?_
  refine lv_iconst (v := 4) hx hb d29 (by decide) ?_
  refine va_newa (atype := .int) (ty := .int) (a0 := (4, .inl (fun _ => 0))) hx hb (htT _ (mm_t1 62 rfl rfl)) rfl hK hP hD hS hA (fun _ => rfl) (by decide) rfl (Nat.le_of_ble_eq_true rfl) (Nat.le_of_ble_eq_true rfl) (Nat.le_of_ble_eq_true rfl) d30 (fun a3 cA H hK hP hD hS => ?_)
  have ecA := un cA hK
  rw [ecA] at hK hP hD
  have hK : va_K D mm_cl [(cI, .int)] s := hK.sub (tys' := [(cI, .int)]) [0] rfl
  have hP : va_P D mm_cl [(h0, .inr (4, [.int 0, .int 0, .ref a0, .ref a1, .int 0, .int 0, .int 0, .ref a2, .null, .null, .int 0, .int 0, .int 0, .int 0, .int 0, .int 0, .int 0])), (a0, row0 cI 30), (a1, row0 cI 30), (a2, row0 cI 120), (a3, row0 cI 4)] H := hP
  have hD : va_D A [(h0, .inr (4, [.int 0, .int 0, .ref a0, .ref a1, .int 0, .int 0, .int 0, .ref a2, .null, .null, .int 0, .int 0, .int 0, .int 0, .int 0, .int 0, .int 0])), (a0, row0 cI 30), (a1, row0 cI 30), (a2, row0 cI 120), (a3, row0 cI 4)] := hD
  refine va_putF (D := D) (ci := 4) (v := .ref a3) (ty := .array .int) (C := RX5) (T := TX5) (N := 17) hx hb hts hin9 tyX5 tyX5_ok nmX5 hown hK hP hD hS 0 rfl rfl 8 (by decide) (htT _ (mm_t6 55 rfl rfl)) (fun _ h9 => h9) rfl hin rfl (by decide +kernel) rfl rfl (Nat.le_of_ble_eq_true rfl) d32 (fun H locs hP hD hS => ?_)
  have hP : va_P D mm_cl [(h0, .inr (4, [.int 0, .int 0, .ref a0, .ref a1, .int 0, .int 0, .int 0, .ref a2, .ref a3, .null, .int 0, .int 0, .int 0, .int 0, .int 0, .int 0, .int 0])), (a0, row0 cI 30), (a1, row0 cI 30), (a2, row0 cI 120), (a3, row0 cI 4)] H := hP
  have hD : va_D A [(h0, .inr (4, [.int 0, .int 0, .ref a0, .ref a1, .int 0, .int 0, .int 0, .ref a2, .ref a3, .null, .int 0, .int 0, .int 0, .int 0, .int 0, .int 0, .int 0])), (a0, row0 cI 30), (a1, row0 cI 30), (a2, row0 cI 120), (a3, row0 cI 4)] := hD
  refine lv_aload_n hx hb d35 rfl (lv_at hl 0 rfl) ?_
  refine lv_iconst (v := 4) hx hb d36 (by decide) ?_
  refine va_newa (atype := .int) (ty := .int) (a0 := (4, .inl (fun _ => 0))) hx hb (htT _ (mm_t1 62 rfl rfl)) rfl hK hP hD hS hA (fun _ => rfl) (by decide) rfl (Nat.le_of_ble_eq_true rfl) (Nat.le_of_ble_eq_true rfl) (Nat.le_of_ble_eq_true rfl) d37 (fun a4 cA H hK hP hD hS => ?_)
  have ecA := un cA hK
  rw [ecA] at hK hP hD
  have hK : va_K D mm_cl [(cI, .int)] s := hK.sub (tys' := [(cI, .int)]) [0] rfl
  have hP : va_P D mm_cl [(h0, .inr (4, [.int 0, .int 0, .ref a0, .ref a1, .int 0, .int 0, .int 0, .ref a2, .ref a3, .null, .int 0, .int 0, .int 0, .int 0, .int 0, .int 0, .int 0])), (a0, row0 cI 30), (a1, row0 cI 30), (a2, row0 cI 120), (a3, row0 cI 4), (a4, row0 cI 4)] H := hP
  have hD : va_D A [(h0, .inr (4, [.int 0, .int 0, .ref a0, .ref a1, .int 0, .int 0, .int 0, .ref a2, .ref a3, .null, .int 0, .int 0, .int 0, .int 0, .int 0, .int 0, .int 0])), (a0, row0 cI 30), (a1, row0 cI 30), (a2, row0 cI 120), (a3, row0 cI 4), (a4, row0 cI 4)] := hD
  refine va_putF (D := D) (ci := 4) (v := .ref a4) (ty := .array .int) (C := RX5) (T := TX5) (N := 17) hx hb hts hin9 tyX5 tyX5_ok nmX5 hown hK hP hD hS 0 rfl rfl 9 (by decide) (htT _ (mm_t6 56 rfl rfl)) (fun _ h9 => h9) rfl hin rfl (by decide +kernel) rfl rfl (Nat.le_of_ble_eq_true rfl) d39 (fun H locs hP hD hS => ?_)
  have hP : va_P D mm_cl [(h0, .inr (4, [.int 0, .int 0, .ref a0, .ref a1, .int 0, .int 0, .int 0, .ref a2, .ref a3, .ref a4, .int 0, .int 0, .int 0, .int 0, .int 0, .int 0, .int 0])), (a0, row0 cI 30), (a1, row0 cI 30), (a2, row0 cI 120), (a3, row0 cI 4), (a4, row0 cI 4)] H := hP
  have hD : va_D A [(h0, .inr (4, [.int 0, .int 0, .ref a0, .ref a1, .int 0, .int 0, .int 0, .ref a2, .ref a3, .ref a4, .int 0, .int 0, .int 0, .int 0, .int 0, .int 0, .int 0])), (a0, row0 cI 30), (a1, row0 cI 30), (a2, row0 cI 120), (a3, row0 cI 4), (a4, row0 cI 4)] := hD
  refine lv_aload_n hx hb d42 rfl (lv_at hl 0 rfl) ?_
  refine lv_iconst (v := -1) hx hb d43 (by decide) ?_
  refine va_put (D := D) (ci := 4) (v := .int (-1)) (ty := .int) (C := RX5) (T := TX5) (N := 17) hx hb hts hin9 tyX5 tyX5_ok nmX5 hown hK hP hD hS 0 rfl rfl 10 (by decide) (htT _ (mm_t6 57 rfl rfl)) (fun _ h9 => h9) rfl (by decide +kernel) rfl rfl (Nat.le_of_ble_eq_true rfl) d44 (fun H locs hP hD hS => ?_)
  have hP : va_P D mm_cl [(h0, .inr (4, [.int 0, .int 0, .ref a0, .ref a1, .int 0, .int 0, .int 0, .ref a2, .ref a3, .ref a4, .int (-1), .int 0, .int 0, .int 0, .int 0, .int 0, .int 0])), (a0, row0 cI 30), (a1, row0 cI 30), (a2, row0 cI 120), (a3, row0 cI 4), (a4, row0 cI 4)] H := hP
  have hD : va_D A [(h0, .inr (4, [.int 0, .int 0, .ref a0, .ref a1, .int 0, .int 0, .int 0, .ref a2, .ref a3, .ref a4, .int (-1), .int 0, .int 0, .int 0, .int 0, .int 0, .int 0])), (a0, row0 cI 30), (a1, row0 cI 30), (a2, row0 cI 120), (a3, row0 cI 4), (a4, row0 cI 4)] := hD
  refine lv_aload_n hx hb d47 rfl (lv_at hl 0 rfl) ?_
  refine lv_iconst (v := -1) hx hb d48 (by decide) ?_
  refine va_put (D := D) (ci := 4) (v := .int (-1)) (ty := .int) (C := RX5) (T := TX5) (N := 17) hx hb hts hin9 tyX5 tyX5_ok nmX5 hown hK hP hD hS 0 rfl rfl 12 (by decide) (htT _ (mm_t6 59 rfl rfl)) (fun _ h9 => h9) rfl (by decide +kernel) rfl rfl (Nat.le_of_ble_eq_true rfl) d49 (fun H locs hP hD hS => ?_)
  have hP : va_P D mm_cl [(h0, .inr (4, [.int 0, .int 0, .ref a0, .ref a1, .int 0, .int 0, .int 0, .ref a2, .ref a3, .ref a4, .int (-1), .int 0, .int (-1), .int 0, .int 0, .int 0, .int 0])), (a0, row0 cI 30), (a1, row0 cI 30), (a2, row0 cI 120), (a3, row0 cI 4), (a4, row0 cI 4)] H := hP
  have hD : va_D A [(h0, .inr (4, [.int 0, .int 0, .ref a0, .ref a1, .int 0, .int 0, .int 0, .ref a2, .ref a3, .ref a4, .int (-1), .int 0, .int (-1), .int 0, .int 0, .int 0, .int 0])), (a0, row0 cI 30), (a1, row0 cI 30), (a2, row0 cI 120), (a3, row0 cI 4), (a4, row0 cI 4)] := hD
  exact W.vret hx hb hr (fun t ht hW => ⟨⟨(a0, a1, a2, a3, a4), rfl, trivial, by rw [ht]; exact hP, va_K.moved hW.alike hK, hD⟩, hS.F ht⟩) hS.2.2 d52
end
section
/-! the class's own constructor -/
theorem dX3_init : decode cX3_init 0 = .ok (.aload_n 0, 1) ∧ decode cX3_init 1 = .ok (.invokespecial 1, 3) ∧ decode cX3_init 4 = .ok (.aload_n 0, 1) ∧ decode cX3_init 5 = .ok (.new 7, 3) ∧ decode cX3_init 8 = .ok (.dup, 1) ∧ decode cX3_init 9 = .ok (.invokespecial 9, 3) ∧ decode cX3_init 12 = .ok (.putfield 10, 3) ∧ decode cX3_init 15 = .ok (.aload_n 0, 1) ∧ decode cX3_init 16 = .ok (.iconst 3, 1) ∧ decode cX3_init 17 = .ok (.anewarray 16, 3) ∧ decode cX3_init 20 = .ok (.putfield 18, 3) ∧ decode cX3_init 23 = .ok (.iconst 0, 1) ∧ decode cX3_init 24 = .ok (.istore_n 1, 1) ∧ decode cX3_init 25 = .ok (.iload_n 1, 1) ∧ decode cX3_init 26 = .ok (.iconst 3, 1) ∧ decode cX3_init 27 = .ok (.if_icmp .ge 26, 3) ∧ decode cX3_init 30 = .ok (.aload_n 0, 1) ∧ decode cX3_init 31 = .ok (.getfield 18, 3) ∧ decode cX3_init 34 = .ok (.iload_n 1, 1) ∧ decode cX3_init 35 = .ok (.new 16, 3) ∧ decode cX3_init 38 = .ok (.dup, 1) ∧ decode cX3_init 39 = .ok (.aload_n 0, 1) ∧ decode cX3_init 40 = .ok (.getfield 10, 3) ∧ decode cX3_init 43 = .ok (.invokespecial 22, 3) ∧ decode cX3_init 46 = .ok (.aastore, 1) ∧ decode cX3_init 47 = .ok (.iinc 1 1, 3) ∧ decode cX3_init 50 = .ok (.goto (-25), 3) ∧ decode cX3_init 53 = .ok (.aload_n 0, 1) ∧ decode cX3_init 54 = .ok (.new 16, 3) ∧ decode cX3_init 57 = .ok (.dup, 1) ∧ decode cX3_init 58 = .ok (.aload_n 0, 1) ∧ decode cX3_init 59 = .ok (.getfield 10, 3) ∧ decode cX3_init 62 = .ok (.invokespecial 22, 3) ∧ decode cX3_init 65 = .ok (.putfield 25, 3) ∧ decode cX3_init 68 = .ok (.aload_n 0, 1) ∧ decode cX3_init 69 = .ok (.new 29, 3) ∧ decode cX3_init 72 = .ok (.dup, 1) ∧ decode cX3_init 73 = .ok (.aload_n 0, 1) ∧ decode cX3_init 74 = .ok (.getfield 10, 3) ∧ decode cX3_init 77 = .ok (.invokespecial 31, 3) ∧ decode cX3_init 80 = .ok (.putfield 32, 3) ∧ decode cX3_init 83 = .ok (.return_, 1) := by (repeat' apply And.intro) <;> decide +kernel
/-- the row of walks, one after another filled -/
def fW (a b c : Option Nat) : Nat → Option Nat := fun j => if j = 2 then c else if j = 1 then b else if j = 0 then a else none
theorem fW_0 : fW none none none = fun _ => none := by funext j; unfold fW; (repeat' split) <;> rfl
theorem fW_up (a b c : Option Nat) (k : Nat) (v : Nat) : va_up (fW a b c) k (some v) = fun j => if j = k then some v else fW a b c j := rfl
theorem fW_1 {a : Nat} : fW (some a) none none = va_up (fW none none none) (Int32.toNatClampNeg 0) (some a) := by
  rw [show Int32.toNatClampNeg 0 = 0 by decide, fW_up]
  funext j
  unfold fW
  match j with
  | 0 => rfl
  | 1 => rfl
  | 2 => rfl
  | n + 3 => simp
theorem fW_2 {a b : Nat} : fW (some a) (some b) none = va_up (fW (some a) none none) (Int32.toNatClampNeg 1) (some b) := by
  rw [show Int32.toNatClampNeg 1 = 1 by decide, fW_up]
  funext j
  unfold fW
  match j with
  | 0 => rfl
  | 1 => rfl
  | 2 => rfl
  | n + 3 => simp
theorem fW_3 {a b c : Nat} : fW (some a) (some b) (some c) = va_up (fW (some a) (some b) none) (Int32.toNatClampNeg 2) (some c) := by
  rw [show Int32.toNatClampNeg 2 = 2 by decide, fW_up]
  funext j
  unfold fW
  match j with
  | 0 => rfl
  | 1 => rfl
  | 2 => rfl
  | n + 3 => simp

set_option maxHeartbeats 8000000 in
set_option maxRecDepth 100000 in
theorem c_X3_init (l : Launch) (D : va_G) (h0 sz : Nat) (cI : ClassId) : Met l yX3_init (.code yX3_init cX3_init 2 none :: mm_T) ({ frames := 3, cells := 15, slots := 232, locals := 60 }) (va_Pc [.ref h0] (fun U => U.heap.size = sz ∧ va_P D mm_cl [(h0, .inr (0, [.null, .null, .null, .null, .int 0, .int 0, .int 0]))] U.heap ∧ va_K D mm_cl [(cI, .int)] U ∧ va_D (fun _ => True) [(h0, .inr (0, [.null, .null, .null, .null, .int 0, .int 0, .int 0]))] ∧ va_AO RX2 U)) (va_Qv (fun _ : Unit => True) (fun _ U => ∃ (cW : ClassId) (t1 g1 w1 w2 w3 w4 u1 : Nat) (r1 : Nat × Nat × Nat × Nat) (r2 r3 r4 r5 : Nat), va_P D mm_cl [(h0, .inr (0, [.ref t1, .ref g1, .ref w4, .ref u1, .int 0, .int 0, .int 0])), (t1, .inr (1, iX1 (some r1.1) (some r1.2.1) (some r1.2.2.1) (some r1.2.2.2))), (r1.1, row0 cI 30), (r1.2.1, row0 cI 30), (r1.2.2.1, row0 cI 10), (r1.2.2.2, row0 cI 10), (g1, .inl (cW, 3, .inr (.inr (.inr (.inr (fW (some w1) (some w2) (some w3))))))), (w1, .inr (2, [.ref t1, .ref r2, .int 0, .int 0])), (r2, row0 cI 30), (w2, .inr (2, [.ref t1, .ref r3, .int 0, .int 0])), (r3, row0 cI 30), (w3, .inr (2, [.ref t1, .ref r4, .int 0, .int 0])), (r4, row0 cI 30), (w4, .inr (2, [.ref t1, .ref r5, .int 0, .int 0])), (r5, row0 cI 30), (u1, .inr (3, [.ref t1, .null, .int 0, .int (-1), .int 0]))] U.heap ∧ va_K D mm_cl [(cI, .int), (cW, .object RX2)] U ∧ va_D (va_A [(h0, .inr (0, [.null, .null, .null, .null, .int 0, .int 0, .int 0]))] sz) [(h0, .inr (0, [.ref t1, .ref g1, .ref w4, .ref u1, .int 0, .int 0, .int 0])), (t1, .inr (1, iX1 (some r1.1) (some r1.2.1) (some r1.2.2.1) (some r1.2.2.2))), (r1.1, row0 cI 30), (r1.2.1, row0 cI 30), (r1.2.2.1, row0 cI 10), (r1.2.2.2, row0 cI 10), (g1, .inl (cW, 3, .inr (.inr (.inr (.inr (fW (some w1) (some w2) (some w3))))))), (w1, .inr (2, [.ref t1, .ref r2, .int 0, .int 0])), (r2, row0 cI 30), (w2, .inr (2, [.ref t1, .ref r3, .int 0, .int 0])), (r3, row0 cI 30), (w3, .inr (2, [.ref t1, .ref r4, .int 0, .int 0])), (r4, row0 cI 30), (w4, .inr (2, [.ref t1, .ref r5, .int 0, .int 0])), (r5, row0 cI 30), (u1, .inr (3, [.ref t1, .null, .int 0, .int (-1), .int 0]))]) (va_A [(h0, .inr (0, [.null, .null, .null, .null, .int 0, .int 0, .int 0]))] sz)) 15 232 (va_A [(h0, .inr (0, [.null, .null, .null, .null, .int 0, .int 0, .int 0]))] sz) := by
  refine Met.ofW (cc := cX3_init) (maxL := 2) (ret := none) (by decide) rfl ?_
  intro p e s m args below meth c s₁ B hml hv
  obtain ⟨rfl, hsz, hP, hK, hD0, hAO⟩ := hv
  have hx := B.exec
  have hb := B.bytes
  have hr := B.returns
  have hts := atoms_spec (ws := .code yX3_init cX3_init 2 none :: mm_T) B.pre
  have htT : ∀ w ∈ mm_T, w.before #[Value.ref h0] s = true := fun w hw => hts w (List.mem_cons_of_mem _ hw)
  have hin9 : ∀ w ∈ u_ws RX3 TX3 7, w ∈ (.code yX3_init cX3_init 2 none :: mm_T : List Jvm.Cond) := fun w hw => List.mem_cons_of_mem _ (mm_T_cls (RX3, TX3, 7) (List.mem_of_getElem? (i := 0) rfl) w hw)
  have hown : s.vm.findClass RX3 = some m.cls := findClass_of_methodNamed B.named
  have hlocks := B.notSynchronized
  have hin : meth.name = "<init>" := (name_of_methodNamed B.named B.method).1
  subst hsz
  have hD := hD0.self (sz := s.heap.size)
  generalize hAe : va_A [(h0, .inr (0, [.null, .null, .null, .null, .int 0, .int 0, .int 0]))] s.heap.size = A at hD ⊢
  have hA : ∀ q : Nat, s.heap.size ≤ q → A q := fun q h => by rw [← hAe]; exact Or.inr h
  have hS : va_S A s.heap s.heap [] := va_S.rf
  have hl := lv_entry ([.ref h0]) (n := 2) (Nat.le_of_ble_eq_true rfl)
  rw [lg_entry_eq]
  generalize (lg_sl ([.ref h0]) ++ List.replicate (2 - (lg_sl ([.ref h0])).length) Slot.unset).toArray = ls at hl ⊢
  have hl : lv_has ls 2 [(0, .ref h0)] := hl
  obtain ⟨d0, d1, d4, d5, d8, d9, d12, d15, d16, d17, d20, d23, d24, d25, d26, d27, d30, d31, d34, d35, d38, d39, d40, d43, d46, d47, d50, d53, d54, d57, d58, d59, d62, d65, d68, d69, d72, d73, d74, d77, d80, d83⟩ := dX3_init
  refine lv_aload_n hx hb d0 rfl (lv_at hl 0 rfl) ?_
  refine W.objInit hx hb hown (htT _ (mm_t1 28 rfl rfl)) (htT _ (mm_t1 29 rfl rfl)) (htT _ (mm_t1 30 rfl rfl)) rfl (by rw [hml]; exact hl.1) rfl d1 (Nat.le_of_ble_eq_true rfl) (Nat.le_of_ble_eq_true rfl) ?_
  refine W.eq (g2 := F0 m 4 ls []) rfl ?_
  refine lv_aload_n hx hb d4 rfl (lv_at hl 0 rfl) ?_
  refine va_new (ci := 1) (fs := [.null, .null, .null, .null, .int 0, .int 0, .int 0, .int 0]) (C := RX1) (T := TX1) (N := 8) hx hb hts (fun w hw => List.mem_cons_of_mem _ (mm_T_cls (RX1, TX1, 8) (List.mem_of_getElem? (i := 1) rfl) w hw)) tyX1 tyX1_ok hown (htT _ (mm_t1 31 rfl rfl)) (htT _ (mm_t1 32 rfl rfl)) (htT _ (mm_t1 2 rfl rfl)) hK hP hD hS hA rfl (fun j hj => by rcases (show j = 0 ∨ j = 1 ∨ j = 2 ∨ j = 3 ∨ j = 4 ∨ j = 5 ∨ j = 6 ∨ j = 7 by omega) with rfl | rfl | rfl | rfl | rfl | rfl | rfl | rfl <;> rfl) (Nat.le_of_ble_eq_true rfl) (Nat.le_of_ble_eq_true rfl) d5 (fun t1 H hP hD hS => ?_)
  have hP : va_P D mm_cl [(h0, .inr (0, [.null, .null, .null, .null, .int 0, .int 0, .int 0])), (t1, .inr (1, [.null, .null, .null, .null, .int 0, .int 0, .int 0, .int 0]))] H := hP
  have hD : va_D A [(h0, .inr (0, [.null, .null, .null, .null, .int 0, .int 0, .int 0])), (t1, .inr (1, [.null, .null, .null, .null, .int 0, .int 0, .int 0, .int 0]))] := hD
  refine W.widen (k := 1) (n := 8) (Nat.le_of_ble_eq_true rfl) (Nat.le_of_ble_eq_true rfl) ?_
  refine lv_dup hx hb d8 rfl ?_
  have hPc := hP.sub (ws' := [(t1, .inr (1, [.null, .null, .null, .null, .int 0, .int 0, .int 0, .int 0]))]) [1] rfl
  have hDc := hD.sub (ws' := [(t1, .inr (1, [.null, .null, .null, .null, .int 0, .int 0, .int 0, .int 0]))]) [1] (by decide) rfl
  have hKc := hK.sub (tys' := [(cI, .int)]) [0] rfl
  have hFc := va_free (wc := [(t1, .inr (1, [.null, .null, .null, .null, .int 0, .int 0, .int 0, .int 0]))]) hD hS hA [1] rfl
  refine va_callv (va_runI (As := []) (rest := [.ref t1, .ref h0]) ⟨hx, hb, hml, hown, hts⟩ (c_X1_init l D t1 H.size cI) (cwI 0 hts (mm_goodIn (mm_t1 35 rfl rfl) (fun w hw => List.mem_cons_of_mem _ hw)) rfl rfl rfl (htT _ (mm_t1 2 rfl rfl)) (htT _ (mm_t1 33 rfl rfl)) (htT _ (mm_t1 34 rfl rfl)) rfl (by decide +kernel) ⟨Nat.le_of_ble_eq_true rfl, Nat.le_of_ble_eq_true rfl⟩) ⟨fun a U g mk q => by obtain ⟨q0, q1, qP, qK, qD⟩ := q; exact ⟨q0, q1, qP, va_K.moved (u := U) (U := U.calling g mk a) (Vm.Alike.refl U.vm) qK, qD⟩, fun U hU hW => ⟨rfl, by rw [hU], by rw [hU]; exact hPc, va_K.moved hW.alike hKc, hDc.weaken (fun _ _ _ _ => trivial)⟩⟩ rfl rfl hl.1 rfl (lv_room (Nat.le_of_ble_eq_true rfl)) d9 ⟨Nat.le_of_ble_eq_true rfl, Nat.le_of_ble_eq_true rfl⟩) hS (fun q _ h => hFc q h) hFc (fun r1 t H1 locs ht hvm hw hB hz1 hk1 hS => ?_)
  obtain ⟨hP1, hK1, hD1⟩ := hB
  rw [ht] at hP1
  obtain ⟨hP, hD⟩ := va_join (wr := [(h0, .inr (0, [.null, .null, .null, .null, .int 0, .int 0, .int 0]))]) (w1 := [(t1, .inr (1, iX1 (some r1.1) (some r1.2.1) (some r1.2.2.1) (some r1.2.2.2))), (r1.1, row0 cI 30), (r1.2.1, row0 cI 30), (r1.2.2.1, row0 cI 10), (r1.2.2.2, row0 cI 10)]) hP hD [1] [0] rfl rfl (by decide) (by decide) hk1 hFc hP1 hD1
  generalize H1 = H at hP hS ⊢
  have hP : va_P D mm_cl [(h0, .inr (0, [.null, .null, .null, .null, .int 0, .int 0, .int 0])), (t1, .inr (1, iX1 (some r1.1) (some r1.2.1) (some r1.2.2.1) (some r1.2.2.2))), (r1.1, row0 cI 30), (r1.2.1, row0 cI 30), (r1.2.2.1, row0 cI 10), (r1.2.2.2, row0 cI 10)] H := hP
  have hD : va_D A [(h0, .inr (0, [.null, .null, .null, .null, .int 0, .int 0, .int 0])), (t1, .inr (1, iX1 (some r1.1) (some r1.2.1) (some r1.2.2.1) (some r1.2.2.2))), (r1.1, row0 cI 30), (r1.2.1, row0 cI 30), (r1.2.2.1, row0 cI 10), (r1.2.2.2, row0 cI 10)] := hD
  refine W.widen (k := 5) (n := 88) (Nat.le_of_ble_eq_true rfl) (Nat.le_of_ble_eq_true rfl) ?_
  refine va_putF (D := D) (ci := 0) (v := .ref t1) (ty := .object "Allstreets$Town") (C := RX3) (T := TX3) (N := 7) hx hb hts hin9 tyX3 tyX3_ok nmX3 hown hK hP hD hS 0 rfl rfl 0 (by decide) (htT _ (mm_t1 105 rfl rfl)) (fun _ h9 => h9) rfl hin rfl (by decide +kernel) rfl rfl (Nat.le_of_ble_eq_true rfl) d12 (fun H locs hP hD hS => ?_)
  have hP : va_P D mm_cl [(h0, .inr (0, [.ref t1, .null, .null, .null, .int 0, .int 0, .int 0])), (t1, .inr (1, iX1 (some r1.1) (some r1.2.1) (some r1.2.2.1) (some r1.2.2.2))), (r1.1, row0 cI 30), (r1.2.1, row0 cI 30), (r1.2.2.1, row0 cI 10), (r1.2.2.2, row0 cI 10)] H := hP
  have hD : va_D A [(h0, .inr (0, [.ref t1, .null, .null, .null, .int 0, .int 0, .int 0])), (t1, .inr (1, iX1 (some r1.1) (some r1.2.1) (some r1.2.2.1) (some r1.2.2.2))), (r1.1, row0 cI 30), (r1.2.1, row0 cI 30), (r1.2.2.1, row0 cI 10), (r1.2.2.2, row0 cI 10)] := hD
  refine lv_aload_n hx hb d15 rfl (lv_at hl 0 rfl) ?_
  refine lv_iconst (v := 3) hx hb d16 (by decide) ?_
  refine va_newq (C := RX2) hx hb hown (htT _ (mm_t1 63 rfl rfl)) hAO hK hP hD hS hA (by decide) rfl (Nat.le_of_ble_eq_true rfl) (Nat.le_of_ble_eq_true rfl) (Nat.le_of_ble_eq_true rfl) d17 (fun g1 cW H hK hP hD hS => ?_)
  have hP : va_P D mm_cl [(h0, .inr (0, [.ref t1, .null, .null, .null, .int 0, .int 0, .int 0])), (t1, .inr (1, iX1 (some r1.1) (some r1.2.1) (some r1.2.2.1) (some r1.2.2.2))), (r1.1, row0 cI 30), (r1.2.1, row0 cI 30), (r1.2.2.1, row0 cI 10), (r1.2.2.2, row0 cI 10), (g1, .inl (cW, 3, .inr (.inr (.inr (.inr (fW none none none))))))] H := by rw [fW_0]; exact hP
  have hD : va_D A [(h0, .inr (0, [.ref t1, .null, .null, .null, .int 0, .int 0, .int 0])), (t1, .inr (1, iX1 (some r1.1) (some r1.2.1) (some r1.2.2.1) (some r1.2.2.2))), (r1.1, row0 cI 30), (r1.2.1, row0 cI 30), (r1.2.2.1, row0 cI 10), (r1.2.2.2, row0 cI 10), (g1, .inl (cW, 3, .inr (.inr (.inr (.inr (fW none none none))))))] := by rw [fW_0]; exact hD
  refine W.widen (k := 6) (n := 91) (Nat.le_of_ble_eq_true rfl) (Nat.le_of_ble_eq_true rfl) ?_
  refine va_putF (D := D) (ci := 0) (v := .ref g1) (ty := .array (.object "Allstreets$Walk")) (C := RX3) (T := TX3) (N := 7) hx hb hts hin9 tyX3 tyX3_ok nmX3 hown hK hP hD hS 0 rfl rfl 1 (by decide) (htT _ (mm_t1 106 rfl rfl)) (fun _ h9 => h9) rfl hin rfl (by decide +kernel) rfl rfl (Nat.le_of_ble_eq_true rfl) d20 (fun H locs hP hD hS => ?_)
  have hP : va_P D mm_cl [(h0, .inr (0, [.ref t1, .ref g1, .null, .null, .int 0, .int 0, .int 0])), (t1, .inr (1, iX1 (some r1.1) (some r1.2.1) (some r1.2.2.1) (some r1.2.2.2))), (r1.1, row0 cI 30), (r1.2.1, row0 cI 30), (r1.2.2.1, row0 cI 10), (r1.2.2.2, row0 cI 10), (g1, .inl (cW, 3, .inr (.inr (.inr (.inr (fW none none none))))))] H := hP
  have hD : va_D A [(h0, .inr (0, [.ref t1, .ref g1, .null, .null, .int 0, .int 0, .int 0])), (t1, .inr (1, iX1 (some r1.1) (some r1.2.1) (some r1.2.2.1) (some r1.2.2.2))), (r1.1, row0 cI 30), (r1.2.1, row0 cI 30), (r1.2.2.1, row0 cI 10), (r1.2.2.2, row0 cI 10), (g1, .inl (cW, 3, .inr (.inr (.inr (.inr (fW none none none))))))] := hD
  refine lv_iconst (v := 0) hx hb d23 (by decide) ?_
  refine lv_istore_n (lv' := [(1, .int 0), (0, .ref h0)]) hx hb d24 rfl hl (by decide) rfl (fun ls hl => ?_)
  refine lv_iload_n hx hb d25 rfl (lv_at hl 0 rfl) ?_
  refine lv_iconst (v := 3) hx hb d26 (by decide) ?_
  refine lv_icmp_ge (tgt := 53) hx hb d27 (by decide) (fun h => absurd h (by decide)) (fun _ => ?_)
  refine lv_aload_n hx hb d30 rfl (lv_at hl 1 rfl) ?_
  refine va_get (D := D) hx hb hts hin9 hown hK hP 0 rfl rfl 1 (by decide) (htT _ (mm_t1 106 rfl rfl)) (fun _ h9 => h9) rfl d31 ?_
  refine lv_iload_n hx hb d34 rfl (lv_at hl 0 rfl) ?_
  refine va_new (ci := 2) (fs := [.null, .null, .int 0, .int 0]) (C := RX2) (T := TX2) (N := 4) hx hb hts (fun w hw => List.mem_cons_of_mem _ (mm_T_cls (RX2, TX2, 4) (List.mem_of_getElem? (i := 2) rfl) w hw)) tyX2 tyX2_ok hown (htT _ (mm_t1 63 rfl rfl)) (htT _ (mm_t1 65 rfl rfl)) (htT _ (mm_t1 3 rfl rfl)) hK hP hD hS hA rfl (fun j hj => by rcases (show j = 0 ∨ j = 1 ∨ j = 2 ∨ j = 3 by omega) with rfl | rfl | rfl | rfl <;> rfl) (Nat.le_of_ble_eq_true rfl) (Nat.le_of_ble_eq_true rfl) d35 (fun w1 H hP hD hS => ?_)
  have hP : va_P D mm_cl [(h0, .inr (0, [.ref t1, .ref g1, .null, .null, .int 0, .int 0, .int 0])), (t1, .inr (1, iX1 (some r1.1) (some r1.2.1) (some r1.2.2.1) (some r1.2.2.2))), (r1.1, row0 cI 30), (r1.2.1, row0 cI 30), (r1.2.2.1, row0 cI 10), (r1.2.2.2, row0 cI 10), (g1, .inl (cW, 3, .inr (.inr (.inr (.inr (fW none none none)))))), (w1, .inr (2, [.null, .null, .int 0, .int 0]))] H := hP
  have hD : va_D A [(h0, .inr (0, [.ref t1, .ref g1, .null, .null, .int 0, .int 0, .int 0])), (t1, .inr (1, iX1 (some r1.1) (some r1.2.1) (some r1.2.2.1) (some r1.2.2.2))), (r1.1, row0 cI 30), (r1.2.1, row0 cI 30), (r1.2.2.1, row0 cI 10), (r1.2.2.2, row0 cI 10), (g1, .inl (cW, 3, .inr (.inr (.inr (.inr (fW none none none)))))), (w1, .inr (2, [.null, .null, .int 0, .int 0]))] := hD
  refine W.widen (k := 7) (n := 95) (Nat.le_of_ble_eq_true rfl) (Nat.le_of_ble_eq_true rfl) ?_
  refine lv_dup hx hb d38 rfl ?_
  refine lv_aload_n hx hb d39 rfl (lv_at hl 1 rfl) ?_
  refine va_get (D := D) hx hb hts hin9 hown hK hP 0 rfl rfl 0 (by decide) (htT _ (mm_t1 105 rfl rfl)) (fun _ h9 => h9) rfl d40 ?_
  have hPc := hP.sub (ws' := [(w1, .inr (2, [.null, .null, .int 0, .int 0]))]) [7] rfl
  have hDc := hD.sub (ws' := [(w1, .inr (2, [.null, .null, .int 0, .int 0]))]) [7] (by decide) rfl
  have hKc := hK.sub (tys' := [(cI, .int)]) [0] rfl
  have hFc := va_free (wc := [(w1, .inr (2, [.null, .null, .int 0, .int 0]))]) hD hS hA [7] rfl
  refine va_callv (va_runI (As := [.ref t1]) (rest := [.ref w1, .int 0, .ref g1]) ⟨hx, hb, hml, hown, hts⟩ (c_X2_init l D w1 t1 H.size cI) (cwI 1 hts (mm_goodIn (mm_t1 68 rfl rfl) (fun w hw => List.mem_cons_of_mem _ hw)) rfl rfl rfl (htT _ (mm_t1 3 rfl rfl)) (htT _ (mm_t1 66 rfl rfl)) (htT _ (mm_t1 67 rfl rfl)) rfl (by decide +kernel) ⟨Nat.le_of_ble_eq_true rfl, Nat.le_of_ble_eq_true rfl⟩) ⟨fun a U g mk q => by obtain ⟨q0, q1, qP, qK, qD⟩ := q; exact ⟨q0, q1, qP, va_K.moved (u := U) (U := U.calling g mk a) (Vm.Alike.refl U.vm) qK, qD⟩, fun U hU hW => ⟨rfl, by rw [hU], by rw [hU]; exact hPc, va_K.moved hW.alike hKc, hDc.weaken (fun _ _ _ _ => trivial)⟩⟩ rfl rfl hl.1 rfl (lv_room (Nat.le_of_ble_eq_true rfl)) d43 ⟨Nat.le_of_ble_eq_true rfl, Nat.le_of_ble_eq_true rfl⟩) hS (fun q _ h => hFc q h) hFc (fun r2 t H1 locs ht hvm hw hB hz1 hk1 hS => ?_)
  obtain ⟨hP1, hK1, hD1⟩ := hB
  rw [ht] at hP1
  obtain ⟨hP, hD⟩ := va_join (wr := [(h0, .inr (0, [.ref t1, .ref g1, .null, .null, .int 0, .int 0, .int 0])), (t1, .inr (1, iX1 (some r1.1) (some r1.2.1) (some r1.2.2.1) (some r1.2.2.2))), (r1.1, row0 cI 30), (r1.2.1, row0 cI 30), (r1.2.2.1, row0 cI 10), (r1.2.2.2, row0 cI 10), (g1, .inl (cW, 3, .inr (.inr (.inr (.inr (fW none none none))))))]) (w1 := [(w1, .inr (2, [.ref t1, .ref r2, .int 0, .int 0])), (r2, row0 cI 30)]) hP hD [7] [0, 1, 2, 3, 4, 5, 6] rfl rfl (by decide) (by decide) hk1 hFc hP1 hD1
  generalize H1 = H at hP hS ⊢
  have hP : va_P D mm_cl [(h0, .inr (0, [.ref t1, .ref g1, .null, .null, .int 0, .int 0, .int 0])), (t1, .inr (1, iX1 (some r1.1) (some r1.2.1) (some r1.2.2.1) (some r1.2.2.2))), (r1.1, row0 cI 30), (r1.2.1, row0 cI 30), (r1.2.2.1, row0 cI 10), (r1.2.2.2, row0 cI 10), (g1, .inl (cW, 3, .inr (.inr (.inr (.inr (fW none none none)))))), (w1, .inr (2, [.ref t1, .ref r2, .int 0, .int 0])), (r2, row0 cI 30)] H := hP
  have hD : va_D A [(h0, .inr (0, [.ref t1, .ref g1, .null, .null, .int 0, .int 0, .int 0])), (t1, .inr (1, iX1 (some r1.1) (some r1.2.1) (some r1.2.2.1) (some r1.2.2.2))), (r1.1, row0 cI 30), (r1.2.1, row0 cI 30), (r1.2.2.1, row0 cI 10), (r1.2.2.2, row0 cI 10), (g1, .inl (cW, 3, .inr (.inr (.inr (.inr (fW none none none)))))), (w1, .inr (2, [.ref t1, .ref r2, .int 0, .int 0])), (r2, row0 cI 30)] := hD
  refine W.widen (k := 8) (n := 125) (Nat.le_of_ble_eq_true rfl) (Nat.le_of_ble_eq_true rfl) ?_
  refine va_astq (r := (RX2, TX2, 4)) hx hb hK hP hD hS 6 1 7 2 rfl rfl rfl rfl (by rw [vp_in_iff]; decide) d46 (fun H locs hP hD hS => ?_)
  have hP : va_P D mm_cl [(h0, .inr (0, [.ref t1, .ref g1, .null, .null, .int 0, .int 0, .int 0])), (t1, .inr (1, iX1 (some r1.1) (some r1.2.1) (some r1.2.2.1) (some r1.2.2.2))), (r1.1, row0 cI 30), (r1.2.1, row0 cI 30), (r1.2.2.1, row0 cI 10), (r1.2.2.2, row0 cI 10), (g1, .inl (cW, 3, .inr (.inr (.inr (.inr (fW (some w1) none none)))))), (w1, .inr (2, [.ref t1, .ref r2, .int 0, .int 0])), (r2, row0 cI 30)] H := by rw [fW_1]; exact hP
  have hD : va_D A [(h0, .inr (0, [.ref t1, .ref g1, .null, .null, .int 0, .int 0, .int 0])), (t1, .inr (1, iX1 (some r1.1) (some r1.2.1) (some r1.2.2.1) (some r1.2.2.2))), (r1.1, row0 cI 30), (r1.2.1, row0 cI 30), (r1.2.2.1, row0 cI 10), (r1.2.2.2, row0 cI 10), (g1, .inl (cW, 3, .inr (.inr (.inr (.inr (fW (some w1) none none)))))), (w1, .inr (2, [.ref t1, .ref r2, .int 0, .int 0])), (r2, row0 cI 30)] := by rw [fW_1]; exact hD
  refine lv_iinc (v := 1) (lv' := [(1, .int 1), (0, .ref h0)]) hx hb d47 hl (k := 0) rfl (by decide) (by decide) rfl (fun ls hl => ?_)
  refine lv_goto (tgt := 25) hx hb d50 (by decide) ?_
  refine lv_iload_n hx hb d25 rfl (lv_at hl 0 rfl) ?_
  refine lv_iconst (v := 3) hx hb d26 (by decide) ?_
  refine lv_icmp_ge (tgt := 53) hx hb d27 (by decide) (fun h => absurd h (by decide)) (fun _ => ?_)
  refine lv_aload_n hx hb d30 rfl (lv_at hl 1 rfl) ?_
  refine va_get (D := D) hx hb hts hin9 hown hK hP 0 rfl rfl 1 (by decide) (htT _ (mm_t1 106 rfl rfl)) (fun _ h9 => h9) rfl d31 ?_
  refine lv_iload_n hx hb d34 rfl (lv_at hl 0 rfl) ?_
  refine va_new (ci := 2) (fs := [.null, .null, .int 0, .int 0]) (C := RX2) (T := TX2) (N := 4) hx hb hts (fun w hw => List.mem_cons_of_mem _ (mm_T_cls (RX2, TX2, 4) (List.mem_of_getElem? (i := 2) rfl) w hw)) tyX2 tyX2_ok hown (htT _ (mm_t1 63 rfl rfl)) (htT _ (mm_t1 65 rfl rfl)) (htT _ (mm_t1 3 rfl rfl)) hK hP hD hS hA rfl (fun j hj => by rcases (show j = 0 ∨ j = 1 ∨ j = 2 ∨ j = 3 by omega) with rfl | rfl | rfl | rfl <;> rfl) (Nat.le_of_ble_eq_true rfl) (Nat.le_of_ble_eq_true rfl) d35 (fun w2 H hP hD hS => ?_)
  have hP : va_P D mm_cl [(h0, .inr (0, [.ref t1, .ref g1, .null, .null, .int 0, .int 0, .int 0])), (t1, .inr (1, iX1 (some r1.1) (some r1.2.1) (some r1.2.2.1) (some r1.2.2.2))), (r1.1, row0 cI 30), (r1.2.1, row0 cI 30), (r1.2.2.1, row0 cI 10), (r1.2.2.2, row0 cI 10), (g1, .inl (cW, 3, .inr (.inr (.inr (.inr (fW (some w1) none none)))))), (w1, .inr (2, [.ref t1, .ref r2, .int 0, .int 0])), (r2, row0 cI 30), (w2, .inr (2, [.null, .null, .int 0, .int 0]))] H := hP
  have hD : va_D A [(h0, .inr (0, [.ref t1, .ref g1, .null, .null, .int 0, .int 0, .int 0])), (t1, .inr (1, iX1 (some r1.1) (some r1.2.1) (some r1.2.2.1) (some r1.2.2.2))), (r1.1, row0 cI 30), (r1.2.1, row0 cI 30), (r1.2.2.1, row0 cI 10), (r1.2.2.2, row0 cI 10), (g1, .inl (cW, 3, .inr (.inr (.inr (.inr (fW (some w1) none none)))))), (w1, .inr (2, [.ref t1, .ref r2, .int 0, .int 0])), (r2, row0 cI 30), (w2, .inr (2, [.null, .null, .int 0, .int 0]))] := hD
  refine W.widen (k := 9) (n := 129) (Nat.le_of_ble_eq_true rfl) (Nat.le_of_ble_eq_true rfl) ?_
  refine lv_dup hx hb d38 rfl ?_
  refine lv_aload_n hx hb d39 rfl (lv_at hl 1 rfl) ?_
  refine va_get (D := D) hx hb hts hin9 hown hK hP 0 rfl rfl 0 (by decide) (htT _ (mm_t1 105 rfl rfl)) (fun _ h9 => h9) rfl d40 ?_
  have hPc := hP.sub (ws' := [(w2, .inr (2, [.null, .null, .int 0, .int 0]))]) [9] rfl
  have hDc := hD.sub (ws' := [(w2, .inr (2, [.null, .null, .int 0, .int 0]))]) [9] (by decide) rfl
  have hKc := hK.sub (tys' := [(cI, .int)]) [0] rfl
  have hFc := va_free (wc := [(w2, .inr (2, [.null, .null, .int 0, .int 0]))]) hD hS hA [9] rfl
  refine va_callv (va_runI (As := [.ref t1]) (rest := [.ref w2, .int 1, .ref g1]) ⟨hx, hb, hml, hown, hts⟩ (c_X2_init l D w2 t1 H.size cI) (cwI 1 hts (mm_goodIn (mm_t1 68 rfl rfl) (fun w hw => List.mem_cons_of_mem _ hw)) rfl rfl rfl (htT _ (mm_t1 3 rfl rfl)) (htT _ (mm_t1 66 rfl rfl)) (htT _ (mm_t1 67 rfl rfl)) rfl (by decide +kernel) ⟨Nat.le_of_ble_eq_true rfl, Nat.le_of_ble_eq_true rfl⟩) ⟨fun a U g mk q => by obtain ⟨q0, q1, qP, qK, qD⟩ := q; exact ⟨q0, q1, qP, va_K.moved (u := U) (U := U.calling g mk a) (Vm.Alike.refl U.vm) qK, qD⟩, fun U hU hW => ⟨rfl, by rw [hU], by rw [hU]; exact hPc, va_K.moved hW.alike hKc, hDc.weaken (fun _ _ _ _ => trivial)⟩⟩ rfl rfl hl.1 rfl (lv_room (Nat.le_of_ble_eq_true rfl)) d43 ⟨Nat.le_of_ble_eq_true rfl, Nat.le_of_ble_eq_true rfl⟩) hS (fun q _ h => hFc q h) hFc (fun r3 t H1 locs ht hvm hw hB hz1 hk1 hS => ?_)
  obtain ⟨hP1, hK1, hD1⟩ := hB
  rw [ht] at hP1
  obtain ⟨hP, hD⟩ := va_join (wr := [(h0, .inr (0, [.ref t1, .ref g1, .null, .null, .int 0, .int 0, .int 0])), (t1, .inr (1, iX1 (some r1.1) (some r1.2.1) (some r1.2.2.1) (some r1.2.2.2))), (r1.1, row0 cI 30), (r1.2.1, row0 cI 30), (r1.2.2.1, row0 cI 10), (r1.2.2.2, row0 cI 10), (g1, .inl (cW, 3, .inr (.inr (.inr (.inr (fW (some w1) none none)))))), (w1, .inr (2, [.ref t1, .ref r2, .int 0, .int 0])), (r2, row0 cI 30)]) (w1 := [(w2, .inr (2, [.ref t1, .ref r3, .int 0, .int 0])), (r3, row0 cI 30)]) hP hD [9] [0, 1, 2, 3, 4, 5, 6, 7, 8] rfl rfl (by decide) (by decide) hk1 hFc hP1 hD1
  generalize H1 = H at hP hS ⊢
  have hP : va_P D mm_cl [(h0, .inr (0, [.ref t1, .ref g1, .null, .null, .int 0, .int 0, .int 0])), (t1, .inr (1, iX1 (some r1.1) (some r1.2.1) (some r1.2.2.1) (some r1.2.2.2))), (r1.1, row0 cI 30), (r1.2.1, row0 cI 30), (r1.2.2.1, row0 cI 10), (r1.2.2.2, row0 cI 10), (g1, .inl (cW, 3, .inr (.inr (.inr (.inr (fW (some w1) none none)))))), (w1, .inr (2, [.ref t1, .ref r2, .int 0, .int 0])), (r2, row0 cI 30), (w2, .inr (2, [.ref t1, .ref r3, .int 0, .int 0])), (r3, row0 cI 30)] H := hP
  have hD : va_D A [(h0, .inr (0, [.ref t1, .ref g1, .null, .null, .int 0, .int 0, .int 0])), (t1, .inr (1, iX1 (some r1.1) (some r1.2.1) (some r1.2.2.1) (some r1.2.2.2))), (r1.1, row0 cI 30), (r1.2.1, row0 cI 30), (r1.2.2.1, row0 cI 10), (r1.2.2.2, row0 cI 10), (g1, .inl (cW, 3, .inr (.inr (.inr (.inr (fW (some w1) none none)))))), (w1, .inr (2, [.ref t1, .ref r2, .int 0, .int 0])), (r2, row0 cI 30), (w2, .inr (2, [.ref t1, .ref r3, .int 0, .int 0])), (r3, row0 cI 30)] := hD
  refine W.widen (k := 10) (n := 159) (Nat.le_of_ble_eq_true rfl) (Nat.le_of_ble_eq_true rfl) ?_
  refine va_astq (r := (RX2, TX2, 4)) hx hb hK hP hD hS 6 1 9 2 rfl rfl rfl rfl (by rw [vp_in_iff]; decide) d46 (fun H locs hP hD hS => ?_)
  have hP : va_P D mm_cl [(h0, .inr (0, [.ref t1, .ref g1, .null, .null, .int 0, .int 0, .int 0])), (t1, .inr (1, iX1 (some r1.1) (some r1.2.1) (some r1.2.2.1) (some r1.2.2.2))), (r1.1, row0 cI 30), (r1.2.1, row0 cI 30), (r1.2.2.1, row0 cI 10), (r1.2.2.2, row0 cI 10), (g1, .inl (cW, 3, .inr (.inr (.inr (.inr (fW (some w1) (some w2) none)))))), (w1, .inr (2, [.ref t1, .ref r2, .int 0, .int 0])), (r2, row0 cI 30), (w2, .inr (2, [.ref t1, .ref r3, .int 0, .int 0])), (r3, row0 cI 30)] H := by rw [fW_2]; exact hP
  have hD : va_D A [(h0, .inr (0, [.ref t1, .ref g1, .null, .null, .int 0, .int 0, .int 0])), (t1, .inr (1, iX1 (some r1.1) (some r1.2.1) (some r1.2.2.1) (some r1.2.2.2))), (r1.1, row0 cI 30), (r1.2.1, row0 cI 30), (r1.2.2.1, row0 cI 10), (r1.2.2.2, row0 cI 10), (g1, .inl (cW, 3, .inr (.inr (.inr (.inr (fW (some w1) (some w2) none)))))), (w1, .inr (2, [.ref t1, .ref r2, .int 0, .int 0])), (r2, row0 cI 30), (w2, .inr (2, [.ref t1, .ref r3, .int 0, .int 0])), (r3, row0 cI 30)] := by rw [fW_2]; exact hD
  refine lv_iinc (v := 2) (lv' := [(1, .int 2), (0, .ref h0)]) hx hb d47 hl (k := 0) rfl (by decide) (by decide) rfl (fun ls hl => ?_)
  refine lv_goto (tgt := 25) hx hb d50 (by decide) ?_
  refine lv_iload_n hx hb d25 rfl (lv_at hl 0 rfl) ?_
  refine lv_iconst (v := 3) hx hb d26 (by decide) ?_
  refine lv_icmp_ge (tgt := 53) hx hb d27 (by decide) (fun h => absurd h (by decide)) (fun _ => ?_)
  refine lv_aload_n hx hb d30 rfl (lv_at hl 1 rfl) ?_
  refine va_get (D := D) hx hb hts hin9 hown hK hP 0 rfl rfl 1 (by decide) (htT _ (mm_t1 106 rfl rfl)) (fun _ h9 => h9) rfl d31 ?_
  refine lv_iload_n hx hb d34 rfl (lv_at hl 0 rfl) ?_
  refine va_new (ci := 2) (fs := [.null, .null, .int 0, .int 0]) (C := RX2) (T := TX2) (N := 4) hx hb hts (fun w hw => List.mem_cons_of_mem _ (mm_T_cls (RX2, TX2, 4) (List.mem_of_getElem? (i := 2) rfl) w hw)) tyX2 tyX2_ok hown (htT _ (mm_t1 63 rfl rfl)) (htT _ (mm_t1 65 rfl rfl)) (htT _ (mm_t1 3 rfl rfl)) hK hP hD hS hA rfl (fun j hj => by rcases (show j = 0 ∨ j = 1 ∨ j = 2 ∨ j = 3 by omega) with rfl | rfl | rfl | rfl <;> rfl) (Nat.le_of_ble_eq_true rfl) (Nat.le_of_ble_eq_true rfl) d35 (fun w3 H hP hD hS => ?_)
  have hP : va_P D mm_cl [(h0, .inr (0, [.ref t1, .ref g1, .null, .null, .int 0, .int 0, .int 0])), (t1, .inr (1, iX1 (some r1.1) (some r1.2.1) (some r1.2.2.1) (some r1.2.2.2))), (r1.1, row0 cI 30), (r1.2.1, row0 cI 30), (r1.2.2.1, row0 cI 10), (r1.2.2.2, row0 cI 10), (g1, .inl (cW, 3, .inr (.inr (.inr (.inr (fW (some w1) (some w2) none)))))), (w1, .inr (2, [.ref t1, .ref r2, .int 0, .int 0])), (r2, row0 cI 30), (w2, .inr (2, [.ref t1, .ref r3, .int 0, .int 0])), (r3, row0 cI 30), (w3, .inr (2, [.null, .null, .int 0, .int 0]))] H := hP
  have hD : va_D A [(h0, .inr (0, [.ref t1, .ref g1, .null, .null, .int 0, .int 0, .int 0])), (t1, .inr (1, iX1 (some r1.1) (some r1.2.1) (some r1.2.2.1) (some r1.2.2.2))), (r1.1, row0 cI 30), (r1.2.1, row0 cI 30), (r1.2.2.1, row0 cI 10), (r1.2.2.2, row0 cI 10), (g1, .inl (cW, 3, .inr (.inr (.inr (.inr (fW (some w1) (some w2) none)))))), (w1, .inr (2, [.ref t1, .ref r2, .int 0, .int 0])), (r2, row0 cI 30), (w2, .inr (2, [.ref t1, .ref r3, .int 0, .int 0])), (r3, row0 cI 30), (w3, .inr (2, [.null, .null, .int 0, .int 0]))] := hD
  refine W.widen (k := 11) (n := 163) (Nat.le_of_ble_eq_true rfl) (Nat.le_of_ble_eq_true rfl) ?_
  refine lv_dup hx hb d38 rfl ?_
  refine lv_aload_n hx hb d39 rfl (lv_at hl 1 rfl) ?_
  refine va_get (D := D) hx hb hts hin9 hown hK hP 0 rfl rfl 0 (by decide) (htT _ (mm_t1 105 rfl rfl)) (fun _ h9 => h9) rfl d40 ?_
  have hPc := hP.sub (ws' := [(w3, .inr (2, [.null, .null, .int 0, .int 0]))]) [11] rfl
  have hDc := hD.sub (ws' := [(w3, .inr (2, [.null, .null, .int 0, .int 0]))]) [11] (by decide) rfl
  have hKc := hK.sub (tys' := [(cI, .int)]) [0] rfl
  have hFc := va_free (wc := [(w3, .inr (2, [.null, .null, .int 0, .int 0]))]) hD hS hA [11] rfl
  refine va_callv (va_runI (As := [.ref t1]) (rest := [.ref w3, .int 2, .ref g1]) ⟨hx, hb, hml, hown, hts⟩ (c_X2_init l D w3 t1 H.size cI) (cwI 1 hts (mm_goodIn (mm_t1 68 rfl rfl) (fun w hw => List.mem_cons_of_mem _ hw)) rfl rfl rfl (htT _ (mm_t1 3 rfl rfl)) (htT _ (mm_t1 66 rfl rfl)) (htT _ (mm_t1 67 rfl rfl)) rfl (by decide +kernel) ⟨Nat.le_of_ble_eq_true rfl, Nat.le_of_ble_eq_true rfl⟩) ⟨fun a U g mk q => by obtain ⟨q0, q1, qP, qK, qD⟩ := q; exact ⟨q0, q1, qP, va_K.moved (u := U) (U := U.calling g mk a) (Vm.Alike.refl U.vm) qK, qD⟩, fun U hU hW => ⟨rfl, by rw [hU], by rw [hU]; exact hPc, va_K.moved hW.alike hKc, hDc.weaken (fun _ _ _ _ => trivial)⟩⟩ rfl rfl hl.1 rfl (lv_room (Nat.le_of_ble_eq_true rfl)) d43 ⟨Nat.le_of_ble_eq_true rfl, Nat.le_of_ble_eq_true rfl⟩) hS (fun q _ h => hFc q h) hFc (fun r4 t H1 locs ht hvm hw hB hz1 hk1 hS => ?_)
  obtain ⟨hP1, hK1, hD1⟩ := hB
  rw [ht] at hP1
  obtain ⟨hP, hD⟩ := va_join (wr := [(h0, .inr (0, [.ref t1, .ref g1, .null, .null, .int 0, .int 0, .int 0])), (t1, .inr (1, iX1 (some r1.1) (some r1.2.1) (some r1.2.2.1) (some r1.2.2.2))), (r1.1, row0 cI 30), (r1.2.1, row0 cI 30), (r1.2.2.1, row0 cI 10), (r1.2.2.2, row0 cI 10), (g1, .inl (cW, 3, .inr (.inr (.inr (.inr (fW (some w1) (some w2) none)))))), (w1, .inr (2, [.ref t1, .ref r2, .int 0, .int 0])), (r2, row0 cI 30), (w2, .inr (2, [.ref t1, .ref r3, .int 0, .int 0])), (r3, row0 cI 30)]) (w1 := [(w3, .inr (2, [.ref t1, .ref r4, .int 0, .int 0])), (r4, row0 cI 30)]) hP hD [11] [0, 1, 2, 3, 4, 5, 6, 7, 8, 9, 10] rfl rfl (by decide) (by decide) hk1 hFc hP1 hD1
  generalize H1 = H at hP hS ⊢
  have hP : va_P D mm_cl [(h0, .inr (0, [.ref t1, .ref g1, .null, .null, .int 0, .int 0, .int 0])), (t1, .inr (1, iX1 (some r1.1) (some r1.2.1) (some r1.2.2.1) (some r1.2.2.2))), (r1.1, row0 cI 30), (r1.2.1, row0 cI 30), (r1.2.2.1, row0 cI 10), (r1.2.2.2, row0 cI 10), (g1, .inl (cW, 3, .inr (.inr (.inr (.inr (fW (some w1) (some w2) none)))))), (w1, .inr (2, [.ref t1, .ref r2, .int 0, .int 0])), (r2, row0 cI 30), (w2, .inr (2, [.ref t1, .ref r3, .int 0, .int 0])), (r3, row0 cI 30), (w3, .inr (2, [.ref t1, .ref r4, .int 0, .int 0])), (r4, row0 cI 30)] H := hP
  have hD : va_D A [(h0, .inr (0, [.ref t1, .ref g1, .null, .null, .int 0, .int 0, .int 0])), (t1, .inr (1, iX1 (some r1.1) (some r1.2.1) (some r1.2.2.1) (some r1.2.2.2))), (r1.1, row0 cI 30), (r1.2.1, row0 cI 30), (r1.2.2.1, row0 cI 10), (r1.2.2.2, row0 cI 10), (g1, .inl (cW, 3, .inr (.inr (.inr (.inr (fW (some w1) (some w2) none)))))), (w1, .inr (2, [.ref t1, .ref r2, .int 0, .int 0])), (r2, row0 cI 30), (w2, .inr (2, [.ref t1, .ref r3, .int 0, .int 0])), (r3, row0 cI 30), (w3, .inr (2, [.ref t1, .ref r4, .int 0, .int 0])), (r4, row0 cI 30)] := hD
  refine W.widen (k := 12) (n := 193) (Nat.le_of_ble_eq_true rfl) (Nat.le_of_ble_eq_true rfl) ?_
  refine va_astq (r := (RX2, TX2, 4)) hx hb hK hP hD hS 6 1 11 2 rfl rfl rfl rfl (by rw [vp_in_iff]; decide) d46 (fun H locs hP hD hS => ?_)
  have hP : va_P D mm_cl [(h0, .inr (0, [.ref t1, .ref g1, .null, .null, .int 0, .int 0, .int 0])), (t1, .inr (1, iX1 (some r1.1) (some r1.2.1) (some r1.2.2.1) (some r1.2.2.2))), (r1.1, row0 cI 30), (r1.2.1, row0 cI 30), (r1.2.2.1, row0 cI 10), (r1.2.2.2, row0 cI 10), (g1, .inl (cW, 3, .inr (.inr (.inr (.inr (fW (some w1) (some w2) (some w3))))))), (w1, .inr (2, [.ref t1, .ref r2, .int 0, .int 0])), (r2, row0 cI 30), (w2, .inr (2, [.ref t1, .ref r3, .int 0, .int 0])), (r3, row0 cI 30), (w3, .inr (2, [.ref t1, .ref r4, .int 0, .int 0])), (r4, row0 cI 30)] H := by rw [fW_3]; exact hP
  have hD : va_D A [(h0, .inr (0, [.ref t1, .ref g1, .null, .null, .int 0, .int 0, .int 0])), (t1, .inr (1, iX1 (some r1.1) (some r1.2.1) (some r1.2.2.1) (some r1.2.2.2))), (r1.1, row0 cI 30), (r1.2.1, row0 cI 30), (r1.2.2.1, row0 cI 10), (r1.2.2.2, row0 cI 10), (g1, .inl (cW, 3, .inr (.inr (.inr (.inr (fW (some w1) (some w2) (some w3))))))), (w1, .inr (2, [.ref t1, .ref r2, .int 0, .int 0])), (r2, row0 cI 30), (w2, .inr (2, [.ref t1, .ref r3, .int 0, .int 0])), (r3, row0 cI 30), (w3, .inr (2, [.ref t1, .ref r4, .int 0, .int 0])), (r4, row0 cI 30)] := by rw [fW_3]; exact hD
  refine lv_iinc (v := 3) (lv' := [(1, .int 3), (0, .ref h0)]) hx hb d47 hl (k := 0) rfl (by decide) (by decide) rfl (fun ls hl => ?_)
  refine lv_goto (tgt := 25) hx hb d50 (by decide) ?_
  refine lv_iload_n hx hb d25 rfl (lv_at hl 0 rfl) ?_
  refine lv_iconst (v := 3) hx hb d26 (by decide) ?_
  refine lv_icmp_ge (tgt := 53) hx hb d27 (by decide) (fun _ => ?_) (fun h => absurd (by decide) h)
  refine lv_aload_n hx hb d53 rfl (lv_at hl 1 rfl) ?_
  refine va_new (ci := 2) (fs := [.null, .null, .int 0, .int 0]) (C := RX2) (T := TX2) (N := 4) hx hb hts (fun w hw => List.mem_cons_of_mem _ (mm_T_cls (RX2, TX2, 4) (List.mem_of_getElem? (i := 2) rfl) w hw)) tyX2 tyX2_ok hown (htT _ (mm_t1 63 rfl rfl)) (htT _ (mm_t1 65 rfl rfl)) (htT _ (mm_t1 3 rfl rfl)) hK hP hD hS hA rfl (fun j hj => by rcases (show j = 0 ∨ j = 1 ∨ j = 2 ∨ j = 3 by omega) with rfl | rfl | rfl | rfl <;> rfl) (Nat.le_of_ble_eq_true rfl) (Nat.le_of_ble_eq_true rfl) d54 (fun w4 H hP hD hS => ?_)
  have hP : va_P D mm_cl [(h0, .inr (0, [.ref t1, .ref g1, .null, .null, .int 0, .int 0, .int 0])), (t1, .inr (1, iX1 (some r1.1) (some r1.2.1) (some r1.2.2.1) (some r1.2.2.2))), (r1.1, row0 cI 30), (r1.2.1, row0 cI 30), (r1.2.2.1, row0 cI 10), (r1.2.2.2, row0 cI 10), (g1, .inl (cW, 3, .inr (.inr (.inr (.inr (fW (some w1) (some w2) (some w3))))))), (w1, .inr (2, [.ref t1, .ref r2, .int 0, .int 0])), (r2, row0 cI 30), (w2, .inr (2, [.ref t1, .ref r3, .int 0, .int 0])), (r3, row0 cI 30), (w3, .inr (2, [.ref t1, .ref r4, .int 0, .int 0])), (r4, row0 cI 30), (w4, .inr (2, [.null, .null, .int 0, .int 0]))] H := hP
  have hD : va_D A [(h0, .inr (0, [.ref t1, .ref g1, .null, .null, .int 0, .int 0, .int 0])), (t1, .inr (1, iX1 (some r1.1) (some r1.2.1) (some r1.2.2.1) (some r1.2.2.2))), (r1.1, row0 cI 30), (r1.2.1, row0 cI 30), (r1.2.2.1, row0 cI 10), (r1.2.2.2, row0 cI 10), (g1, .inl (cW, 3, .inr (.inr (.inr (.inr (fW (some w1) (some w2) (some w3))))))), (w1, .inr (2, [.ref t1, .ref r2, .int 0, .int 0])), (r2, row0 cI 30), (w2, .inr (2, [.ref t1, .ref r3, .int 0, .int 0])), (r3, row0 cI 30), (w3, .inr (2, [.ref t1, .ref r4, .int 0, .int 0])), (r4, row0 cI 30), (w4, .inr (2, [.null, .null, .int 0, .int 0]))] := hD
  refine W.widen (k := 13) (n := 197) (Nat.le_of_ble_eq_true rfl) (Nat.le_of_ble_eq_true rfl) ?_
  refine lv_dup hx hb d57 rfl ?_
  refine lv_aload_n hx hb d58 rfl (lv_at hl 1 rfl) ?_
  refine va_get (D := D) hx hb hts hin9 hown hK hP 0 rfl rfl 0 (by decide) (htT _ (mm_t1 105 rfl rfl)) (fun _ h9 => h9) rfl d59 ?_
  have hPc := hP.sub (ws' := [(w4, .inr (2, [.null, .null, .int 0, .int 0]))]) [13] rfl
  have hDc := hD.sub (ws' := [(w4, .inr (2, [.null, .null, .int 0, .int 0]))]) [13] (by decide) rfl
  have hKc := hK.sub (tys' := [(cI, .int)]) [0] rfl
  have hFc := va_free (wc := [(w4, .inr (2, [.null, .null, .int 0, .int 0]))]) hD hS hA [13] rfl
  refine va_callv (va_runI (As := [.ref t1]) (rest := [.ref w4, .ref h0]) ⟨hx, hb, hml, hown, hts⟩ (c_X2_init l D w4 t1 H.size cI) (cwI 1 hts (mm_goodIn (mm_t1 68 rfl rfl) (fun w hw => List.mem_cons_of_mem _ hw)) rfl rfl rfl (htT _ (mm_t1 3 rfl rfl)) (htT _ (mm_t1 66 rfl rfl)) (htT _ (mm_t1 67 rfl rfl)) rfl (by decide +kernel) ⟨Nat.le_of_ble_eq_true rfl, Nat.le_of_ble_eq_true rfl⟩) ⟨fun a U g mk q => by obtain ⟨q0, q1, qP, qK, qD⟩ := q; exact ⟨q0, q1, qP, va_K.moved (u := U) (U := U.calling g mk a) (Vm.Alike.refl U.vm) qK, qD⟩, fun U hU hW => ⟨rfl, by rw [hU], by rw [hU]; exact hPc, va_K.moved hW.alike hKc, hDc.weaken (fun _ _ _ _ => trivial)⟩⟩ rfl rfl hl.1 rfl (lv_room (Nat.le_of_ble_eq_true rfl)) d62 ⟨Nat.le_of_ble_eq_true rfl, Nat.le_of_ble_eq_true rfl⟩) hS (fun q _ h => hFc q h) hFc (fun r5 t H1 locs ht hvm hw hB hz1 hk1 hS => ?_)
  obtain ⟨hP1, hK1, hD1⟩ := hB
  rw [ht] at hP1
  obtain ⟨hP, hD⟩ := va_join (wr := [(h0, .inr (0, [.ref t1, .ref g1, .null, .null, .int 0, .int 0, .int 0])), (t1, .inr (1, iX1 (some r1.1) (some r1.2.1) (some r1.2.2.1) (some r1.2.2.2))), (r1.1, row0 cI 30), (r1.2.1, row0 cI 30), (r1.2.2.1, row0 cI 10), (r1.2.2.2, row0 cI 10), (g1, .inl (cW, 3, .inr (.inr (.inr (.inr (fW (some w1) (some w2) (some w3))))))), (w1, .inr (2, [.ref t1, .ref r2, .int 0, .int 0])), (r2, row0 cI 30), (w2, .inr (2, [.ref t1, .ref r3, .int 0, .int 0])), (r3, row0 cI 30), (w3, .inr (2, [.ref t1, .ref r4, .int 0, .int 0])), (r4, row0 cI 30)]) (w1 := [(w4, .inr (2, [.ref t1, .ref r5, .int 0, .int 0])), (r5, row0 cI 30)]) hP hD [13] [0, 1, 2, 3, 4, 5, 6, 7, 8, 9, 10, 11, 12] rfl rfl (by decide) (by decide) hk1 hFc hP1 hD1
  generalize H1 = H at hP hS ⊢
  have hP : va_P D mm_cl [(h0, .inr (0, [.ref t1, .ref g1, .null, .null, .int 0, .int 0, .int 0])), (t1, .inr (1, iX1 (some r1.1) (some r1.2.1) (some r1.2.2.1) (some r1.2.2.2))), (r1.1, row0 cI 30), (r1.2.1, row0 cI 30), (r1.2.2.1, row0 cI 10), (r1.2.2.2, row0 cI 10), (g1, .inl (cW, 3, .inr (.inr (.inr (.inr (fW (some w1) (some w2) (some w3))))))), (w1, .inr (2, [.ref t1, .ref r2, .int 0, .int 0])), (r2, row0 cI 30), (w2, .inr (2, [.ref t1, .ref r3, .int 0, .int 0])), (r3, row0 cI 30), (w3, .inr (2, [.ref t1, .ref r4, .int 0, .int 0])), (r4, row0 cI 30), (w4, .inr (2, [.ref t1, .ref r5, .int 0, .int 0])), (r5, row0 cI 30)] H := hP
  have hD : va_D A [(h0, .inr (0, [.ref t1, .ref g1, .null, .null, .int 0, .int 0, .int 0])), (t1, .inr (1, iX1 (some r1.1) (some r1.2.1) (some r1.2.2.1) (some r1.2.2.2))), (r1.1, row0 cI 30), (r1.2.1, row0 cI 30), (r1.2.2.1, row0 cI 10), (r1.2.2.2, row0 cI 10), (g1, .inl (cW, 3, .inr (.inr (.inr (.inr (fW (some w1) (some w2) (some w3))))))), (w1, .inr (2, [.ref t1, .ref r2, .int 0, .int 0])), (r2, row0 cI 30), (w2, .inr (2, [.ref t1, .ref r3, .int 0, .int 0])), (r3, row0 cI 30), (w3, .inr (2, [.ref t1, .ref r4, .int 0, .int 0])), (r4, row0 cI 30), (w4, .inr (2, [.ref t1, .ref r5, .int 0, .int 0])), (r5, row0 cI 30)] := hD
  refine W.widen (k := 14) (n := 227) (Nat.le_of_ble_eq_true rfl) (Nat.le_of_ble_eq_true rfl) ?_
  refine va_putF (D := D) (ci := 0) (v := .ref w4) (ty := .object "Allstreets$Walk") (C := RX3) (T := TX3) (N := 7) hx hb hts hin9 tyX3 tyX3_ok nmX3 hown hK hP hD hS 0 rfl rfl 2 (by decide) (htT _ (mm_t1 107 rfl rfl)) (fun _ h9 => h9) rfl hin rfl (by decide +kernel) rfl rfl (Nat.le_of_ble_eq_true rfl) d65 (fun H locs hP hD hS => ?_)
  have hP : va_P D mm_cl [(h0, .inr (0, [.ref t1, .ref g1, .ref w4, .null, .int 0, .int 0, .int 0])), (t1, .inr (1, iX1 (some r1.1) (some r1.2.1) (some r1.2.2.1) (some r1.2.2.2))), (r1.1, row0 cI 30), (r1.2.1, row0 cI 30), (r1.2.2.1, row0 cI 10), (r1.2.2.2, row0 cI 10), (g1, .inl (cW, 3, .inr (.inr (.inr (.inr (fW (some w1) (some w2) (some w3))))))), (w1, .inr (2, [.ref t1, .ref r2, .int 0, .int 0])), (r2, row0 cI 30), (w2, .inr (2, [.ref t1, .ref r3, .int 0, .int 0])), (r3, row0 cI 30), (w3, .inr (2, [.ref t1, .ref r4, .int 0, .int 0])), (r4, row0 cI 30), (w4, .inr (2, [.ref t1, .ref r5, .int 0, .int 0])), (r5, row0 cI 30)] H := hP
  have hD : va_D A [(h0, .inr (0, [.ref t1, .ref g1, .ref w4, .null, .int 0, .int 0, .int 0])), (t1, .inr (1, iX1 (some r1.1) (some r1.2.1) (some r1.2.2.1) (some r1.2.2.2))), (r1.1, row0 cI 30), (r1.2.1, row0 cI 30), (r1.2.2.1, row0 cI 10), (r1.2.2.2, row0 cI 10), (g1, .inl (cW, 3, .inr (.inr (.inr (.inr (fW (some w1) (some w2) (some w3))))))), (w1, .inr (2, [.ref t1, .ref r2, .int 0, .int 0])), (r2, row0 cI 30), (w2, .inr (2, [.ref t1, .ref r3, .int 0, .int 0])), (r3, row0 cI 30), (w3, .inr (2, [.ref t1, .ref r4, .int 0, .int 0])), (r4, row0 cI 30), (w4, .inr (2, [.ref t1, .ref r5, .int 0, .int 0])), (r5, row0 cI 30)] := hD
  refine lv_aload_n hx hb d68 rfl (lv_at hl 1 rfl) ?_
  refine va_new (ci := 3) (fs := [.null, .null, .int 0, .int 0, .int 0]) (C := RX0) (T := TX0) (N := 5) hx hb hts (fun w hw => List.mem_cons_of_mem _ (mm_T_cls (RX0, TX0, 5) (List.mem_of_getElem? (i := 3) rfl) w hw)) tyX0 tyX0_ok hown (htT _ (mm_t1 83 rfl rfl)) (htT _ (mm_t1 84 rfl rfl)) (htT _ (mm_t1 4 rfl rfl)) hK hP hD hS hA rfl (fun j hj => by rcases (show j = 0 ∨ j = 1 ∨ j = 2 ∨ j = 3 ∨ j = 4 by omega) with rfl | rfl | rfl | rfl | rfl <;> rfl) (Nat.le_of_ble_eq_true rfl) (Nat.le_of_ble_eq_true rfl) d69 (fun u1 H hP hD hS => ?_)
  have hP : va_P D mm_cl [(h0, .inr (0, [.ref t1, .ref g1, .ref w4, .null, .int 0, .int 0, .int 0])), (t1, .inr (1, iX1 (some r1.1) (some r1.2.1) (some r1.2.2.1) (some r1.2.2.2))), (r1.1, row0 cI 30), (r1.2.1, row0 cI 30), (r1.2.2.1, row0 cI 10), (r1.2.2.2, row0 cI 10), (g1, .inl (cW, 3, .inr (.inr (.inr (.inr (fW (some w1) (some w2) (some w3))))))), (w1, .inr (2, [.ref t1, .ref r2, .int 0, .int 0])), (r2, row0 cI 30), (w2, .inr (2, [.ref t1, .ref r3, .int 0, .int 0])), (r3, row0 cI 30), (w3, .inr (2, [.ref t1, .ref r4, .int 0, .int 0])), (r4, row0 cI 30), (w4, .inr (2, [.ref t1, .ref r5, .int 0, .int 0])), (r5, row0 cI 30), (u1, .inr (3, [.null, .null, .int 0, .int 0, .int 0]))] H := hP
  have hD : va_D A [(h0, .inr (0, [.ref t1, .ref g1, .ref w4, .null, .int 0, .int 0, .int 0])), (t1, .inr (1, iX1 (some r1.1) (some r1.2.1) (some r1.2.2.1) (some r1.2.2.2))), (r1.1, row0 cI 30), (r1.2.1, row0 cI 30), (r1.2.2.1, row0 cI 10), (r1.2.2.2, row0 cI 10), (g1, .inl (cW, 3, .inr (.inr (.inr (.inr (fW (some w1) (some w2) (some w3))))))), (w1, .inr (2, [.ref t1, .ref r2, .int 0, .int 0])), (r2, row0 cI 30), (w2, .inr (2, [.ref t1, .ref r3, .int 0, .int 0])), (r3, row0 cI 30), (w3, .inr (2, [.ref t1, .ref r4, .int 0, .int 0])), (r4, row0 cI 30), (w4, .inr (2, [.ref t1, .ref r5, .int 0, .int 0])), (r5, row0 cI 30), (u1, .inr (3, [.null, .null, .int 0, .int 0, .int 0]))] := hD
  refine W.widen (k := 15) (n := 232) (Nat.le_of_ble_eq_true rfl) (Nat.le_of_ble_eq_true rfl) ?_
  refine lv_dup hx hb d72 rfl ?_
  refine lv_aload_n hx hb d73 rfl (lv_at hl 1 rfl) ?_
  refine va_get (D := D) hx hb hts hin9 hown hK hP 0 rfl rfl 0 (by decide) (htT _ (mm_t1 105 rfl rfl)) (fun _ h9 => h9) rfl d74 ?_
  have hPc := hP.sub (ws' := [(u1, .inr (3, [.null, .null, .int 0, .int 0, .int 0]))]) [15] rfl
  have hDc := hD.sub (ws' := [(u1, .inr (3, [.null, .null, .int 0, .int 0, .int 0]))]) [15] (by decide) rfl
  have hKc := hK.sub (tys' := [(cI, .int)]) [0] rfl
  have hFc := va_free (wc := [(u1, .inr (3, [.null, .null, .int 0, .int 0, .int 0]))]) hD hS hA [15] rfl
  refine va_callv (va_runI (As := [.ref t1]) (rest := [.ref u1, .ref h0]) ⟨hx, hb, hml, hown, hts⟩ (c_X0_init l D u1 t1 H.size cI) (cwI 1 hts (mm_goodIn (mm_t1 87 rfl rfl) (fun w hw => List.mem_cons_of_mem _ hw)) rfl rfl rfl (htT _ (mm_t1 4 rfl rfl)) (htT _ (mm_t1 85 rfl rfl)) (htT _ (mm_t1 86 rfl rfl)) rfl (by decide +kernel) ⟨Nat.le_of_ble_eq_true rfl, Nat.le_of_ble_eq_true rfl⟩) ⟨fun a U g mk q => by obtain ⟨q0, q1, qP, qK, qD⟩ := q; exact ⟨q0, q1, qP, va_K.moved (u := U) (U := U.calling g mk a) (Vm.Alike.refl U.vm) qK, qD⟩, fun U hU hW => ⟨rfl, by rw [hU], by rw [hU]; exact hPc, va_K.moved hW.alike hKc, hDc.weaken (fun _ _ _ _ => trivial)⟩⟩ rfl rfl hl.1 rfl (lv_room (Nat.le_of_ble_eq_true rfl)) d77 ⟨Nat.le_of_ble_eq_true rfl, Nat.le_of_ble_eq_true rfl⟩) hS (fun q _ h => hFc q h) hFc (fun r6 t H1 locs ht hvm hw hB hz1 hk1 hS => ?_)
  obtain ⟨hP1, hK1, hD1⟩ := hB
  rw [ht] at hP1
  obtain ⟨hP, hD⟩ := va_join (wr := [(h0, .inr (0, [.ref t1, .ref g1, .ref w4, .null, .int 0, .int 0, .int 0])), (t1, .inr (1, iX1 (some r1.1) (some r1.2.1) (some r1.2.2.1) (some r1.2.2.2))), (r1.1, row0 cI 30), (r1.2.1, row0 cI 30), (r1.2.2.1, row0 cI 10), (r1.2.2.2, row0 cI 10), (g1, .inl (cW, 3, .inr (.inr (.inr (.inr (fW (some w1) (some w2) (some w3))))))), (w1, .inr (2, [.ref t1, .ref r2, .int 0, .int 0])), (r2, row0 cI 30), (w2, .inr (2, [.ref t1, .ref r3, .int 0, .int 0])), (r3, row0 cI 30), (w3, .inr (2, [.ref t1, .ref r4, .int 0, .int 0])), (r4, row0 cI 30), (w4, .inr (2, [.ref t1, .ref r5, .int 0, .int 0])), (r5, row0 cI 30)]) (w1 := [(u1, .inr (3, [.ref t1, .null, .int 0, .int (-1), .int 0]))]) hP hD [15] [0, 1, 2, 3, 4, 5, 6, 7, 8, 9, 10, 11, 12, 13, 14] rfl rfl (by decide) (by decide) hk1 hFc hP1 hD1
  generalize H1 = H at hP hS ⊢
  have hP : va_P D mm_cl [(h0, .inr (0, [.ref t1, .ref g1, .ref w4, .null, .int 0, .int 0, .int 0])), (t1, .inr (1, iX1 (some r1.1) (some r1.2.1) (some r1.2.2.1) (some r1.2.2.2))), (r1.1, row0 cI 30), (r1.2.1, row0 cI 30), (r1.2.2.1, row0 cI 10), (r1.2.2.2, row0 cI 10), (g1, .inl (cW, 3, .inr (.inr (.inr (.inr (fW (some w1) (some w2) (some w3))))))), (w1, .inr (2, [.ref t1, .ref r2, .int 0, .int 0])), (r2, row0 cI 30), (w2, .inr (2, [.ref t1, .ref r3, .int 0, .int 0])), (r3, row0 cI 30), (w3, .inr (2, [.ref t1, .ref r4, .int 0, .int 0])), (r4, row0 cI 30), (w4, .inr (2, [.ref t1, .ref r5, .int 0, .int 0])), (r5, row0 cI 30), (u1, .inr (3, [.ref t1, .null, .int 0, .int (-1), .int 0]))] H := hP
  have hD : va_D A [(h0, .inr (0, [.ref t1, .ref g1, .ref w4, .null, .int 0, .int 0, .int 0])), (t1, .inr (1, iX1 (some r1.1) (some r1.2.1) (some r1.2.2.1) (some r1.2.2.2))), (r1.1, row0 cI 30), (r1.2.1, row0 cI 30), (r1.2.2.1, row0 cI 10), (r1.2.2.2, row0 cI 10), (g1, .inl (cW, 3, .inr (.inr (.inr (.inr (fW (some w1) (some w2) (some w3))))))), (w1, .inr (2, [.ref t1, .ref r2, .int 0, .int 0])), (r2, row0 cI 30), (w2, .inr (2, [.ref t1, .ref r3, .int 0, .int 0])), (r3, row0 cI 30), (w3, .inr (2, [.ref t1, .ref r4, .int 0, .int 0])), (r4, row0 cI 30), (w4, .inr (2, [.ref t1, .ref r5, .int 0, .int 0])), (r5, row0 cI 30), (u1, .inr (3, [.ref t1, .null, .int 0, .int (-1), .int 0]))] := hD
  refine W.widen (k := 15) (n := 232) (Nat.le_of_ble_eq_true rfl) (Nat.le_of_ble_eq_true rfl) ?_
  refine va_putF (D := D) (ci := 0) (v := .ref u1) (ty := .object "Allstreets$Cursor") (C := RX3) (T := TX3) (N := 7) hx hb hts hin9 tyX3 tyX3_ok nmX3 hown hK hP hD hS 0 rfl rfl 3 (by decide) (htT _ (mm_t1 108 rfl rfl)) (fun _ h9 => h9) rfl hin rfl (by decide +kernel) rfl rfl (Nat.le_of_ble_eq_true rfl) d80 (fun H locs hP hD hS => ?_)
  have hP : va_P D mm_cl [(h0, .inr (0, [.ref t1, .ref g1, .ref w4, .ref u1, .int 0, .int 0, .int 0])), (t1, .inr (1, iX1 (some r1.1) (some r1.2.1) (some r1.2.2.1) (some r1.2.2.2))), (r1.1, row0 cI 30), (r1.2.1, row0 cI 30), (r1.2.2.1, row0 cI 10), (r1.2.2.2, row0 cI 10), (g1, .inl (cW, 3, .inr (.inr (.inr (.inr (fW (some w1) (some w2) (some w3))))))), (w1, .inr (2, [.ref t1, .ref r2, .int 0, .int 0])), (r2, row0 cI 30), (w2, .inr (2, [.ref t1, .ref r3, .int 0, .int 0])), (r3, row0 cI 30), (w3, .inr (2, [.ref t1, .ref r4, .int 0, .int 0])), (r4, row0 cI 30), (w4, .inr (2, [.ref t1, .ref r5, .int 0, .int 0])), (r5, row0 cI 30), (u1, .inr (3, [.ref t1, .null, .int 0, .int (-1), .int 0]))] H := hP
  have hD : va_D A [(h0, .inr (0, [.ref t1, .ref g1, .ref w4, .ref u1, .int 0, .int 0, .int 0])), (t1, .inr (1, iX1 (some r1.1) (some r1.2.1) (some r1.2.2.1) (some r1.2.2.2))), (r1.1, row0 cI 30), (r1.2.1, row0 cI 30), (r1.2.2.1, row0 cI 10), (r1.2.2.2, row0 cI 10), (g1, .inl (cW, 3, .inr (.inr (.inr (.inr (fW (some w1) (some w2) (some w3))))))), (w1, .inr (2, [.ref t1, .ref r2, .int 0, .int 0])), (r2, row0 cI 30), (w2, .inr (2, [.ref t1, .ref r3, .int 0, .int 0])), (r3, row0 cI 30), (w3, .inr (2, [.ref t1, .ref r4, .int 0, .int 0])), (r4, row0 cI 30), (w4, .inr (2, [.ref t1, .ref r5, .int 0, .int 0])), (r5, row0 cI 30), (u1, .inr (3, [.ref t1, .null, .int 0, .int (-1), .int 0]))] := hD
  exact W.vret hx hb hr (fun t ht hW => ⟨⟨(), rfl, trivial, cW, t1, g1, w1, w2, w3, w4, u1, r1, r2, r3, r4, r5, by rw [ht]; exact hP, va_K.moved hW.alike hK, hD⟩, hS.F ht⟩) hS.2.2 d83
end
section
/-! the law: from its entry on -/
theorem dL_start : decode code 0 = .ok (.new 8, 3) ∧ decode code 3 = .ok (.dup, 1) ∧ decode code 4 = .ok (.invokespecial 135, 3) ∧ decode code 7 = .ok (.astore_n 1, 1) ∧ decode code 8 = .ok (.new 136, 3) ∧ decode code 11 = .ok (.dup, 1) ∧ decode code 12 = .ok (.invokespecial 138, 3) ∧ decode code 15 = .ok (.astore_n 2, 1) := by (repeat' apply And.intro) <;> decide +kernel
set_option maxHeartbeats 8000000 in
set_option maxRecDepth 100000 in
theorem law_s1 {p : Program} {e : Env} {s : State} {m : MethodId} {below : List Frame} {meth : Method} {c : Code} (l : Launch) {b L : Nat} {xs : Nat → Int32} (C0 : lw_At p s m meth c b L xs) {D : va_G} {cI : ClassId} (hK : va_K D mm_cl [(cI, .int)] s) (hAOs : ∀ U : State, s.WarmedH U.vm → va_AO RX2 U)
    (kk : ∀ (cW : ClassId) (x0 m0 t1 g1 w1 w2 w3 w4 u1 : Nat) (r1 : Nat × Nat × Nat × Nat) (r2 r3 r4 r5 v1 v2 v3 v4 v5 : Nat) (H : Heap) (locs : List Loc) (ls : Array Slot), va_K D mm_cl [(cI, .int), (cW, .object RX2)] s → va_P D mm_cl [(x0, .inr (0, [.ref t1, .ref g1, .ref w4, .ref u1, .int 0, .int 0, .int 0])), (t1, .inr (1, iX1 (some r1.1) (some r1.2.1) (some r1.2.2.1) (some r1.2.2.2))), (r1.1, row0 cI 30), (r1.2.1, row0 cI 30), (r1.2.2.1, row0 cI 10), (r1.2.2.2, row0 cI 10), (g1, .inl (cW, 3, .inr (.inr (.inr (.inr (fW (some w1) (some w2) (some w3))))))), (w1, .inr (2, [.ref t1, .ref r2, .int 0, .int 0])), (r2, row0 cI 30), (w2, .inr (2, [.ref t1, .ref r3, .int 0, .int 0])), (r3, row0 cI 30), (w3, .inr (2, [.ref t1, .ref r4, .int 0, .int 0])), (r4, row0 cI 30), (w4, .inr (2, [.ref t1, .ref r5, .int 0, .int 0])), (r5, row0 cI 30), (u1, .inr (3, [.ref t1, .null, .int 0, .int (-1), .int 0])), (m0, .inr (4, [.int 0, .int 0, .ref v1, .ref v2, .int 0, .int 0, .int 0, .ref v3, .ref v4, .ref v5, .int (-1), .int 0, .int (-1), .int 0, .int 0, .int 0, .int 0])), (v1, row0 cI 30), (v2, row0 cI 30), (v3, row0 cI 120), (v4, row0 cI 4), (v5, row0 cI 4)] H → va_D (mm_AL s) [(x0, .inr (0, [.ref t1, .ref g1, .ref w4, .ref u1, .int 0, .int 0, .int 0])), (t1, .inr (1, iX1 (some r1.1) (some r1.2.1) (some r1.2.2.1) (some r1.2.2.2))), (r1.1, row0 cI 30), (r1.2.1, row0 cI 30), (r1.2.2.1, row0 cI 10), (r1.2.2.2, row0 cI 10), (g1, .inl (cW, 3, .inr (.inr (.inr (.inr (fW (some w1) (some w2) (some w3))))))), (w1, .inr (2, [.ref t1, .ref r2, .int 0, .int 0])), (r2, row0 cI 30), (w2, .inr (2, [.ref t1, .ref r3, .int 0, .int 0])), (r3, row0 cI 30), (w3, .inr (2, [.ref t1, .ref r4, .int 0, .int 0])), (r4, row0 cI 30), (w4, .inr (2, [.ref t1, .ref r5, .int 0, .int 0])), (r5, row0 cI 30), (u1, .inr (3, [.ref t1, .null, .int 0, .int (-1), .int 0])), (m0, .inr (4, [.int 0, .int 0, .ref v1, .ref v2, .int 0, .int 0, .int 0, .ref v3, .ref v4, .ref v5, .int (-1), .int 0, .int (-1), .int 0, .int 0, .int 0, .int 0])), (v1, row0 cI 30), (v2, row0 cI 30), (v3, row0 cI 120), (v4, row0 cI 4), (v5, row0 cI 4)] → va_S (mm_AL s) s.heap H locs → lv_has ls 7 [(2, .ref m0), (1, .ref x0), (0, .ref b)] → W p l e room_1 s m #[Value.ref b] below meth c H locs 22 500 (lw_Z below #[Value.ref b] s) (F0 m 16 ls [])) : W p l e room_1 s m #[Value.ref b] below meth c s.heap [] 0 0 (lw_Z below #[Value.ref b] s) (entryFrame m ([Value.ref b] : List Value).toArray 7) := by
  obtain ⟨hx, hb, hr, hml, hown, hts, hX, hbl, hlocks, hgv⟩ := id C0
  have htT : ∀ w ∈ mm_T, w.before #[Value.ref b] s = true := fun w hw => hts w (List.mem_filter.mp hw).1
  have hA : ∀ q : Nat, s.heap.size ≤ q → mm_AL s q := fun _ h => h
  have hS : va_S (mm_AL s) s.heap s.heap [] := va_S.rf
  have hP : va_P D mm_cl [] s.heap := fun k q h => by simp at h
  have hD : va_D (mm_AL s) [] := ⟨fun i j p q h => by simp at h, fun k q h => by simp at h⟩
  have hl := lv_entry ([.ref b]) (n := 7) (Nat.le_of_ble_eq_true rfl)
  rw [lg_entry_eq]
  generalize (lg_sl ([.ref b]) ++ List.replicate (7 - (lg_sl ([.ref b])).length) Slot.unset).toArray = ls at hl ⊢
  have hl : lv_has ls 7 [(0, .ref b)] := hl
  obtain ⟨d0, d3, d4, d7, d8, d11, d12, d15⟩ := dL_start
  refine va_new (ci := 0) (fs := [.null, .null, .null, .null, .int 0, .int 0, .int 0]) (C := RX3) (T := TX3) (N := 7) hx hb htT (fun w hw => mm_T_cls (RX3, TX3, 7) (List.mem_of_getElem? (i := 0) rfl) w hw) tyX3 tyX3_ok hown (htT _ (mm_t1 23 rfl rfl)) (htT _ (mm_t1 24 rfl rfl)) (htT _ (mm_t1 1 rfl rfl)) hK hP hD hS hA rfl (fun j hj => by rcases (show j = 0 ∨ j = 1 ∨ j = 2 ∨ j = 3 ∨ j = 4 ∨ j = 5 ∨ j = 6 by omega) with rfl | rfl | rfl | rfl | rfl | rfl | rfl <;> rfl) (Nat.le_of_ble_eq_true rfl) (Nat.le_of_ble_eq_true rfl) d0 (fun x0 H hP hD hS => ?_)
  have hP : va_P D mm_cl [(x0, .inr (0, [.null, .null, .null, .null, .int 0, .int 0, .int 0]))] H := hP
  have hD : va_D (mm_AL s) [(x0, .inr (0, [.null, .null, .null, .null, .int 0, .int 0, .int 0]))] := hD
  refine W.widen (k := 1) (n := 7) (Nat.le_of_ble_eq_true rfl) (Nat.le_of_ble_eq_true rfl) ?_
  refine lv_dup hx hb d3 rfl ?_
  have hPc := hP.sub (ws' := [(x0, .inr (0, [.null, .null, .null, .null, .int 0, .int 0, .int 0]))]) [0] rfl
  have hDc := hD.sub (ws' := [(x0, .inr (0, [.null, .null, .null, .null, .int 0, .int 0, .int 0]))]) [0] (by decide) rfl
  have hKc := hK.sub (tys' := [(cI, .int)]) [0] rfl
  have hFc := va_free (wc := [(x0, .inr (0, [.null, .null, .null, .null, .int 0, .int 0, .int 0]))]) hD hS hA [0] rfl
  refine va_callv (va_runI (As := []) (rest := [.ref x0]) ⟨hx, hb, hml, hown, htT⟩ (c_X3_init l D x0 H.size cI) (cwI 0 htT (mm_goodIn (mm_t1 27 rfl rfl) (fun w hw => hw)) rfl rfl rfl (htT _ (mm_t1 1 rfl rfl)) (htT _ (mm_t1 25 rfl rfl)) (htT _ (mm_t1 26 rfl rfl)) rfl (by decide +kernel) ⟨Nat.le_of_ble_eq_true rfl, Nat.le_of_ble_eq_true rfl⟩) ⟨fun a U g mk q => by obtain ⟨q0, q1, qP, qK, qD, qA⟩ := q; exact ⟨q0, q1, qP, va_K.moved (u := U) (U := U.calling g mk a) (Vm.Alike.refl U.vm) qK, qD, qA⟩, fun U hU hW => ⟨rfl, by rw [hU], by rw [hU]; exact hPc, va_K.moved hW.alike hKc, hDc.weaken (fun _ _ _ _ => trivial), hAOs U hW⟩⟩ rfl rfl hl.1 rfl (lv_room (Nat.le_of_ble_eq_true rfl)) d4 ⟨Nat.le_of_ble_eq_true rfl, Nat.le_of_ble_eq_true rfl⟩) hS (fun q _ h => hFc q h) hFc (fun u9 t H1 locs ht hvm hw hB hz1 hk1 hS => ?_)
  obtain ⟨cW, t1, g1, w1, w2, w3, w4, u1, r1, r2, r3, r4, r5, hP1, hK1, hD1⟩ := hB
  rw [ht] at hP1
  obtain ⟨hP, hD⟩ := va_join (wr := []) (w1 := [(x0, .inr (0, [.ref t1, .ref g1, .ref w4, .ref u1, .int 0, .int 0, .int 0])), (t1, .inr (1, iX1 (some r1.1) (some r1.2.1) (some r1.2.2.1) (some r1.2.2.2))), (r1.1, row0 cI 30), (r1.2.1, row0 cI 30), (r1.2.2.1, row0 cI 10), (r1.2.2.2, row0 cI 10), (g1, .inl (cW, 3, .inr (.inr (.inr (.inr (fW (some w1) (some w2) (some w3))))))), (w1, .inr (2, [.ref t1, .ref r2, .int 0, .int 0])), (r2, row0 cI 30), (w2, .inr (2, [.ref t1, .ref r3, .int 0, .int 0])), (r3, row0 cI 30), (w3, .inr (2, [.ref t1, .ref r4, .int 0, .int 0])), (r4, row0 cI 30), (w4, .inr (2, [.ref t1, .ref r5, .int 0, .int 0])), (r5, row0 cI 30), (u1, .inr (3, [.ref t1, .null, .int 0, .int (-1), .int 0]))]) hP hD [0] [] rfl rfl (by decide) (by decide) hk1 hFc hP1 hD1
  generalize H1 = H at hP hS ⊢
  have hP : va_P D mm_cl [(x0, .inr (0, [.ref t1, .ref g1, .ref w4, .ref u1, .int 0, .int 0, .int 0])), (t1, .inr (1, iX1 (some r1.1) (some r1.2.1) (some r1.2.2.1) (some r1.2.2.2))), (r1.1, row0 cI 30), (r1.2.1, row0 cI 30), (r1.2.2.1, row0 cI 10), (r1.2.2.2, row0 cI 10), (g1, .inl (cW, 3, .inr (.inr (.inr (.inr (fW (some w1) (some w2) (some w3))))))), (w1, .inr (2, [.ref t1, .ref r2, .int 0, .int 0])), (r2, row0 cI 30), (w2, .inr (2, [.ref t1, .ref r3, .int 0, .int 0])), (r3, row0 cI 30), (w3, .inr (2, [.ref t1, .ref r4, .int 0, .int 0])), (r4, row0 cI 30), (w4, .inr (2, [.ref t1, .ref r5, .int 0, .int 0])), (r5, row0 cI 30), (u1, .inr (3, [.ref t1, .null, .int 0, .int (-1), .int 0]))] H := hP
  have hD : va_D (mm_AL s) [(x0, .inr (0, [.ref t1, .ref g1, .ref w4, .ref u1, .int 0, .int 0, .int 0])), (t1, .inr (1, iX1 (some r1.1) (some r1.2.1) (some r1.2.2.1) (some r1.2.2.2))), (r1.1, row0 cI 30), (r1.2.1, row0 cI 30), (r1.2.2.1, row0 cI 10), (r1.2.2.2, row0 cI 10), (g1, .inl (cW, 3, .inr (.inr (.inr (.inr (fW (some w1) (some w2) (some w3))))))), (w1, .inr (2, [.ref t1, .ref r2, .int 0, .int 0])), (r2, row0 cI 30), (w2, .inr (2, [.ref t1, .ref r3, .int 0, .int 0])), (r3, row0 cI 30), (w3, .inr (2, [.ref t1, .ref r4, .int 0, .int 0])), (r4, row0 cI 30), (w4, .inr (2, [.ref t1, .ref r5, .int 0, .int 0])), (r5, row0 cI 30), (u1, .inr (3, [.ref t1, .null, .int 0, .int (-1), .int 0]))] := hD
  refine W.widen (k := 16) (n := 239) (Nat.le_of_ble_eq_true rfl) (Nat.le_of_ble_eq_true rfl) ?_
  have hK := va_K.moved hvm.symm hK1
  refine lv_astore_n (lv' := [(1, .ref x0), (0, .ref b)]) hx hb d7 rfl hl (by decide) rfl (fun ls hl => ?_)
  refine va_new (ci := 4) (fs := [.int 0, .int 0, .null, .null, .int 0, .int 0, .int 0, .null, .null, .null, .int 0, .int 0, .int 0, .int 0, .int 0, .int 0, .int 0]) (C := RX5) (T := TX5) (N := 17) hx hb htT (fun w hw => mm_T_cls (RX5, TX5, 17) (List.mem_of_getElem? (i := 4) rfl) w hw) tyX5 tyX5_ok hown (htT _ (mm_t6 41 rfl rfl)) (htT _ (mm_t6 42 rfl rfl)) (htT _ (mm_t1 5 rfl rfl)) hK hP hD hS hA rfl (fun j hj => by rcases (show j = 0 ∨ j = 1 ∨ j = 2 ∨ j = 3 ∨ j = 4 ∨ j = 5 ∨ j = 6 ∨ j = 7 ∨ j = 8 ∨ j = 9 ∨ j = 10 ∨ j = 11 ∨ j = 12 ∨ j = 13 ∨ j = 14 ∨ j = 15 ∨ j = 16 by omega) with rfl | rfl | rfl | rfl | rfl | rfl | rfl | rfl | rfl | rfl | rfl | rfl | rfl | rfl | rfl | rfl | rfl <;> rfl) (Nat.le_of_ble_eq_true rfl) (Nat.le_of_ble_eq_true rfl) d8 (fun m0 H hP hD hS => ?_)
  have hP : va_P D mm_cl [(x0, .inr (0, [.ref t1, .ref g1, .ref w4, .ref u1, .int 0, .int 0, .int 0])), (t1, .inr (1, iX1 (some r1.1) (some r1.2.1) (some r1.2.2.1) (some r1.2.2.2))), (r1.1, row0 cI 30), (r1.2.1, row0 cI 30), (r1.2.2.1, row0 cI 10), (r1.2.2.2, row0 cI 10), (g1, .inl (cW, 3, .inr (.inr (.inr (.inr (fW (some w1) (some w2) (some w3))))))), (w1, .inr (2, [.ref t1, .ref r2, .int 0, .int 0])), (r2, row0 cI 30), (w2, .inr (2, [.ref t1, .ref r3, .int 0, .int 0])), (r3, row0 cI 30), (w3, .inr (2, [.ref t1, .ref r4, .int 0, .int 0])), (r4, row0 cI 30), (w4, .inr (2, [.ref t1, .ref r5, .int 0, .int 0])), (r5, row0 cI 30), (u1, .inr (3, [.ref t1, .null, .int 0, .int (-1), .int 0])), (m0, .inr (4, [.int 0, .int 0, .null, .null, .int 0, .int 0, .int 0, .null, .null, .null, .int 0, .int 0, .int 0, .int 0, .int 0, .int 0, .int 0]))] H := hP
  have hD : va_D (mm_AL s) [(x0, .inr (0, [.ref t1, .ref g1, .ref w4, .ref u1, .int 0, .int 0, .int 0])), (t1, .inr (1, iX1 (some r1.1) (some r1.2.1) (some r1.2.2.1) (some r1.2.2.2))), (r1.1, row0 cI 30), (r1.2.1, row0 cI 30), (r1.2.2.1, row0 cI 10), (r1.2.2.2, row0 cI 10), (g1, .inl (cW, 3, .inr (.inr (.inr (.inr (fW (some w1) (some w2) (some w3))))))), (w1, .inr (2, [.ref t1, .ref r2, .int 0, .int 0])), (r2, row0 cI 30), (w2, .inr (2, [.ref t1, .ref r3, .int 0, .int 0])), (r3, row0 cI 30), (w3, .inr (2, [.ref t1, .ref r4, .int 0, .int 0])), (r4, row0 cI 30), (w4, .inr (2, [.ref t1, .ref r5, .int 0, .int 0])), (r5, row0 cI 30), (u1, .inr (3, [.ref t1, .null, .int 0, .int (-1), .int 0])), (m0, .inr (4, [.int 0, .int 0, .null, .null, .int 0, .int 0, .int 0, .null, .null, .null, .int 0, .int 0, .int 0, .int 0, .int 0, .int 0, .int 0]))] := hD
  refine W.widen (k := 17) (n := 256) (Nat.le_of_ble_eq_true rfl) (Nat.le_of_ble_eq_true rfl) ?_
  refine lv_dup hx hb d11 rfl ?_
  have hPc := hP.sub (ws' := [(m0, .inr (4, [.int 0, .int 0, .null, .null, .int 0, .int 0, .int 0, .null, .null, .null, .int 0, .int 0, .int 0, .int 0, .int 0, .int 0, .int 0]))]) [16] rfl
  have hDc := hD.sub (ws' := [(m0, .inr (4, [.int 0, .int 0, .null, .null, .int 0, .int 0, .int 0, .null, .null, .null, .int 0, .int 0, .int 0, .int 0, .int 0, .int 0, .int 0]))]) [16] (by decide) rfl
  have hKc := hK.sub (tys' := [(cI, .int)]) [0] rfl
  have hFc := va_free (wc := [(m0, .inr (4, [.int 0, .int 0, .null, .null, .int 0, .int 0, .int 0, .null, .null, .null, .int 0, .int 0, .int 0, .int 0, .int 0, .int 0, .int 0]))]) hD hS hA [16] rfl
  refine va_callv (va_runI (As := []) (rest := [.ref m0]) ⟨hx, hb, hml, hown, htT⟩ (c_X5_init l D m0 H.size cI) (cwI 0 htT (mm_goodIn (mm_t6 45 rfl rfl) (fun w hw => hw)) rfl rfl rfl (htT _ (mm_t1 5 rfl rfl)) (htT _ (mm_t6 43 rfl rfl)) (htT _ (mm_t6 44 rfl rfl)) rfl (by decide +kernel) ⟨Nat.le_of_ble_eq_true rfl, Nat.le_of_ble_eq_true rfl⟩) ⟨fun a U g mk q => by obtain ⟨q0, q1, qP, qK, qD⟩ := q; exact ⟨q0, q1, qP, va_K.moved (u := U) (U := U.calling g mk a) (Vm.Alike.refl U.vm) qK, qD⟩, fun U hU hW => ⟨rfl, by rw [hU], by rw [hU]; exact hPc, va_K.moved hW.alike hKc, hDc.weaken (fun _ _ _ _ => trivial)⟩⟩ rfl rfl hl.1 rfl (lv_room (Nat.le_of_ble_eq_true rfl)) d12 ⟨Nat.le_of_ble_eq_true rfl, Nat.le_of_ble_eq_true rfl⟩) hS (fun q _ h => hFc q h) hFc (fun u8 t H1 locs ht hvm hw hB hz1 hk1 hS => ?_)
  obtain ⟨v1, v2, v3, v4, v5⟩ := u8
  obtain ⟨hP1, hK1, hD1⟩ := hB
  rw [ht] at hP1
  obtain ⟨hP, hD⟩ := va_join (wr := [(x0, .inr (0, [.ref t1, .ref g1, .ref w4, .ref u1, .int 0, .int 0, .int 0])), (t1, .inr (1, iX1 (some r1.1) (some r1.2.1) (some r1.2.2.1) (some r1.2.2.2))), (r1.1, row0 cI 30), (r1.2.1, row0 cI 30), (r1.2.2.1, row0 cI 10), (r1.2.2.2, row0 cI 10), (g1, .inl (cW, 3, .inr (.inr (.inr (.inr (fW (some w1) (some w2) (some w3))))))), (w1, .inr (2, [.ref t1, .ref r2, .int 0, .int 0])), (r2, row0 cI 30), (w2, .inr (2, [.ref t1, .ref r3, .int 0, .int 0])), (r3, row0 cI 30), (w3, .inr (2, [.ref t1, .ref r4, .int 0, .int 0])), (r4, row0 cI 30), (w4, .inr (2, [.ref t1, .ref r5, .int 0, .int 0])), (r5, row0 cI 30), (u1, .inr (3, [.ref t1, .null, .int 0, .int (-1), .int 0]))]) (w1 := [(m0, .inr (4, [.int 0, .int 0, .ref v1, .ref v2, .int 0, .int 0, .int 0, .ref v3, .ref v4, .ref v5, .int (-1), .int 0, .int (-1), .int 0, .int 0, .int 0, .int 0])), (v1, row0 cI 30), (v2, row0 cI 30), (v3, row0 cI 120), (v4, row0 cI 4), (v5, row0 cI 4)]) hP hD [16] [0, 1, 2, 3, 4, 5, 6, 7, 8, 9, 10, 11, 12, 13, 14, 15] rfl rfl (by decide) (by decide) hk1 hFc hP1 hD1
  generalize H1 = H at hP hS ⊢
  have hP : va_P D mm_cl [(x0, .inr (0, [.ref t1, .ref g1, .ref w4, .ref u1, .int 0, .int 0, .int 0])), (t1, .inr (1, iX1 (some r1.1) (some r1.2.1) (some r1.2.2.1) (some r1.2.2.2))), (r1.1, row0 cI 30), (r1.2.1, row0 cI 30), (r1.2.2.1, row0 cI 10), (r1.2.2.2, row0 cI 10), (g1, .inl (cW, 3, .inr (.inr (.inr (.inr (fW (some w1) (some w2) (some w3))))))), (w1, .inr (2, [.ref t1, .ref r2, .int 0, .int 0])), (r2, row0 cI 30), (w2, .inr (2, [.ref t1, .ref r3, .int 0, .int 0])), (r3, row0 cI 30), (w3, .inr (2, [.ref t1, .ref r4, .int 0, .int 0])), (r4, row0 cI 30), (w4, .inr (2, [.ref t1, .ref r5, .int 0, .int 0])), (r5, row0 cI 30), (u1, .inr (3, [.ref t1, .null, .int 0, .int (-1), .int 0])), (m0, .inr (4, [.int 0, .int 0, .ref v1, .ref v2, .int 0, .int 0, .int 0, .ref v3, .ref v4, .ref v5, .int (-1), .int 0, .int (-1), .int 0, .int 0, .int 0, .int 0])), (v1, row0 cI 30), (v2, row0 cI 30), (v3, row0 cI 120), (v4, row0 cI 4), (v5, row0 cI 4)] H := hP
  have hD : va_D (mm_AL s) [(x0, .inr (0, [.ref t1, .ref g1, .ref w4, .ref u1, .int 0, .int 0, .int 0])), (t1, .inr (1, iX1 (some r1.1) (some r1.2.1) (some r1.2.2.1) (some r1.2.2.2))), (r1.1, row0 cI 30), (r1.2.1, row0 cI 30), (r1.2.2.1, row0 cI 10), (r1.2.2.2, row0 cI 10), (g1, .inl (cW, 3, .inr (.inr (.inr (.inr (fW (some w1) (some w2) (some w3))))))), (w1, .inr (2, [.ref t1, .ref r2, .int 0, .int 0])), (r2, row0 cI 30), (w2, .inr (2, [.ref t1, .ref r3, .int 0, .int 0])), (r3, row0 cI 30), (w3, .inr (2, [.ref t1, .ref r4, .int 0, .int 0])), (r4, row0 cI 30), (w4, .inr (2, [.ref t1, .ref r5, .int 0, .int 0])), (r5, row0 cI 30), (u1, .inr (3, [.ref t1, .null, .int 0, .int (-1), .int 0])), (m0, .inr (4, [.int 0, .int 0, .ref v1, .ref v2, .int 0, .int 0, .int 0, .ref v3, .ref v4, .ref v5, .int (-1), .int 0, .int (-1), .int 0, .int 0, .int 0, .int 0])), (v1, row0 cI 30), (v2, row0 cI 30), (v3, row0 cI 120), (v4, row0 cI 4), (v5, row0 cI 4)] := hD
  refine W.widen (k := 22) (n := 500) (Nat.le_of_ble_eq_true rfl) (Nat.le_of_ble_eq_true rfl) ?_
  refine lv_astore_n (lv' := [(2, .ref m0), (1, .ref x0), (0, .ref b)]) hx hb d15 rfl hl (by decide) rfl (fun ls hl => ?_)
  exact kk cW x0 m0 t1 g1 w1 w2 w3 w4 u1 r1 r2 r3 r4 r5 v1 v2 v3 v4 v5 H locs ls hK hP hD hS hl
end
section
/-! the law: the box is made, the loop is come to -/
theorem dL_start2 : decode code 16 = .ok (.new 14, 3) ∧ decode code 19 = .ok (.dup, 1) ∧ decode code 20 = .ok (.invokespecial 139, 3) ∧ decode code 23 = .ok (.astore_n 3, 1) ∧ decode code 24 = .ok (.iconst 0, 1) ∧ decode code 25 = .ok (.istore 4, 2) := by (repeat' apply And.intro) <;> decide +kernel
set_option maxHeartbeats 8000000 in
set_option maxRecDepth 100000 in
theorem law_s2 {p : Program} {e : Env} {s : State} {m : MethodId} {below : List Frame} {meth : Method} {c : Code} (l : Launch) {b L : Nat} {xs : Nat → Int32} (C0 : lw_At p s m meth c b L xs) {D : va_G} {cI cW : ClassId} {x0 m0 t1 g1 w1 w2 w3 w4 u1 : Nat} {r1 : Nat × Nat × Nat × Nat} {r2 r3 r4 r5 v1 v2 v3 v4 v5 : Nat} {H : Heap} {locs : List Loc} {ls : Array Slot} (hK : va_K D mm_cl [(cI, .int), (cW, .object RX2)] s) (hNw : va_Nw (.methodLinkNest RL 139 yX4_init RL) s) (hP : va_P D mm_cl [(x0, .inr (0, [.ref t1, .ref g1, .ref w4, .ref u1, .int 0, .int 0, .int 0])), (t1, .inr (1, iX1 (some r1.1) (some r1.2.1) (some r1.2.2.1) (some r1.2.2.2))), (r1.1, row0 cI 30), (r1.2.1, row0 cI 30), (r1.2.2.1, row0 cI 10), (r1.2.2.2, row0 cI 10), (g1, .inl (cW, 3, .inr (.inr (.inr (.inr (fW (some w1) (some w2) (some w3))))))), (w1, .inr (2, [.ref t1, .ref r2, .int 0, .int 0])), (r2, row0 cI 30), (w2, .inr (2, [.ref t1, .ref r3, .int 0, .int 0])), (r3, row0 cI 30), (w3, .inr (2, [.ref t1, .ref r4, .int 0, .int 0])), (r4, row0 cI 30), (w4, .inr (2, [.ref t1, .ref r5, .int 0, .int 0])), (r5, row0 cI 30), (u1, .inr (3, [.ref t1, .null, .int 0, .int (-1), .int 0])), (m0, .inr (4, [.int 0, .int 0, .ref v1, .ref v2, .int 0, .int 0, .int 0, .ref v3, .ref v4, .ref v5, .int (-1), .int 0, .int (-1), .int 0, .int 0, .int 0, .int 0])), (v1, row0 cI 30), (v2, row0 cI 30), (v3, row0 cI 120), (v4, row0 cI 4), (v5, row0 cI 4)] H) (hD : va_D (mm_AL s) [(x0, .inr (0, [.ref t1, .ref g1, .ref w4, .ref u1, .int 0, .int 0, .int 0])), (t1, .inr (1, iX1 (some r1.1) (some r1.2.1) (some r1.2.2.1) (some r1.2.2.2))), (r1.1, row0 cI 30), (r1.2.1, row0 cI 30), (r1.2.2.1, row0 cI 10), (r1.2.2.2, row0 cI 10), (g1, .inl (cW, 3, .inr (.inr (.inr (.inr (fW (some w1) (some w2) (some w3))))))), (w1, .inr (2, [.ref t1, .ref r2, .int 0, .int 0])), (r2, row0 cI 30), (w2, .inr (2, [.ref t1, .ref r3, .int 0, .int 0])), (r3, row0 cI 30), (w3, .inr (2, [.ref t1, .ref r4, .int 0, .int 0])), (r4, row0 cI 30), (w4, .inr (2, [.ref t1, .ref r5, .int 0, .int 0])), (r5, row0 cI 30), (u1, .inr (3, [.ref t1, .null, .int 0, .int (-1), .int 0])), (m0, .inr (4, [.int 0, .int 0, .ref v1, .ref v2, .int 0, .int 0, .int 0, .ref v3, .ref v4, .ref v5, .int (-1), .int 0, .int (-1), .int 0, .int 0, .int 0, .int 0])), (v1, row0 cI 30), (v2, row0 cI 30), (v3, row0 cI 120), (v4, row0 cI 4), (v5, row0 cI 4)]) (hS : va_S (mm_AL s) s.heap H locs) (hl : lv_has ls 7 [(2, .ref m0), (1, .ref x0), (0, .ref b)])
    (kk : ∀ (o0 : Nat) (H : Heap) (locs : List Loc) (ls : Array Slot), va_P D mm_cl [(x0, .inr (0, [.ref t1, .ref g1, .ref w4, .ref u1, .int 0, .int 0, .int 0])), (t1, .inr (1, iX1 (some r1.1) (some r1.2.1) (some r1.2.2.1) (some r1.2.2.2))), (r1.1, row0 cI 30), (r1.2.1, row0 cI 30), (r1.2.2.1, row0 cI 10), (r1.2.2.2, row0 cI 10), (g1, .inl (cW, 3, .inr (.inr (.inr (.inr (fW (some w1) (some w2) (some w3))))))), (w1, .inr (2, [.ref t1, .ref r2, .int 0, .int 0])), (r2, row0 cI 30), (w2, .inr (2, [.ref t1, .ref r3, .int 0, .int 0])), (r3, row0 cI 30), (w3, .inr (2, [.ref t1, .ref r4, .int 0, .int 0])), (r4, row0 cI 30), (w4, .inr (2, [.ref t1, .ref r5, .int 0, .int 0])), (r5, row0 cI 30), (u1, .inr (3, [.ref t1, .null, .int 0, .int (-1), .int 0])), (m0, .inr (4, [.int 0, .int 0, .ref v1, .ref v2, .int 0, .int 0, .int 0, .ref v3, .ref v4, .ref v5, .int (-1), .int 0, .int (-1), .int 0, .int 0, .int 0, .int 0])), (v1, row0 cI 30), (v2, row0 cI 30), (v3, row0 cI 120), (v4, row0 cI 4), (v5, row0 cI 4), (o0, .inr (5, [.long 0, .null]))] H → va_D (mm_AL s) [(x0, .inr (0, [.ref t1, .ref g1, .ref w4, .ref u1, .int 0, .int 0, .int 0])), (t1, .inr (1, iX1 (some r1.1) (some r1.2.1) (some r1.2.2.1) (some r1.2.2.2))), (r1.1, row0 cI 30), (r1.2.1, row0 cI 30), (r1.2.2.1, row0 cI 10), (r1.2.2.2, row0 cI 10), (g1, .inl (cW, 3, .inr (.inr (.inr (.inr (fW (some w1) (some w2) (some w3))))))), (w1, .inr (2, [.ref t1, .ref r2, .int 0, .int 0])), (r2, row0 cI 30), (w2, .inr (2, [.ref t1, .ref r3, .int 0, .int 0])), (r3, row0 cI 30), (w3, .inr (2, [.ref t1, .ref r4, .int 0, .int 0])), (r4, row0 cI 30), (w4, .inr (2, [.ref t1, .ref r5, .int 0, .int 0])), (r5, row0 cI 30), (u1, .inr (3, [.ref t1, .null, .int 0, .int (-1), .int 0])), (m0, .inr (4, [.int 0, .int 0, .ref v1, .ref v2, .int 0, .int 0, .int 0, .ref v3, .ref v4, .ref v5, .int (-1), .int 0, .int (-1), .int 0, .int 0, .int 0, .int 0])), (v1, row0 cI 30), (v2, row0 cI 30), (v3, row0 cI 120), (v4, row0 cI 4), (v5, row0 cI 4), (o0, .inr (5, [.long 0, .null]))] → va_S (mm_AL s) s.heap H locs → lv_has ls 7 [(4, .int 0), (3, .ref o0), (2, .ref m0), (1, .ref x0), (0, .ref b)] → W p l e room_1 s m #[Value.ref b] below meth c H locs 23 502 (lw_Z below #[Value.ref b] s) (F0 m 27 ls [])) : W p l e room_1 s m #[Value.ref b] below meth c H locs 22 500 (lw_Z below #[Value.ref b] s) (F0 m 16 ls []) := by
  obtain ⟨hx, hb, hr, hml, hown, hts, hX, hbl, hlocks, hgv⟩ := id C0
  have htT : ∀ w ∈ mm_T, w.before #[Value.ref b] s = true := fun w hw => hts w (List.mem_filter.mp hw).1
  have hA : ∀ q : Nat, s.heap.size ≤ q → mm_AL s q := fun _ h => h
  obtain ⟨d16, d19, d20, d23, d24, d25⟩ := dL_start2
  refine va_new (ci := 5) (fs := [.long 0, .null]) (C := RX4) (T := TX4) (N := 2) hx hb htT (fun w hw => mm_T_cls (RX4, TX4, 2) (List.mem_of_getElem? (i := 5) rfl) w hw) tyX4 tyX4_ok hown (htT _ (mm_t3 59 rfl rfl)) (htT _ (mm_t3 60 rfl rfl)) (htT _ (mm_t1 6 rfl rfl)) hK hP hD hS hA rfl (fun j hj => by rcases (show j = 0 ∨ j = 1 by omega) with rfl | rfl <;> rfl) (Nat.le_of_ble_eq_true rfl) (Nat.le_of_ble_eq_true rfl) d16 (fun o0 H hP hD hS => ?_)
  have hP : va_P D mm_cl [(x0, .inr (0, [.ref t1, .ref g1, .ref w4, .ref u1, .int 0, .int 0, .int 0])), (t1, .inr (1, iX1 (some r1.1) (some r1.2.1) (some r1.2.2.1) (some r1.2.2.2))), (r1.1, row0 cI 30), (r1.2.1, row0 cI 30), (r1.2.2.1, row0 cI 10), (r1.2.2.2, row0 cI 10), (g1, .inl (cW, 3, .inr (.inr (.inr (.inr (fW (some w1) (some w2) (some w3))))))), (w1, .inr (2, [.ref t1, .ref r2, .int 0, .int 0])), (r2, row0 cI 30), (w2, .inr (2, [.ref t1, .ref r3, .int 0, .int 0])), (r3, row0 cI 30), (w3, .inr (2, [.ref t1, .ref r4, .int 0, .int 0])), (r4, row0 cI 30), (w4, .inr (2, [.ref t1, .ref r5, .int 0, .int 0])), (r5, row0 cI 30), (u1, .inr (3, [.ref t1, .null, .int 0, .int (-1), .int 0])), (m0, .inr (4, [.int 0, .int 0, .ref v1, .ref v2, .int 0, .int 0, .int 0, .ref v3, .ref v4, .ref v5, .int (-1), .int 0, .int (-1), .int 0, .int 0, .int 0, .int 0])), (v1, row0 cI 30), (v2, row0 cI 30), (v3, row0 cI 120), (v4, row0 cI 4), (v5, row0 cI 4), (o0, .inr (5, [.long 0, .null]))] H := hP
  have hD : va_D (mm_AL s) [(x0, .inr (0, [.ref t1, .ref g1, .ref w4, .ref u1, .int 0, .int 0, .int 0])), (t1, .inr (1, iX1 (some r1.1) (some r1.2.1) (some r1.2.2.1) (some r1.2.2.2))), (r1.1, row0 cI 30), (r1.2.1, row0 cI 30), (r1.2.2.1, row0 cI 10), (r1.2.2.2, row0 cI 10), (g1, .inl (cW, 3, .inr (.inr (.inr (.inr (fW (some w1) (some w2) (some w3))))))), (w1, .inr (2, [.ref t1, .ref r2, .int 0, .int 0])), (r2, row0 cI 30), (w2, .inr (2, [.ref t1, .ref r3, .int 0, .int 0])), (r3, row0 cI 30), (w3, .inr (2, [.ref t1, .ref r4, .int 0, .int 0])), (r4, row0 cI 30), (w4, .inr (2, [.ref t1, .ref r5, .int 0, .int 0])), (r5, row0 cI 30), (u1, .inr (3, [.ref t1, .null, .int 0, .int (-1), .int 0])), (m0, .inr (4, [.int 0, .int 0, .ref v1, .ref v2, .int 0, .int 0, .int 0, .ref v3, .ref v4, .ref v5, .int (-1), .int 0, .int (-1), .int 0, .int 0, .int 0, .int 0])), (v1, row0 cI 30), (v2, row0 cI 30), (v3, row0 cI 120), (v4, row0 cI 4), (v5, row0 cI 4), (o0, .inr (5, [.long 0, .null]))] := hD
  refine W.widen (k := 23) (n := 502) (Nat.le_of_ble_eq_true rfl) (Nat.le_of_ble_eq_true rfl) ?_
  refine lv_dup hx hb d19 rfl ?_
  have hPc := hP.sub (ws' := [(o0, .inr (5, [.long 0, .null]))]) [22] rfl
  have hDc := hD.sub (ws' := [(o0, .inr (5, [.long 0, .null]))]) [22] (by decide) rfl
  have hKc := hK.sub (tys' := [(cI, .int)]) [0] rfl
  have hFc := va_free (wc := [(o0, .inr (5, [.long 0, .null]))]) hD hS hA [22] rfl
  refine va_callv (va_runIN (host := RL) (As := []) (rest := [.ref o0]) ⟨hx, hb, hml, hown, htT⟩ (c_X4_init l D o0 H.size cI) ⟨va_cnB 0 htT (mm_goodIn (mm_t3 63 rfl rfl) (fun w hw => hw)) rfl rfl rfl hNw (htT _ (mm_t1 6 rfl rfl)) ⟨by decide +kernel, by decide +kernel, by decide +kernel⟩ ⟨Nat.le_of_ble_eq_true rfl, Nat.le_of_ble_eq_true rfl⟩, rfl, htT _ (mm_t3 62 rfl rfl)⟩ ⟨fun a U g mk q => by obtain ⟨q0, q1, qP, qK, qD⟩ := q; exact ⟨q0, q1, qP, va_K.moved (u := U) (U := U.calling g mk a) (Vm.Alike.refl U.vm) qK, qD⟩, fun U hU hW => ⟨rfl, by rw [hU], by rw [hU]; exact hPc, va_K.moved hW.alike hKc, hDc.weaken (fun _ _ _ _ => trivial)⟩⟩ rfl rfl hl.1 rfl (lv_room (Nat.le_of_ble_eq_true rfl)) d20 ⟨Nat.le_of_ble_eq_true rfl, Nat.le_of_ble_eq_true rfl⟩) hS (fun q _ h => hFc q h) hFc (fun u9 t H1 locs ht hvm hw hB hz1 hk1 hS => ?_)
  obtain ⟨hP1, hK1, hD1⟩ := hB
  rw [ht] at hP1
  obtain ⟨hP, hD⟩ := va_join (wr := [(x0, .inr (0, [.ref t1, .ref g1, .ref w4, .ref u1, .int 0, .int 0, .int 0])), (t1, .inr (1, iX1 (some r1.1) (some r1.2.1) (some r1.2.2.1) (some r1.2.2.2))), (r1.1, row0 cI 30), (r1.2.1, row0 cI 30), (r1.2.2.1, row0 cI 10), (r1.2.2.2, row0 cI 10), (g1, .inl (cW, 3, .inr (.inr (.inr (.inr (fW (some w1) (some w2) (some w3))))))), (w1, .inr (2, [.ref t1, .ref r2, .int 0, .int 0])), (r2, row0 cI 30), (w2, .inr (2, [.ref t1, .ref r3, .int 0, .int 0])), (r3, row0 cI 30), (w3, .inr (2, [.ref t1, .ref r4, .int 0, .int 0])), (r4, row0 cI 30), (w4, .inr (2, [.ref t1, .ref r5, .int 0, .int 0])), (r5, row0 cI 30), (u1, .inr (3, [.ref t1, .null, .int 0, .int (-1), .int 0])), (m0, .inr (4, [.int 0, .int 0, .ref v1, .ref v2, .int 0, .int 0, .int 0, .ref v3, .ref v4, .ref v5, .int (-1), .int 0, .int (-1), .int 0, .int 0, .int 0, .int 0])), (v1, row0 cI 30), (v2, row0 cI 30), (v3, row0 cI 120), (v4, row0 cI 4), (v5, row0 cI 4)]) (w1 := [(o0, .inr (5, [.long 0, .null]))]) hP hD [22] [0, 1, 2, 3, 4, 5, 6, 7, 8, 9, 10, 11, 12, 13, 14, 15, 16, 17, 18, 19, 20, 21] rfl rfl (by decide) (by decide) hk1 hFc hP1 hD1
  generalize H1 = H at hP hS ⊢
  have hP : va_P D mm_cl [(x0, .inr (0, [.ref t1, .ref g1, .ref w4, .ref u1, .int 0, .int 0, .int 0])), (t1, .inr (1, iX1 (some r1.1) (some r1.2.1) (some r1.2.2.1) (some r1.2.2.2))), (r1.1, row0 cI 30), (r1.2.1, row0 cI 30), (r1.2.2.1, row0 cI 10), (r1.2.2.2, row0 cI 10), (g1, .inl (cW, 3, .inr (.inr (.inr (.inr (fW (some w1) (some w2) (some w3))))))), (w1, .inr (2, [.ref t1, .ref r2, .int 0, .int 0])), (r2, row0 cI 30), (w2, .inr (2, [.ref t1, .ref r3, .int 0, .int 0])), (r3, row0 cI 30), (w3, .inr (2, [.ref t1, .ref r4, .int 0, .int 0])), (r4, row0 cI 30), (w4, .inr (2, [.ref t1, .ref r5, .int 0, .int 0])), (r5, row0 cI 30), (u1, .inr (3, [.ref t1, .null, .int 0, .int (-1), .int 0])), (m0, .inr (4, [.int 0, .int 0, .ref v1, .ref v2, .int 0, .int 0, .int 0, .ref v3, .ref v4, .ref v5, .int (-1), .int 0, .int (-1), .int 0, .int 0, .int 0, .int 0])), (v1, row0 cI 30), (v2, row0 cI 30), (v3, row0 cI 120), (v4, row0 cI 4), (v5, row0 cI 4), (o0, .inr (5, [.long 0, .null]))] H := hP
  have hD : va_D (mm_AL s) [(x0, .inr (0, [.ref t1, .ref g1, .ref w4, .ref u1, .int 0, .int 0, .int 0])), (t1, .inr (1, iX1 (some r1.1) (some r1.2.1) (some r1.2.2.1) (some r1.2.2.2))), (r1.1, row0 cI 30), (r1.2.1, row0 cI 30), (r1.2.2.1, row0 cI 10), (r1.2.2.2, row0 cI 10), (g1, .inl (cW, 3, .inr (.inr (.inr (.inr (fW (some w1) (some w2) (some w3))))))), (w1, .inr (2, [.ref t1, .ref r2, .int 0, .int 0])), (r2, row0 cI 30), (w2, .inr (2, [.ref t1, .ref r3, .int 0, .int 0])), (r3, row0 cI 30), (w3, .inr (2, [.ref t1, .ref r4, .int 0, .int 0])), (r4, row0 cI 30), (w4, .inr (2, [.ref t1, .ref r5, .int 0, .int 0])), (r5, row0 cI 30), (u1, .inr (3, [.ref t1, .null, .int 0, .int (-1), .int 0])), (m0, .inr (4, [.int 0, .int 0, .ref v1, .ref v2, .int 0, .int 0, .int 0, .ref v3, .ref v4, .ref v5, .int (-1), .int 0, .int (-1), .int 0, .int 0, .int 0, .int 0])), (v1, row0 cI 30), (v2, row0 cI 30), (v3, row0 cI 120), (v4, row0 cI 4), (v5, row0 cI 4), (o0, .inr (5, [.long 0, .null]))] := hD
  refine W.widen (k := 23) (n := 502) (Nat.le_of_ble_eq_true rfl) (Nat.le_of_ble_eq_true rfl) ?_
  refine lv_astore_n (lv' := [(3, .ref o0), (2, .ref m0), (1, .ref x0), (0, .ref b)]) hx hb d23 rfl hl (by decide) rfl (fun ls hl => ?_)
  refine lv_iconst (v := 0) hx hb d24 (by decide) ?_
  refine lv_istore (lv' := [(4, .int 0), (3, .ref o0), (2, .ref m0), (1, .ref x0), (0, .ref b)]) hx hb d25 hl (by decide) rfl (fun ls hl => ?_)
  exact kk o0 H locs ls hP hD hS hl
end
section
/-! the world at the loop: rows of walks agree where they agree within their length -/
theorem arrV_cg {cA : ClassId} {n : Nat} {f g : Nat → Value} (h : ∀ j, j < n → f j = g j) : arrV cA n f = arrV cA n g := by
  unfold arrV
  have e : (Array.ofFn (n := n) fun j => f j.val) = Array.ofFn (n := n) fun j => g j.val := by
    congr 1
    funext j
    exact h j.val j.isLt
  rw [e]
theorem va_P_row {D : va_G} {cl : List vw_C} {ws : va_W} {H : Heap} {k a n : Nat} {cW : ClassId} {f g : Nat → Option Nat} (hP : va_P D cl ws H) (hk : ws[k]? = some (a, .inl (cW, n, .inr (.inr (.inr (.inr f)))))) (h : ∀ j, j < n → f j = g j) : va_P D cl (ws.set k (a, .inl (cW, n, .inr (.inr (.inr (.inr g)))))) H := by
  intro k' q hq
  by_cases e : k' = k
  · subst e
    have hl := (List.getElem?_eq_some_iff.mp hk).1
    rw [List.getElem?_set_self hl] at hq
    cases hq
    have h1 : H[a]? = some (vp_cell cW (n, .inr (.inr (.inr (.inr f))))) := hP k' _ hk
    show H[a]? = some (vp_cell cW (n, .inr (.inr (.inr (.inr g)))))
    rw [h1, vp_cell_q, vp_cell_q, arrV_cg (fun j hj => by rw [h j hj])]
  · rw [List.getElem?_set_ne (Ne.symm e)] at hq
    exact hP k' q hq
end
section
/-! the world at the loop is the small machine's -/
def M0 : mm_M := fun o k => if o = 16 ∧ k = 3 then -1 else if o = 17 ∧ (k = 10 ∨ k = 12) then -1 else 0
def AdL (l : List Nat) : Nat → Nat := fun o => l.getD o 0
theorem ws0_1 {cI cB cW : ClassId} {x0 o0 z24 z25 z28 z29 m0 t1 g1 w1 w2 w3 w4 u1 : Nat} {r1 : Nat × Nat × Nat × Nat} {r2 r3 r4 r5 v1 v2 v3 v4 v5 : Nat} : ((mm_ad (AdL [0, x0, t1, r1.1, r1.2.1, r1.2.2.1, r1.2.2.2, g1, w1, r2, w2, r3, w3, r4, w4, r5, u1, m0, v1, v2, v3, v4, v5, o0, z24, z25, 0, 0, z28, z29]) 1, mm_el (cI, cB, cW) (AdL [0, x0, t1, r1.1, r1.2.1, r1.2.2.1, r1.2.2.2, g1, w1, r2, w2, r3, w3, r4, w4, r5, u1, m0, v1, v2, v3, v4, v5, o0, z24, z25, 0, 0, z28, z29]) M0 1) : Nat × va_E) = (x0, .inr (0, [.ref t1, .ref g1, .ref w4, .ref u1, .int 0, .int 0, .int 0])) := rfl
theorem ws0_2 {cI cB cW : ClassId} {x0 o0 z24 z25 z28 z29 m0 t1 g1 w1 w2 w3 w4 u1 : Nat} {r1 : Nat × Nat × Nat × Nat} {r2 r3 r4 r5 v1 v2 v3 v4 v5 : Nat} : ((mm_ad (AdL [0, x0, t1, r1.1, r1.2.1, r1.2.2.1, r1.2.2.2, g1, w1, r2, w2, r3, w3, r4, w4, r5, u1, m0, v1, v2, v3, v4, v5, o0, z24, z25, 0, 0, z28, z29]) 2, mm_el (cI, cB, cW) (AdL [0, x0, t1, r1.1, r1.2.1, r1.2.2.1, r1.2.2.2, g1, w1, r2, w2, r3, w3, r4, w4, r5, u1, m0, v1, v2, v3, v4, v5, o0, z24, z25, 0, 0, z28, z29]) M0 2) : Nat × va_E) = (t1, .inr (1, iX1 (some r1.1) (some r1.2.1) (some r1.2.2.1) (some r1.2.2.2))) := rfl
theorem ws0_3 {cI cB cW : ClassId} {x0 o0 z24 z25 z28 z29 m0 t1 g1 w1 w2 w3 w4 u1 : Nat} {r1 : Nat × Nat × Nat × Nat} {r2 r3 r4 r5 v1 v2 v3 v4 v5 : Nat} : ((mm_ad (AdL [0, x0, t1, r1.1, r1.2.1, r1.2.2.1, r1.2.2.2, g1, w1, r2, w2, r3, w3, r4, w4, r5, u1, m0, v1, v2, v3, v4, v5, o0, z24, z25, 0, 0, z28, z29]) 3, mm_el (cI, cB, cW) (AdL [0, x0, t1, r1.1, r1.2.1, r1.2.2.1, r1.2.2.2, g1, w1, r2, w2, r3, w3, r4, w4, r5, u1, m0, v1, v2, v3, v4, v5, o0, z24, z25, 0, 0, z28, z29]) M0 3) : Nat × va_E) = (r1.1, row0 cI 30) := rfl
theorem ws0_4 {cI cB cW : ClassId} {x0 o0 z24 z25 z28 z29 m0 t1 g1 w1 w2 w3 w4 u1 : Nat} {r1 : Nat × Nat × Nat × Nat} {r2 r3 r4 r5 v1 v2 v3 v4 v5 : Nat} : ((mm_ad (AdL [0, x0, t1, r1.1, r1.2.1, r1.2.2.1, r1.2.2.2, g1, w1, r2, w2, r3, w3, r4, w4, r5, u1, m0, v1, v2, v3, v4, v5, o0, z24, z25, 0, 0, z28, z29]) 4, mm_el (cI, cB, cW) (AdL [0, x0, t1, r1.1, r1.2.1, r1.2.2.1, r1.2.2.2, g1, w1, r2, w2, r3, w3, r4, w4, r5, u1, m0, v1, v2, v3, v4, v5, o0, z24, z25, 0, 0, z28, z29]) M0 4) : Nat × va_E) = (r1.2.1, row0 cI 30) := rfl
theorem ws0_5 {cI cB cW : ClassId} {x0 o0 z24 z25 z28 z29 m0 t1 g1 w1 w2 w3 w4 u1 : Nat} {r1 : Nat × Nat × Nat × Nat} {r2 r3 r4 r5 v1 v2 v3 v4 v5 : Nat} : ((mm_ad (AdL [0, x0, t1, r1.1, r1.2.1, r1.2.2.1, r1.2.2.2, g1, w1, r2, w2, r3, w3, r4, w4, r5, u1, m0, v1, v2, v3, v4, v5, o0, z24, z25, 0, 0, z28, z29]) 5, mm_el (cI, cB, cW) (AdL [0, x0, t1, r1.1, r1.2.1, r1.2.2.1, r1.2.2.2, g1, w1, r2, w2, r3, w3, r4, w4, r5, u1, m0, v1, v2, v3, v4, v5, o0, z24, z25, 0, 0, z28, z29]) M0 5) : Nat × va_E) = (r1.2.2.1, row0 cI 10) := rfl
theorem ws0_6 {cI cB cW : ClassId} {x0 o0 z24 z25 z28 z29 m0 t1 g1 w1 w2 w3 w4 u1 : Nat} {r1 : Nat × Nat × Nat × Nat} {r2 r3 r4 r5 v1 v2 v3 v4 v5 : Nat} : ((mm_ad (AdL [0, x0, t1, r1.1, r1.2.1, r1.2.2.1, r1.2.2.2, g1, w1, r2, w2, r3, w3, r4, w4, r5, u1, m0, v1, v2, v3, v4, v5, o0, z24, z25, 0, 0, z28, z29]) 6, mm_el (cI, cB, cW) (AdL [0, x0, t1, r1.1, r1.2.1, r1.2.2.1, r1.2.2.2, g1, w1, r2, w2, r3, w3, r4, w4, r5, u1, m0, v1, v2, v3, v4, v5, o0, z24, z25, 0, 0, z28, z29]) M0 6) : Nat × va_E) = (r1.2.2.2, row0 cI 10) := rfl
theorem ws0_7 {cI cB cW : ClassId} {x0 o0 z24 z25 z28 z29 m0 t1 g1 w1 w2 w3 w4 u1 : Nat} {r1 : Nat × Nat × Nat × Nat} {r2 r3 r4 r5 v1 v2 v3 v4 v5 : Nat} : ((mm_ad (AdL [0, x0, t1, r1.1, r1.2.1, r1.2.2.1, r1.2.2.2, g1, w1, r2, w2, r3, w3, r4, w4, r5, u1, m0, v1, v2, v3, v4, v5, o0, z24, z25, 0, 0, z28, z29]) 7, mm_el (cI, cB, cW) (AdL [0, x0, t1, r1.1, r1.2.1, r1.2.2.1, r1.2.2.2, g1, w1, r2, w2, r3, w3, r4, w4, r5, u1, m0, v1, v2, v3, v4, v5, o0, z24, z25, 0, 0, z28, z29]) M0 7) : Nat × va_E) = (g1, .inl (cW, 3, .inr (.inr (.inr (.inr (fun j => some (mm_ad (AdL [0, x0, t1, r1.1, r1.2.1, r1.2.2.1, r1.2.2.2, g1, w1, r2, w2, r3, w3, r4, w4, r5, u1, m0, v1, v2, v3, v4, v5, o0, z24, z25, 0, 0, z28, z29]) (8 + 2 * j)))))))) := rfl
theorem ws0_8 {cI cB cW : ClassId} {x0 o0 z24 z25 z28 z29 m0 t1 g1 w1 w2 w3 w4 u1 : Nat} {r1 : Nat × Nat × Nat × Nat} {r2 r3 r4 r5 v1 v2 v3 v4 v5 : Nat} : ((mm_ad (AdL [0, x0, t1, r1.1, r1.2.1, r1.2.2.1, r1.2.2.2, g1, w1, r2, w2, r3, w3, r4, w4, r5, u1, m0, v1, v2, v3, v4, v5, o0, z24, z25, 0, 0, z28, z29]) 8, mm_el (cI, cB, cW) (AdL [0, x0, t1, r1.1, r1.2.1, r1.2.2.1, r1.2.2.2, g1, w1, r2, w2, r3, w3, r4, w4, r5, u1, m0, v1, v2, v3, v4, v5, o0, z24, z25, 0, 0, z28, z29]) M0 8) : Nat × va_E) = (w1, .inr (2, [.ref t1, .ref r2, .int 0, .int 0])) := rfl
theorem ws0_9 {cI cB cW : ClassId} {x0 o0 z24 z25 z28 z29 m0 t1 g1 w1 w2 w3 w4 u1 : Nat} {r1 : Nat × Nat × Nat × Nat} {r2 r3 r4 r5 v1 v2 v3 v4 v5 : Nat} : ((mm_ad (AdL [0, x0, t1, r1.1, r1.2.1, r1.2.2.1, r1.2.2.2, g1, w1, r2, w2, r3, w3, r4, w4, r5, u1, m0, v1, v2, v3, v4, v5, o0, z24, z25, 0, 0, z28, z29]) 9, mm_el (cI, cB, cW) (AdL [0, x0, t1, r1.1, r1.2.1, r1.2.2.1, r1.2.2.2, g1, w1, r2, w2, r3, w3, r4, w4, r5, u1, m0, v1, v2, v3, v4, v5, o0, z24, z25, 0, 0, z28, z29]) M0 9) : Nat × va_E) = (r2, row0 cI 30) := rfl
theorem ws0_10 {cI cB cW : ClassId} {x0 o0 z24 z25 z28 z29 m0 t1 g1 w1 w2 w3 w4 u1 : Nat} {r1 : Nat × Nat × Nat × Nat} {r2 r3 r4 r5 v1 v2 v3 v4 v5 : Nat} : ((mm_ad (AdL [0, x0, t1, r1.1, r1.2.1, r1.2.2.1, r1.2.2.2, g1, w1, r2, w2, r3, w3, r4, w4, r5, u1, m0, v1, v2, v3, v4, v5, o0, z24, z25, 0, 0, z28, z29]) 10, mm_el (cI, cB, cW) (AdL [0, x0, t1, r1.1, r1.2.1, r1.2.2.1, r1.2.2.2, g1, w1, r2, w2, r3, w3, r4, w4, r5, u1, m0, v1, v2, v3, v4, v5, o0, z24, z25, 0, 0, z28, z29]) M0 10) : Nat × va_E) = (w2, .inr (2, [.ref t1, .ref r3, .int 0, .int 0])) := rfl
theorem ws0_11 {cI cB cW : ClassId} {x0 o0 z24 z25 z28 z29 m0 t1 g1 w1 w2 w3 w4 u1 : Nat} {r1 : Nat × Nat × Nat × Nat} {r2 r3 r4 r5 v1 v2 v3 v4 v5 : Nat} : ((mm_ad (AdL [0, x0, t1, r1.1, r1.2.1, r1.2.2.1, r1.2.2.2, g1, w1, r2, w2, r3, w3, r4, w4, r5, u1, m0, v1, v2, v3, v4, v5, o0, z24, z25, 0, 0, z28, z29]) 11, mm_el (cI, cB, cW) (AdL [0, x0, t1, r1.1, r1.2.1, r1.2.2.1, r1.2.2.2, g1, w1, r2, w2, r3, w3, r4, w4, r5, u1, m0, v1, v2, v3, v4, v5, o0, z24, z25, 0, 0, z28, z29]) M0 11) : Nat × va_E) = (r3, row0 cI 30) := rfl
theorem ws0_12 {cI cB cW : ClassId} {x0 o0 z24 z25 z28 z29 m0 t1 g1 w1 w2 w3 w4 u1 : Nat} {r1 : Nat × Nat × Nat × Nat} {r2 r3 r4 r5 v1 v2 v3 v4 v5 : Nat} : ((mm_ad (AdL [0, x0, t1, r1.1, r1.2.1, r1.2.2.1, r1.2.2.2, g1, w1, r2, w2, r3, w3, r4, w4, r5, u1, m0, v1, v2, v3, v4, v5, o0, z24, z25, 0, 0, z28, z29]) 12, mm_el (cI, cB, cW) (AdL [0, x0, t1, r1.1, r1.2.1, r1.2.2.1, r1.2.2.2, g1, w1, r2, w2, r3, w3, r4, w4, r5, u1, m0, v1, v2, v3, v4, v5, o0, z24, z25, 0, 0, z28, z29]) M0 12) : Nat × va_E) = (w3, .inr (2, [.ref t1, .ref r4, .int 0, .int 0])) := rfl
theorem ws0_13 {cI cB cW : ClassId} {x0 o0 z24 z25 z28 z29 m0 t1 g1 w1 w2 w3 w4 u1 : Nat} {r1 : Nat × Nat × Nat × Nat} {r2 r3 r4 r5 v1 v2 v3 v4 v5 : Nat} : ((mm_ad (AdL [0, x0, t1, r1.1, r1.2.1, r1.2.2.1, r1.2.2.2, g1, w1, r2, w2, r3, w3, r4, w4, r5, u1, m0, v1, v2, v3, v4, v5, o0, z24, z25, 0, 0, z28, z29]) 13, mm_el (cI, cB, cW) (AdL [0, x0, t1, r1.1, r1.2.1, r1.2.2.1, r1.2.2.2, g1, w1, r2, w2, r3, w3, r4, w4, r5, u1, m0, v1, v2, v3, v4, v5, o0, z24, z25, 0, 0, z28, z29]) M0 13) : Nat × va_E) = (r4, row0 cI 30) := rfl
theorem ws0_14 {cI cB cW : ClassId} {x0 o0 z24 z25 z28 z29 m0 t1 g1 w1 w2 w3 w4 u1 : Nat} {r1 : Nat × Nat × Nat × Nat} {r2 r3 r4 r5 v1 v2 v3 v4 v5 : Nat} : ((mm_ad (AdL [0, x0, t1, r1.1, r1.2.1, r1.2.2.1, r1.2.2.2, g1, w1, r2, w2, r3, w3, r4, w4, r5, u1, m0, v1, v2, v3, v4, v5, o0, z24, z25, 0, 0, z28, z29]) 14, mm_el (cI, cB, cW) (AdL [0, x0, t1, r1.1, r1.2.1, r1.2.2.1, r1.2.2.2, g1, w1, r2, w2, r3, w3, r4, w4, r5, u1, m0, v1, v2, v3, v4, v5, o0, z24, z25, 0, 0, z28, z29]) M0 14) : Nat × va_E) = (w4, .inr (2, [.ref t1, .ref r5, .int 0, .int 0])) := rfl
theorem ws0_15 {cI cB cW : ClassId} {x0 o0 z24 z25 z28 z29 m0 t1 g1 w1 w2 w3 w4 u1 : Nat} {r1 : Nat × Nat × Nat × Nat} {r2 r3 r4 r5 v1 v2 v3 v4 v5 : Nat} : ((mm_ad (AdL [0, x0, t1, r1.1, r1.2.1, r1.2.2.1, r1.2.2.2, g1, w1, r2, w2, r3, w3, r4, w4, r5, u1, m0, v1, v2, v3, v4, v5, o0, z24, z25, 0, 0, z28, z29]) 15, mm_el (cI, cB, cW) (AdL [0, x0, t1, r1.1, r1.2.1, r1.2.2.1, r1.2.2.2, g1, w1, r2, w2, r3, w3, r4, w4, r5, u1, m0, v1, v2, v3, v4, v5, o0, z24, z25, 0, 0, z28, z29]) M0 15) : Nat × va_E) = (r5, row0 cI 30) := rfl
theorem ws0_16 {cI cB cW : ClassId} {x0 o0 z24 z25 z28 z29 m0 t1 g1 w1 w2 w3 w4 u1 : Nat} {r1 : Nat × Nat × Nat × Nat} {r2 r3 r4 r5 v1 v2 v3 v4 v5 : Nat} : ((mm_ad (AdL [0, x0, t1, r1.1, r1.2.1, r1.2.2.1, r1.2.2.2, g1, w1, r2, w2, r3, w3, r4, w4, r5, u1, m0, v1, v2, v3, v4, v5, o0, z24, z25, 0, 0, z28, z29]) 16, mm_el (cI, cB, cW) (AdL [0, x0, t1, r1.1, r1.2.1, r1.2.2.1, r1.2.2.2, g1, w1, r2, w2, r3, w3, r4, w4, r5, u1, m0, v1, v2, v3, v4, v5, o0, z24, z25, 0, 0, z28, z29]) M0 16) : Nat × va_E) = (u1, .inr (3, [.ref t1, .null, .int 0, .int (-1), .int 0])) := rfl
theorem ws0_17 {cI cB cW : ClassId} {x0 o0 z24 z25 z28 z29 m0 t1 g1 w1 w2 w3 w4 u1 : Nat} {r1 : Nat × Nat × Nat × Nat} {r2 r3 r4 r5 v1 v2 v3 v4 v5 : Nat} : ((mm_ad (AdL [0, x0, t1, r1.1, r1.2.1, r1.2.2.1, r1.2.2.2, g1, w1, r2, w2, r3, w3, r4, w4, r5, u1, m0, v1, v2, v3, v4, v5, o0, z24, z25, 0, 0, z28, z29]) 17, mm_el (cI, cB, cW) (AdL [0, x0, t1, r1.1, r1.2.1, r1.2.2.1, r1.2.2.2, g1, w1, r2, w2, r3, w3, r4, w4, r5, u1, m0, v1, v2, v3, v4, v5, o0, z24, z25, 0, 0, z28, z29]) M0 17) : Nat × va_E) = (m0, .inr (4, [.int 0, .int 0, .ref v1, .ref v2, .int 0, .int 0, .int 0, .ref v3, .ref v4, .ref v5, .int (-1), .int 0, .int (-1), .int 0, .int 0, .int 0, .int 0])) := by
  refine Prod.ext rfl ?_
  rw [mm_el_obj (rc := 14) rfl (by decide)]
  simp [mm_fs, mm_ft, mm_fv, M0, mm_cc, mm_rn, mm_ad, AdL, va_rf]
  try decide
theorem ws0_18 {cI cB cW : ClassId} {x0 o0 z24 z25 z28 z29 m0 t1 g1 w1 w2 w3 w4 u1 : Nat} {r1 : Nat × Nat × Nat × Nat} {r2 r3 r4 r5 v1 v2 v3 v4 v5 : Nat} : ((mm_ad (AdL [0, x0, t1, r1.1, r1.2.1, r1.2.2.1, r1.2.2.2, g1, w1, r2, w2, r3, w3, r4, w4, r5, u1, m0, v1, v2, v3, v4, v5, o0, z24, z25, 0, 0, z28, z29]) 18, mm_el (cI, cB, cW) (AdL [0, x0, t1, r1.1, r1.2.1, r1.2.2.1, r1.2.2.2, g1, w1, r2, w2, r3, w3, r4, w4, r5, u1, m0, v1, v2, v3, v4, v5, o0, z24, z25, 0, 0, z28, z29]) M0 18) : Nat × va_E) = (v1, row0 cI 30) := rfl
theorem ws0_19 {cI cB cW : ClassId} {x0 o0 z24 z25 z28 z29 m0 t1 g1 w1 w2 w3 w4 u1 : Nat} {r1 : Nat × Nat × Nat × Nat} {r2 r3 r4 r5 v1 v2 v3 v4 v5 : Nat} : ((mm_ad (AdL [0, x0, t1, r1.1, r1.2.1, r1.2.2.1, r1.2.2.2, g1, w1, r2, w2, r3, w3, r4, w4, r5, u1, m0, v1, v2, v3, v4, v5, o0, z24, z25, 0, 0, z28, z29]) 19, mm_el (cI, cB, cW) (AdL [0, x0, t1, r1.1, r1.2.1, r1.2.2.1, r1.2.2.2, g1, w1, r2, w2, r3, w3, r4, w4, r5, u1, m0, v1, v2, v3, v4, v5, o0, z24, z25, 0, 0, z28, z29]) M0 19) : Nat × va_E) = (v2, row0 cI 30) := rfl
theorem ws0_20 {cI cB cW : ClassId} {x0 o0 z24 z25 z28 z29 m0 t1 g1 w1 w2 w3 w4 u1 : Nat} {r1 : Nat × Nat × Nat × Nat} {r2 r3 r4 r5 v1 v2 v3 v4 v5 : Nat} : ((mm_ad (AdL [0, x0, t1, r1.1, r1.2.1, r1.2.2.1, r1.2.2.2, g1, w1, r2, w2, r3, w3, r4, w4, r5, u1, m0, v1, v2, v3, v4, v5, o0, z24, z25, 0, 0, z28, z29]) 20, mm_el (cI, cB, cW) (AdL [0, x0, t1, r1.1, r1.2.1, r1.2.2.1, r1.2.2.2, g1, w1, r2, w2, r3, w3, r4, w4, r5, u1, m0, v1, v2, v3, v4, v5, o0, z24, z25, 0, 0, z28, z29]) M0 20) : Nat × va_E) = (v3, row0 cI 120) := rfl
theorem ws0_21 {cI cB cW : ClassId} {x0 o0 z24 z25 z28 z29 m0 t1 g1 w1 w2 w3 w4 u1 : Nat} {r1 : Nat × Nat × Nat × Nat} {r2 r3 r4 r5 v1 v2 v3 v4 v5 : Nat} : ((mm_ad (AdL [0, x0, t1, r1.1, r1.2.1, r1.2.2.1, r1.2.2.2, g1, w1, r2, w2, r3, w3, r4, w4, r5, u1, m0, v1, v2, v3, v4, v5, o0, z24, z25, 0, 0, z28, z29]) 21, mm_el (cI, cB, cW) (AdL [0, x0, t1, r1.1, r1.2.1, r1.2.2.1, r1.2.2.2, g1, w1, r2, w2, r3, w3, r4, w4, r5, u1, m0, v1, v2, v3, v4, v5, o0, z24, z25, 0, 0, z28, z29]) M0 21) : Nat × va_E) = (v4, row0 cI 4) := rfl
theorem ws0_22 {cI cB cW : ClassId} {x0 o0 z24 z25 z28 z29 m0 t1 g1 w1 w2 w3 w4 u1 : Nat} {r1 : Nat × Nat × Nat × Nat} {r2 r3 r4 r5 v1 v2 v3 v4 v5 : Nat} : ((mm_ad (AdL [0, x0, t1, r1.1, r1.2.1, r1.2.2.1, r1.2.2.2, g1, w1, r2, w2, r3, w3, r4, w4, r5, u1, m0, v1, v2, v3, v4, v5, o0, z24, z25, 0, 0, z28, z29]) 22, mm_el (cI, cB, cW) (AdL [0, x0, t1, r1.1, r1.2.1, r1.2.2.1, r1.2.2.2, g1, w1, r2, w2, r3, w3, r4, w4, r5, u1, m0, v1, v2, v3, v4, v5, o0, z24, z25, 0, 0, z28, z29]) M0 22) : Nat × va_E) = (v5, row0 cI 4) := rfl
theorem ws0_23 {cI cB cW : ClassId} {x0 o0 z24 z25 z28 z29 m0 t1 g1 w1 w2 w3 w4 u1 : Nat} {r1 : Nat × Nat × Nat × Nat} {r2 r3 r4 r5 v1 v2 v3 v4 v5 : Nat} : ((mm_ad (AdL [0, x0, t1, r1.1, r1.2.1, r1.2.2.1, r1.2.2.2, g1, w1, r2, w2, r3, w3, r4, w4, r5, u1, m0, v1, v2, v3, v4, v5, o0, z24, z25, 0, 0, z28, z29]) 23, mm_el (cI, cB, cW) (AdL [0, x0, t1, r1.1, r1.2.1, r1.2.2.1, r1.2.2.2, g1, w1, r2, w2, r3, w3, r4, w4, r5, u1, m0, v1, v2, v3, v4, v5, o0, z24, z25, 0, 0, z28, z29]) M0 23) : Nat × va_E) = (o0, .inr (5, [.long 0, .null])) := rfl
theorem ws0 {cI cB cW : ClassId} {x0 o0 z24 z25 z28 z29 m0 t1 g1 w1 w2 w3 w4 u1 : Nat} {r1 : Nat × Nat × Nat × Nat} {r2 r3 r4 r5 v1 v2 v3 v4 v5 : Nat} : mm_ws (cI, cB, cW) (AdL [0, x0, t1, r1.1, r1.2.1, r1.2.2.1, r1.2.2.2, g1, w1, r2, w2, r3, w3, r4, w4, r5, u1, m0, v1, v2, v3, v4, v5, o0, z24, z25, 0, 0, z28, z29]) M0 [] = [(x0, .inr (0, [.ref t1, .ref g1, .ref w4, .ref u1, .int 0, .int 0, .int 0])), (t1, .inr (1, iX1 (some r1.1) (some r1.2.1) (some r1.2.2.1) (some r1.2.2.2))), (r1.1, row0 cI 30), (r1.2.1, row0 cI 30), (r1.2.2.1, row0 cI 10), (r1.2.2.2, row0 cI 10), (g1, .inl (cW, 3, .inr (.inr (.inr (.inr (fun j => some (mm_ad (AdL [0, x0, t1, r1.1, r1.2.1, r1.2.2.1, r1.2.2.2, g1, w1, r2, w2, r3, w3, r4, w4, r5, u1, m0, v1, v2, v3, v4, v5, o0, z24, z25, 0, 0, z28, z29]) (8 + 2 * j)))))))), (w1, .inr (2, [.ref t1, .ref r2, .int 0, .int 0])), (r2, row0 cI 30), (w2, .inr (2, [.ref t1, .ref r3, .int 0, .int 0])), (r3, row0 cI 30), (w3, .inr (2, [.ref t1, .ref r4, .int 0, .int 0])), (r4, row0 cI 30), (w4, .inr (2, [.ref t1, .ref r5, .int 0, .int 0])), (r5, row0 cI 30), (u1, .inr (3, [.ref t1, .null, .int 0, .int (-1), .int 0])), (m0, .inr (4, [.int 0, .int 0, .ref v1, .ref v2, .int 0, .int 0, .int 0, .ref v3, .ref v4, .ref v5, .int (-1), .int 0, .int (-1), .int 0, .int 0, .int 0, .int 0])), (v1, row0 cI 30), (v2, row0 cI 30), (v3, row0 cI 120), (v4, row0 cI 4), (v5, row0 cI 4), (o0, .inr (5, [.long 0, .null]))] := by
  have e : mm_ws (cI, cB, cW) (AdL [0, x0, t1, r1.1, r1.2.1, r1.2.2.1, r1.2.2.2, g1, w1, r2, w2, r3, w3, r4, w4, r5, u1, m0, v1, v2, v3, v4, v5, o0, z24, z25, 0, 0, z28, z29]) M0 [] = mm_st.map (fun o => (mm_ad (AdL [0, x0, t1, r1.1, r1.2.1, r1.2.2.1, r1.2.2.2, g1, w1, r2, w2, r3, w3, r4, w4, r5, u1, m0, v1, v2, v3, v4, v5, o0, z24, z25, 0, 0, z28, z29]) o, mm_el (cI, cB, cW) (AdL [0, x0, t1, r1.1, r1.2.1, r1.2.2.1, r1.2.2.2, g1, w1, r2, w2, r3, w3, r4, w4, r5, u1, m0, v1, v2, v3, v4, v5, o0, z24, z25, 0, 0, z28, z29]) M0 o)) := by
    unfold mm_ws mm_ids
    rw [List.append_nil]
  rw [e]
  simp only [mm_st, List.map_cons, List.map_nil]
  rw [ws0_1, ws0_2, ws0_3, ws0_4, ws0_5, ws0_6, ws0_7, ws0_8, ws0_9, ws0_10, ws0_11, ws0_12, ws0_13, ws0_14, ws0_15, ws0_16, ws0_17, ws0_18, ws0_19, ws0_20, ws0_21, ws0_22, ws0_23]
end
section
/-! what the start gives: the classes, the rows, the texts, the words -/
theorem wA_z {M : mm_M} (h2 : ∀ j, M 2 j = 0) (h3 : ∀ j, M 3 j = 0) (h4 : ∀ j, M 4 j = 0) (hw : ∀ w, isW3 w → ∀ j, M w j = 0) (h1 : M 16 1 = 0) (h5 : M 16 4 = 0) : wA M := by
  refine ⟨⟨by rw [h2]; omega, fun i _ => by rw [h3, h4]; omega, Or.inl (h2 5), by rw [h2]; omega, by rw [h2]; omega⟩, fun w hw1 => ?_, Or.inl h1, Or.inl h5, fun h => absurd h1 h⟩
  refine ⟨⟨by rw [hw w hw1]; omega, by rw [hw w hw1]; omega, fun i hi => ?_⟩, fun i j hi _ _ => ?_⟩ <;> (rw [hw w hw1] at hi; omega)
theorem LI0 : LI 0 M0 := by
  refine ⟨wA_z (fun j => by simp [M0]) (fun j => by simp [M0]) (fun j => by simp [M0]) (fun w h j => ?_) (by simp [M0]) (by simp [M0]), ⟨wA_z (fun j => ?_) (fun j => by simp [vX, M0]) (fun j => by simp [vX, M0]) (fun w h j => ?_) (by simp [vX, vXc, M0]) (by simp [vX, vXc, M0]), by simp [M0]⟩, ⟨⟨⟨?_, ?_, ?_, ?_, fun i hi => ?_⟩, fun w h => ⟨?_, ?_, fun i hi => ?_⟩, ⟨?_, fun h => ?_⟩, ?_, ?_, ?_⟩, WI_0 (by simp [M0])⟩, by simp [M0], by simp [M0]⟩
  · rcases h with rfl | rfl | rfl <;> simp [M0]
  · simp [vX, vX2, M0]
  · rcases h with rfl | rfl | rfl <;> simp [vX, vXw, M0]
  · simp [vX, vX2, M0]
  · simp [vX, vX2, M0]
  · simp [vX, vX2, M0]
  · simp [vX, vX2, M0]
  · simp [M0] at hi
    omega
  · rcases h with rfl | rfl | rfl <;> simp [vX, vXw, M0]
  · rcases h with rfl | rfl | rfl <;> simp [vX, vXw, M0]
  · rcases h with rfl | rfl | rfl <;> (simp [M0] at hi; omega)
  · simp [vX, vXc, M0]
  · simp [M0] at h
  · simp [vX, vX1, M0]
  · simp [vX, vX1, M0]
  · simp [vX, vX1, M0]
/-- words of the tables, by their places -/
theorem st_u1 {w : Jvm.Cond} (i : Nat) (h : tables_1_1[i]? = some w) : w ∈ lw_tbl := List.mem_append_right _ (show w ∈ tables_1 from List.mem_append_left _ (List.mem_of_getElem? h))
theorem st_u2 {w : Jvm.Cond} (i : Nat) (h : tables_1_2[i]? = some w) : w ∈ lw_tbl := List.mem_append_right _ (show w ∈ tables_1 from List.mem_append_right _ (List.mem_append_left _ (List.mem_of_getElem? h)))
theorem st_u3 {w : Jvm.Cond} (i : Nat) (h : tables_1_3[i]? = some w) : w ∈ lw_tbl := List.mem_append_right _ (show w ∈ tables_1 from List.mem_append_right _ (List.mem_append_right _ (List.mem_append_left _ (List.mem_of_getElem? h))))
theorem st_u4 {w : Jvm.Cond} (i : Nat) (h : tables_1_4[i]? = some w) : w ∈ lw_tbl := List.mem_append_right _ (show w ∈ tables_1 from List.mem_append_right _ (List.mem_append_right _ (List.mem_append_right _ (List.mem_append_left _ (List.mem_of_getElem? h)))))
theorem st_u5 {w : Jvm.Cond} (i : Nat) (h : tables_1_5[i]? = some w) : w ∈ lw_tbl := List.mem_append_right _ (show w ∈ tables_1 from List.mem_append_right _ (List.mem_append_right _ (List.mem_append_right _ (List.mem_append_right _ (List.mem_append_left _ (List.mem_of_getElem? h))))))
theorem st_u6 {w : Jvm.Cond} (i : Nat) (h : tables_1_6[i]? = some w) : w ∈ lw_tbl := List.mem_append_right _ (show w ∈ tables_1 from List.mem_append_right _ (List.mem_append_right _ (List.mem_append_right _ (List.mem_append_right _ (List.mem_append_right _ (List.mem_append_left _ (List.mem_of_getElem? h)))))))
theorem st_u7 {w : Jvm.Cond} (i : Nat) (h : tables_1_7[i]? = some w) : w ∈ lw_tbl := List.mem_append_right _ (show w ∈ tables_1 from List.mem_append_right _ (List.mem_append_right _ (List.mem_append_right _ (List.mem_append_right _ (List.mem_append_right _ (List.mem_append_right _ (List.mem_append_left _ (List.mem_of_getElem? h))))))))
theorem st_u8 {w : Jvm.Cond} (i : Nat) (h : tables_1_8[i]? = some w) : w ∈ lw_tbl := List.mem_append_right _ (show w ∈ tables_1 from List.mem_append_right _ (List.mem_append_right _ (List.mem_append_right _ (List.mem_append_right _ (List.mem_append_right _ (List.mem_append_right _ (List.mem_append_right _ (List.mem_of_getElem? h))))))))
theorem mm_inst : ∀ q ∈ mm_cl, Jvm.Cond.instantiable q.1 q.2.2 ∈ lw_tbl := by
  intro q hq
  simp only [mm_cl, List.mem_cons, List.not_mem_nil, or_false] at hq
  rcases hq with rfl | rfl | rfl | rfl | rfl | rfl | rfl | rfl
  · exact st_u1 24 rfl
  · exact st_u1 32 rfl
  · exact st_u1 65 rfl
  · exact st_u1 84 rfl
  · exact st_u6 42 rfl
  · exact st_u3 60 rfl
  · exact st_u4 189 rfl
  · exact st_u5 118 rfl
theorem st_K {args : Array Value} {s : State} (hts : ∀ w ∈ lw_tbl, w.before args s = true) : ∃ D : va_G, ∀ (c : Nat) (q : vw_C), mm_cl[c]? = some q → u_Kn s q.1 q.2.1 q.2.2 (D.1 c) (D.2 c) := by
  have h : ∀ c : Nat, ∃ x : ClassId × (Nat → Nat), ∀ q : vw_C, mm_cl[c]? = some q → u_Kn s q.1 q.2.1 q.2.2 x.1 x.2 := by
    intro c
    cases hq : mm_cl[c]? with
    | none => exact ⟨(0, fun _ => 0), fun q h => by cases h⟩
    | some q =>
      have hm := List.mem_of_getElem? hq
      obtain ⟨cC, iS, hk⟩ := u_known (ws := mm_T) (fun w hw => hts w (List.mem_filter.mp hw).1) (mm_T_cls q hm) (hts _ (mm_inst q hm))
      refine ⟨(cC, iS), fun q' h => ?_⟩
      cases h
      exact hk
  obtain ⟨f, hf⟩ := Classical.axiomOfChoice h
  exact ⟨(fun c => (f c).1, fun c => (f c).2), fun c q hq => hf c q hq⟩
theorem st_row {args : Array Value} {s : State} {ty : FieldType} (h : (Jvm.Cond.arrayClass ty).before args s = true) : ∃ cA : ClassId, ArrOfT s cA ty ∧ s.vm.findClass ("[" ++ ty.toString) = some cA := by
  obtain ⟨c, k, comp, h1, h2, h3⟩ := Cond.arrayClass_spec h
  exact ⟨c, fun n z => ⟨fun k h => (by cases h), k, h2, comp, h3⟩, h1⟩
theorem st_str {args : Array Value} {s : State} {own tx : String} {k : Nat} (h1 : (Jvm.Cond.stringRef own k tx).before args s = true) (h2 : (Jvm.Cond.exactly (.string own k) "java/lang/String").before args s = true) : ∃ sa, vk_R own k tx sa s := by
  obtain ⟨a, c, cA, kA, q1, -⟩ := Cond.exactly_spec (args := args) (first := s) (o := none) (s := s) (idx := []) (t := .string own k) (cls := "java/lang/String") h2
  exact ⟨a, vk_R.of h1 q1⟩
def st_n : Jvm.Cond := Jvm.Cond.and given_1 narrow_1
def st_eo (j : Nat) : Jvm.Cond := Jvm.Cond.eq (.elem (.static "java/lang/Integer" "DigitOnes" "[B") (.int (Int32.ofNat j))) (.int (Int32.ofNat (48 + j % 10)))
def st_et (j : Nat) : Jvm.Cond := Jvm.Cond.eq (.elem (.static "java/lang/Integer" "DigitTens" "[B") (.int (Int32.ofNat j))) (.int (Int32.ofNat (48 + j / 10)))
theorem st_digO : ∀ j : Nat, j < 100 → st_eo j ∈ flatC st_n := va_run (f := st_eo) (N := 100) (p := 14) (by decide +kernel)
theorem st_digT : ∀ j : Nat, j < 100 → st_et j ∈ flatC st_n := va_run (f := st_et) (N := 100) (p := 117) (by decide +kernel)
theorem st_dig {args : Array Value} {s : State} {n : String} {A : Nat → Prop} {f : Nat → Int32} (hl : (Jvm.Cond.laysStatic "java/lang/Integer" n "[B").before args s = true) (hini : (Jvm.Cond.initialized "java/lang/Integer").before args s = true) (harr : (Jvm.Cond.arrayOf (.static "java/lang/Integer" n "[B") .byte).before args s = true) (hle : (Jvm.Cond.eq (.length (.static "java/lang/Integer" n "[B")) (.int 100)).before args s = true)
    (hel : ∀ j : Nat, j < 100 → (Jvm.Cond.eq (.elem (.static "java/lang/Integer" n "[B") (.int (Int32.ofNat j))) (.int (f j))).before args s = true) (hA : ∀ a : Nat, a < s.heap.size → ¬ A a) : ∃ z : Nat, va_Z "java/lang/Integer" n "[B" (.ref z) A s s.heap ∧ ∃ f : Nat → Int32, va_T .byte z 100 (fun j => .int (f j)) A s s.heap := by
  obtain ⟨t, ht, hT⟩ := va_Tof (N := 100) (f := fun j => .int (f j)) (A := A) (by decide) harr (va_eqt hle) (fun j hj => va_eqt (hel j hj)) hA
  exact ⟨t, va_Zof hl hini ht hA, f, hT⟩
theorem st_J {args : Array Value} {s : State} {A : Nat → Prop} (hts : ∀ w ∈ lw_tbl, w.before args s = true) (hs : ∀ c ∈ flatC st_n, c.before args s = true) (hA : ∀ a : Nat, a < s.heap.size → ¬ A a) : ∃ z24 z25 z28 z29 : Nat, ∀ Ad : Nat → Nat, Ad 24 = z24 → Ad 25 = z25 → Ad 28 = z28 → Ad 29 = z29 → mm_J A Ad s := by
  obtain ⟨z24, g1, f1, g2⟩ := st_dig (args := args) (s := s) (n := "DigitOnes") (A := A) (f := fun j => Int32.ofNat (48 + j % 10)) (hts _ (st_u5 93 rfl)) (hts _ (st_u1 22 rfl)) (hs _ (by decide +kernel)) (hs _ (by decide +kernel)) (fun j hj => hs _ (st_digO j hj)) hA
  obtain ⟨z25, g3, f3, g4⟩ := st_dig (args := args) (s := s) (n := "DigitTens") (A := A) (f := fun j => Int32.ofNat (48 + j / 10)) (hts _ (st_u5 95 rfl)) (hts _ (st_u1 22 rfl)) (hs _ (by decide +kernel)) (hs _ (by decide +kernel)) (fun j hj => hs _ (st_digT j hj)) hA
  have g5 : va_Z RXS "COMPACT_STRINGS" "Z" (.int 1) A s s.heap := va_Zof (hts _ (st_u4 198 rfl)) (hts _ (st_u1 14 rfl)) (va_eqi (hs _ (by decide +kernel))) hA
  have g6 := st_str (args := args) (s := s) (own := RX3) (k := 240) (tx := "") (hts _ (st_u4 187 rfl)) (hs _ (by decide +kernel))
  have g7 := st_str (args := args) (s := s) (own := RX5) (k := 216) (tx := "") (hts _ (st_u7 192 rfl)) (hs _ (by decide +kernel))
  have o1 : ∀ i : Nat, i < 1 → i = 0 := fun i h => by omega
  obtain ⟨adK, adV, g8, g9⟩ := vk_Sof (args := args) (s := s) (N := 1) (tm := fun _ => .string RX5 221) (len := [1]) (byt := [[45]]) (A := A) (fun i h => by rw [o1 i h]; decide) (fun i h => hs _ (by decide +kernel)) (fun i h => hs _ (by decide +kernel)) (fun i h => hs _ (by decide +kernel)) (fun i h => by rw [o1 i h]; exact hs _ (by decide +kernel)) (fun i h j hj => by
    rw [o1 i h] at hj ⊢
    have : j = 0 := by
      have h1 : j < 1 := hj
      omega
    rw [this]
    exact hs _ (by decide +kernel)) (fun i j h h' hij => absurd ((o1 i h).trans (o1 j h').symm) hij) hA
  obtain ⟨k1, k2, k3, k4⟩ := g8.1 0 (by decide)
  have g10 : vk_R RX5 221 "-" (adK 0) s := vk_R.of (hts _ (st_u7 195 rfl)) (g9 0 (by decide))
  refine ⟨z24, z25, adK 0, adV 0, fun Ad e1 e2 e3 e4 => ?_⟩
  unfold mm_J
  rw [e1, e2, e3, e4]
  exact ⟨g5, ⟨g1, f1, g2⟩, ⟨g3, f3, g4⟩, g6, g7, g10, k1, k2, k3, fun j => ([[45]].getD 0 ([] : List Int32)).getD j 0, k4, fun j hj => by
    have : j = 0 := by omega
    subst this
    decide⟩
theorem st_nwT : ∀ w ∈ mm_nw.drop 4, w ∈ lw_tbl := by
  intro w hw
  simp only [mm_nw, mm_prv, List.map_cons, List.map_nil, List.cons_append, List.nil_append, List.drop_succ_cons, List.drop_zero, List.mem_cons, List.not_mem_nil, or_false] at hw
  rcases hw with rfl | rfl | rfl | rfl | rfl | rfl | rfl | rfl | rfl | rfl
  · exact st_u2 215 rfl
  · exact st_u3 107 rfl
  · exact st_u3 140 rfl
  · exact st_u3 61 rfl
  · exact st_u3 65 rfl
  · exact st_u3 66 rfl
  · exact st_u2 217 rfl
  · exact st_u2 219 rfl
  · exact st_u2 221 rfl
  · exact st_u5 13 rfl
theorem st_prv : ∀ y ∈ mm_prv, Jvm.Cond.privateMethod y ∈ lw_tbl ∧ Jvm.Cond.instanceMethod y ∈ lw_tbl ∧ y.cls = RXA := by
  intro y hy
  simp only [mm_prv, List.mem_cons, List.not_mem_nil, or_false] at hy
  rcases hy with rfl | rfl | rfl | rfl
  · exact ⟨st_u4 227 rfl, st_u4 228 rfl, rfl⟩
  · exact ⟨st_u4 231 rfl, st_u4 232 rfl, rfl⟩
  · exact ⟨st_u5 178 rfl, st_u5 179 rfl, rfl⟩
  · exact ⟨st_u5 182 rfl, st_u5 183 rfl, rfl⟩
theorem st_nw {args : Array Value} {s : State} (hts : ∀ w ∈ lw_tbl, w.before args s = true) : ∀ w ∈ mm_nw, va_Nw w s := by
  intro w hw
  rcases List.mem_append.mp hw with h | h
  · obtain ⟨y, hy, rfl⟩ := List.mem_map.mp h
    obtain ⟨h1, h2, h3⟩ := st_prv y hy
    exact va_Nw.of rfl (mm_selP (C9 := RXB) (z := ⟨"java/lang/AbstractStringBuilder", "isLatin1", "()Z"⟩) (n := 4) ⟨hts _ (st_u5 24 rfl), h3.symm⟩ (by rw [h3]; exact ⟨by decide, by decide⟩) (hts _ (st_u4 189 rfl)) (hts _ h1) (hts _ h2))
  · exact va_Nw.of (mm_nw_ot w hw) (hts _ (st_nwT w h))
theorem st_strsT : ∀ q ∈ mm_strs, Jvm.Cond.stringRef RX3 q.1 q.2 ∈ lw_tbl ∧ Jvm.Cond.exactly (.string RX3 q.1) "java/lang/String" ∈ flatC st_n := by
  intro q hq
  refine ⟨?_, (by decide +kernel : ∀ q ∈ mm_strs, Jvm.Cond.exactly (.string RX3 q.1) "java/lang/String" ∈ flatC st_n) q hq⟩
  simp only [mm_strs, List.mem_cons, List.not_mem_nil, or_false] at hq
  rcases hq with rfl | rfl | rfl | rfl | rfl
  · exact st_u3 13 rfl
  · exact st_u3 85 rfl
  · exact st_u3 152 rfl
  · exact st_u4 30 rfl
  · exact st_u3 114 rfl
theorem st_G {args : Array Value} {s : State} {D : va_G} {E : mm_En} {Ad : Nat → Nat} (hts : ∀ w ∈ lw_tbl, w.before args s = true) (hs : ∀ c ∈ flatC st_n, c.before args s = true) (hK : va_K D mm_cl (mm_ty E) s) (hJ : mm_J (mm_AL s) Ad s) : mm_G (mm_AL s) D E Ad s := by
  have hA : ∀ a : Nat, a < s.heap.size → ¬ mm_AL s a := fun a h h2 => Nat.lt_irrefl _ (Nat.lt_of_lt_of_le h h2)
  exact ⟨hK, vx_Zqof (hts _ (st_u3 0 rfl)) (hts _ (st_u1 7 rfl)) (hs _ (by decide +kernel)) hA, vx_Zqof (hts _ (st_u3 2 rfl)) (hts _ (st_u1 7 rfl)) (hs _ (by decide +kernel)) hA, fun q hq => st_str (hts _ (st_strsT q hq).1) (hs _ (st_strsT q hq).2), st_nw hts, va_Nc.of (hs _ (by decide +kernel)), va_Nc.of (hs _ (by decide +kernel)), hJ⟩
end
section
/-! from the entry to the law's end -/
set_option maxRecDepth 20000 in
set_option maxHeartbeats 8000000 in
theorem whole_start {p : Program} {e : Env} {s : State} {m : MethodId} {below : List Frame} {meth : Method} {c : Code} (l : Launch) (hflags : l.flags = flags0) {b L : Nat} {xs : Nat → Int32} (hL : L ≤ 320) (C0 : lw_At p s m meth c b L xs) : W p l e room_1 s m #[Value.ref b] below meth c s.heap [] 0 0 (lw_Z below #[Value.ref b] s) (entryFrame m ([Value.ref b] : List Value).toArray 7) := by
  obtain ⟨hx, hb, hr, hml, hown, hts, hX, hbl, hlocks, hgv⟩ := id C0
  have hl : l.stackTraces = false := by
    unfold Launch.stackTraces
    rw [hflags]
    decide +kernel
  have hs : ∀ c ∈ flatC st_n, c.before #[Value.ref b] s = true := flat_of_before st_n hgv
  have hA : ∀ a : Nat, a < s.heap.size → ¬ mm_AL s a := fun a h h2 => Nat.lt_irrefl _ (Nat.lt_of_lt_of_le h h2)
  obtain ⟨D, hD⟩ := st_K hts
  obtain ⟨cI, i1, i2⟩ := st_row (ty := .int) (hts _ (by decide +kernel))
  obtain ⟨cB, b1, b2⟩ := st_row (ty := .byte) (hts _ (by decide +kernel))
  have hK1 : va_K D mm_cl [(cI, .int)] s := ⟨hD, fun k q hq => by
    match k, hq with
    | 0, hq => cases hq; exact ⟨i1, i2⟩
    | k + 1, hq => simp at hq⟩
  have hAO : ∀ U : State, s.WarmedH U.vm → va_AO RX2 U := fun U hW => va_AO.moved hW.alike (va_AO.of (hts (.arrayOver (.object RX2)) (by decide +kernel)))
  obtain ⟨z24, z25, z28, z29, hJ⟩ := st_J hts hs hA
  have hU : ∀ w ∈ mm_U, w.before #[Value.ref b] s = true := fun w hw => (List.mem_append.mp hw).elim (fun h => hts _ (List.mem_filter.mp h).1) (fun h => va_Nw.use (mm_nw_ot w h) (st_nw hts w h))
  have hNw : va_Nw (.methodLinkNest RL 139 yX4_init RL) s := st_nw hts _ (by decide +kernel)
  refine law_s1 l C0 hK1 hAO (fun cW x0 m0 t1 g1 w1 w2 w3 w4 u1 r1 r2 r3 r4 r5 v1 v2 v3 v4 v5 H locs ls hK hP hD1 hS hlv => ?_)
  refine law_s2 l C0 hK hNw hP hD1 hS hlv (fun o0 H locs ls hP hD2 hS hlv => ?_)
  have hK3 : va_K D mm_cl (mm_ty (cI, cB, cW)) s := ⟨hD, fun k q hq => by
    match k, hq with
    | 0, hq => cases hq; exact ⟨i1, i2⟩
    | 1, hq => cases hq; exact ⟨b1, b2⟩
    | 2, hq => cases hq; exact hK.2 1 _ rfl
    | k + 3, hq => simp [mm_ty] at hq⟩
  have hW := ws0 (cI := cI) (cB := cB) (cW := cW) (x0 := x0) (o0 := o0) (z24 := z24) (z25 := z25) (z28 := z28) (z29 := z29) (m0 := m0) (t1 := t1) (g1 := g1) (w1 := w1) (w2 := w2) (w3 := w3) (w4 := w4) (u1 := u1) (r1 := r1) (r2 := r2) (r3 := r3) (r4 := r4) (r5 := r5) (v1 := v1) (v2 := v2) (v3 := v3) (v4 := v4) (v5 := v5)
  generalize hAd : AdL [0, x0, t1, r1.1, r1.2.1, r1.2.2.1, r1.2.2.2, g1, w1, r2, w2, r3, w3, r4, w4, r5, u1, m0, v1, v2, v3, v4, v5, o0, z24, z25, 0, 0, z28, z29] = Ad at hW
  have a8 : ∀ j, j < 3 → fW (some w1) (some w2) (some w3) j = some (mm_ad Ad (8 + 2 * j)) := by
    intro j hj
    rw [← hAd]
    rcases (show j = 0 ∨ j = 1 ∨ j = 2 by omega) with rfl | rfl | rfl <;> rfl
  have hP3 : va_P D mm_cl (mm_ws (cI, cB, cW) Ad M0 []) H := by
    rw [hW]
    exact va_P_row (k := 6) (g := fun j => some (mm_ad Ad (8 + 2 * j))) hP rfl a8
  have hD4 : va_D (mm_AL s) (mm_ws (cI, cB, cW) Ad M0 []) := by
    rw [hW]
    exact va_D.set (p := 6) hD2 rfl
  have hJ1 : mm_J (mm_AL s) Ad s := hJ Ad (by rw [← hAd]; rfl) (by rw [← hAd]; rfl) (by rw [← hAd]; rfl) (by rw [← hAd]; rfl)
  have hG : mm_G (mm_AL s) D (cI, cB, cW) Ad s := st_G hts hs hK3 hJ1
  have X : mm_Cx p s m #[Value.ref b] c code RL 7 mm_U D (cI, cB, cW) (mm_AL s) := ⟨hx, hb, hml, hown, hU, hK3, fun _ h => h, fun q hq w hw => mm_T_U w (mm_T_cls q hq w hw)⟩
  have hSX : mm_SX s (mm_AL s) (fun q => if q = b then some (L, xs) else none) := by
    intro q n ys h9
    have h : (if q = b then some (L, xs) else none) = some (n, ys) := h9
    by_cases hq : q = b
    · rw [if_pos hq] at h
      cases h
      rw [hq]
      exact ⟨hX, hbl, hA b hbl⟩
    · rw [if_neg hq] at h
      cases h
  have hSC : (fun q => if q = b then some (L, xs) else none) b = some (L, xs) := if_pos rfl
  have hZ := zl_loop (below := below) (e := e) hl X hG hSX hr hlocks hSC hL (fun n u i M hi hI hn hu fin x5 x6 => csL_35 hl (mm_CZ_law X hG hSX) hSC (by omega) hi hI hn hu fin x5 x6) LI0 (u := 42) (by decide)
  have n1 : mm_cc Ad (mm_R 1) = .ref x0 := by rw [← hAd]; rfl
  have n17 : mm_cc Ad (mm_R 17) = .ref m0 := by rw [← hAd]; rfl
  have n23 : mm_cc Ad (mm_R 23) = .ref o0 := by rw [← hAd]; rfl
  have hLo : mm_Lo Ad 7 [some (mm_X b), some (mm_R 1), some (mm_R 17), some (mm_R 23), some (mm_I 0), none, none] ls := by
    refine ⟨hlv.1, hlv.2.1, rfl, fun i v hv => ?_⟩
    match i, hv with
    | 0, hv => cases hv; exact hlv.2.2 (0, .ref b) (by simp)
    | 1, hv => cases hv; rw [n1]; exact hlv.2.2 (1, .ref x0) (by simp)
    | 2, hv => cases hv; rw [n17]; exact hlv.2.2 (2, .ref m0) (by simp)
    | 3, hv => cases hv; rw [n23]; exact hlv.2.2 (3, .ref o0) (by simp)
    | 4, hv => cases hv; exact hlv.2.2 (4, .int 0) (by simp)
    | 5, hv => cases hv
    | 6, hv => cases hv
    | i + 7, hv => simp [mm_nth] at hv
  exact W.widen (k := 42) (n := 504) (by decide) (by decide) (hZ H locs ls hLo hP3 hD4 hS)
end
