/-! the constructors of the walk, the cursor, the answer's box and the model, natively -/
theorem dX2_init : decode cX2_init 0 = .ok (.aload_n 0, 1) ∧ decode cX2_init 1 = .ok (.invokespecial 3, 3) ∧ decode cX2_init 4 = .ok (.aload_n 0, 1) ∧ decode cX2_init 5 = .ok (.aload_n 1, 1) ∧ decode cX2_init 6 = .ok (.putfield 9, 3) ∧ decode cX2_init 9 = .ok (.aload_n 0, 1) ∧ decode cX2_init 10 = .ok (.bipush 30, 2) ∧ decode cX2_init 12 = .ok (.newarray .int, 2) ∧ decode cX2_init 14 = .ok (.putfield 15, 3) ∧ decode cX2_init 17 = .ok (.return_, 1) := by (repeat' apply And.intro) <;> decide +kernel
set_option maxHeartbeats 4000000 in
set_option maxRecDepth 100000 in
theorem c_X2_init (l : Launch) (D : va_G) (h0 t0 sz : Nat) (cI : ClassId) : Met l yX2_init (.code yX2_init cX2_init 2 none :: mm_T) ({ frames := 1, cells := 1, slots := 30, locals := 12 }) (va_Pc [.ref h0, .ref t0] (fun U => U.heap.size = sz ∧ va_P D mm_cl [(h0, .inr (2, [.null, .null, .int 0, .int 0]))] U.heap ∧ va_K D mm_cl [(cI, .int)] U ∧ va_D (fun _ => True) [(h0, .inr (2, [.null, .null, .int 0, .int 0]))])) (va_Qv (fun _ : Nat => True) (fun u U => va_P D mm_cl [(h0, .inr (2, [.ref t0, .ref u, .int 0, .int 0])), (u, row0 cI 30)] U.heap ∧ va_K D mm_cl [(cI, .int)] U ∧ va_D (va_A [(h0, .inr (2, [.null, .null, .int 0, .int 0]))] sz) [(h0, .inr (2, [.ref t0, .ref u, .int 0, .int 0])), (u, row0 cI 30)]) (va_A [(h0, .inr (2, [.null, .null, .int 0, .int 0]))] sz)) 1 30 (va_A [(h0, .inr (2, [.null, .null, .int 0, .int 0]))] sz) := by
  refine Met.ofW (cc := cX2_init) (maxL := 2) (ret := none) (by decide) rfl ?_
  intro p e s m args below meth c s₁ B hml hv
  obtain ⟨rfl, hsz, hP, hK, hD0⟩ := hv
  have hx := B.exec
  have hb := B.bytes
  have hr := B.returns
  have hts := atoms_spec (ws := .code yX2_init cX2_init 2 none :: mm_T) B.pre
  have htT : ∀ w ∈ mm_T, w.before #[Value.ref h0, Value.ref t0] s = true := fun w hw => hts w (List.mem_cons_of_mem _ hw)
  have hin9 : ∀ w ∈ u_ws RX2 TX2 4, w ∈ (.code yX2_init cX2_init 2 none :: mm_T : List Jvm.Cond) := fun w hw => List.mem_cons_of_mem _ (mm_T_cls (RX2, TX2, 4) (List.mem_of_getElem? (i := 2) rfl) w hw)
  have hown : s.vm.findClass RX2 = some m.cls := findClass_of_methodNamed B.named
  have hlocks := B.notSynchronized
  have hin : meth.name = "<init>" := (name_of_methodNamed B.named B.method).1
  subst hsz
  have hD := hD0.self (sz := s.heap.size)
  generalize hAe : va_A [(h0, .inr (2, [.null, .null, .int 0, .int 0]))] s.heap.size = A at hD ⊢
  have hA : ∀ q : Nat, s.heap.size ≤ q → A q := fun q h => by rw [← hAe]; exact Or.inr h
  have hS : va_S A s.heap s.heap [] := va_S.rf
  have hl := lv_entry ([.ref h0, .ref t0]) (n := 2) (Nat.le_of_ble_eq_true rfl)
  rw [lg_entry_eq]
  generalize (lg_sl ([.ref h0, .ref t0]) ++ List.replicate (2 - (lg_sl ([.ref h0, .ref t0])).length) Slot.unset).toArray = ls at hl ⊢
  have hl : lv_has ls 2 [(0, .ref h0), (1, .ref t0)] := hl
  obtain ⟨d0, d1, d4, d5, d6, d9, d10, d12, d14, d17⟩ := dX2_init
  have un : ∀ cA, va_K D mm_cl ([(cI, .int)] ++ [(cA, .int)]) s → cA = cI := fun cA h => Option.some.inj (((h.2 1 _ rfl).2 : s.vm.findClass _ = some cA).symm.trans ((h.2 0 _ rfl).2 : s.vm.findClass _ = some cI))
  refine lv_aload_n hx hb d0 rfl (lv_at hl 0 rfl) ?_
  refine W.objInit hx hb hown (htT _ (mm_t1 69 rfl rfl)) (htT _ (mm_t1 29 rfl rfl)) (htT _ (mm_t1 30 rfl rfl)) rfl (by rw [hml]; exact hl.1) rfl d1 (Nat.le_of_ble_eq_true rfl) (Nat.le_of_ble_eq_true rfl) ?_
  refine W.eq (g2 := F0 m 4 ls []) rfl ?_
  refine lv_aload_n hx hb d4 rfl (lv_at hl 0 rfl) ?_
  refine lv_aload_n hx hb d5 rfl (lv_at hl 1 rfl) ?_
  refine va_putF (D := D) (ci := 2) (v := .ref t0) (ty := .object "Allstreets$Town") (C := RX2) (T := TX2) (N := 4) hx hb hts hin9 tyX2 tyX2_ok nmX2 hown hK hP hD hS 0 rfl rfl 0 (by decide) (htT _ (mm_t1 70 rfl rfl)) (fun _ h9 => h9) rfl hin rfl (by decide +kernel) rfl rfl (Nat.le_of_ble_eq_true rfl) d6 (fun H locs hP hD hS => ?_)
  have hP : va_P D mm_cl [(h0, .inr (2, [.ref t0, .null, .int 0, .int 0]))] H := hP
  have hD : va_D A [(h0, .inr (2, [.ref t0, .null, .int 0, .int 0]))] := hD
  refine lv_aload_n hx hb d9 rfl (lv_at hl 0 rfl) ?_
  refine lv_bipush (v := 30) hx hb d10 rfl ?_
  refine va_newa (atype := .int) (ty := .int) (a0 := (30, .inl (fun _ => 0))) hx hb (htT _ (mm_t1 62 rfl rfl)) rfl hK hP hD hS hA (fun _ => rfl) (by decide) rfl (Nat.le_of_ble_eq_true rfl) (Nat.le_of_ble_eq_true rfl) (Nat.le_of_ble_eq_true rfl) d12 (fun a0 cA H hK hP hD hS => ?_)
  have ecA := un cA hK
  rw [ecA] at hK hP hD
  have hK : va_K D mm_cl [(cI, .int)] s := hK.sub (tys' := [(cI, .int)]) [0] rfl
  have hP : va_P D mm_cl [(h0, .inr (2, [.ref t0, .null, .int 0, .int 0])), (a0, row0 cI 30)] H := hP
  have hD : va_D A [(h0, .inr (2, [.ref t0, .null, .int 0, .int 0])), (a0, row0 cI 30)] := hD
  refine va_putF (D := D) (ci := 2) (v := .ref a0) (ty := .array .int) (C := RX2) (T := TX2) (N := 4) hx hb hts hin9 tyX2 tyX2_ok nmX2 hown hK hP hD hS 0 rfl rfl 1 (by decide) (htT _ (mm_t1 71 rfl rfl)) (fun _ h9 => h9) rfl hin rfl (by decide +kernel) rfl rfl (Nat.le_of_ble_eq_true rfl) d14 (fun H locs hP hD hS => ?_)
  have hP : va_P D mm_cl [(h0, .inr (2, [.ref t0, .ref a0, .int 0, .int 0])), (a0, row0 cI 30)] H := hP
  have hD : va_D A [(h0, .inr (2, [.ref t0, .ref a0, .int 0, .int 0])), (a0, row0 cI 30)] := hD
  exact W.vret hx hb hr (fun t ht hW => ⟨⟨a0, rfl, trivial, by rw [ht]; exact hP, va_K.moved hW.alike hK, hD⟩, hS.F ht⟩) hS.2.2 d17
theorem dX0_init : decode cX0_init 0 = .ok (.aload_n 0, 1) ∧ decode cX0_init 1 = .ok (.invokespecial 3, 3) ∧ decode cX0_init 4 = .ok (.aload_n 0, 1) ∧ decode cX0_init 5 = .ok (.aload_n 1, 1) ∧ decode cX0_init 6 = .ok (.putfield 9, 3) ∧ decode cX0_init 9 = .ok (.aload_n 0, 1) ∧ decode cX0_init 10 = .ok (.iconst (-1), 1) ∧ decode cX0_init 11 = .ok (.putfield 15, 3) ∧ decode cX0_init 14 = .ok (.return_, 1) := by (repeat' apply And.intro) <;> decide +kernel
set_option maxHeartbeats 4000000 in
set_option maxRecDepth 100000 in
theorem c_X0_init (l : Launch) (D : va_G) (h0 t0 sz : Nat) (cI : ClassId) : Met l yX0_init (.code yX0_init cX0_init 2 none :: mm_T) ({ frames := 1, cells := 0, slots := 0, locals := 12 }) (va_Pc [.ref h0, .ref t0] (fun U => U.heap.size = sz ∧ va_P D mm_cl [(h0, .inr (3, [.null, .null, .int 0, .int 0, .int 0]))] U.heap ∧ va_K D mm_cl [(cI, .int)] U ∧ va_D (fun _ => True) [(h0, .inr (3, [.null, .null, .int 0, .int 0, .int 0]))])) (va_Qv (fun _ : Unit => True) (fun u U => va_P D mm_cl [(h0, .inr (3, [.ref t0, .null, .int 0, .int (-1), .int 0]))] U.heap ∧ va_K D mm_cl [(cI, .int)] U ∧ va_D (va_A [(h0, .inr (3, [.null, .null, .int 0, .int 0, .int 0]))] sz) [(h0, .inr (3, [.ref t0, .null, .int 0, .int (-1), .int 0]))]) (va_A [(h0, .inr (3, [.null, .null, .int 0, .int 0, .int 0]))] sz)) 0 0 (va_A [(h0, .inr (3, [.null, .null, .int 0, .int 0, .int 0]))] sz) := by
  refine Met.ofW (cc := cX0_init) (maxL := 2) (ret := none) (by decide) rfl ?_
  intro p e s m args below meth c s₁ B hml hv
  obtain ⟨rfl, hsz, hP, hK, hD0⟩ := hv
  have hx := B.exec
  have hb := B.bytes
  have hr := B.returns
  have hts := atoms_spec (ws := .code yX0_init cX0_init 2 none :: mm_T) B.pre
  have htT : ∀ w ∈ mm_T, w.before #[Value.ref h0, Value.ref t0] s = true := fun w hw => hts w (List.mem_cons_of_mem _ hw)
  have hin9 : ∀ w ∈ u_ws RX0 TX0 5, w ∈ (.code yX0_init cX0_init 2 none :: mm_T : List Jvm.Cond) := fun w hw => List.mem_cons_of_mem _ (mm_T_cls (RX0, TX0, 5) (List.mem_of_getElem? (i := 3) rfl) w hw)
  have hown : s.vm.findClass RX0 = some m.cls := findClass_of_methodNamed B.named
  have hlocks := B.notSynchronized
  have hin : meth.name = "<init>" := (name_of_methodNamed B.named B.method).1
  subst hsz
  have hD := hD0.self (sz := s.heap.size)
  generalize hAe : va_A [(h0, .inr (3, [.null, .null, .int 0, .int 0, .int 0]))] s.heap.size = A at hD ⊢
  have hA : ∀ q : Nat, s.heap.size ≤ q → A q := fun q h => by rw [← hAe]; exact Or.inr h
  have hS : va_S A s.heap s.heap [] := va_S.rf
  have hl := lv_entry ([.ref h0, .ref t0]) (n := 2) (Nat.le_of_ble_eq_true rfl)
  rw [lg_entry_eq]
  generalize (lg_sl ([.ref h0, .ref t0]) ++ List.replicate (2 - (lg_sl ([.ref h0, .ref t0])).length) Slot.unset).toArray = ls at hl ⊢
  have hl : lv_has ls 2 [(0, .ref h0), (1, .ref t0)] := hl
  obtain ⟨d0, d1, d4, d5, d6, d9, d10, d11, d14⟩ := dX0_init
  have un : ∀ cA, va_K D mm_cl ([(cI, .int)] ++ [(cA, .int)]) s → cA = cI := fun cA h => Option.some.inj (((h.2 1 _ rfl).2 : s.vm.findClass _ = some cA).symm.trans ((h.2 0 _ rfl).2 : s.vm.findClass _ = some cI))
  refine lv_aload_n hx hb d0 rfl (lv_at hl 0 rfl) ?_
  refine W.objInit hx hb hown (htT _ (mm_t1 88 rfl rfl)) (htT _ (mm_t1 29 rfl rfl)) (htT _ (mm_t1 30 rfl rfl)) rfl (by rw [hml]; exact hl.1) rfl d1 (Nat.le_of_ble_eq_true rfl) (Nat.le_of_ble_eq_true rfl) ?_
  refine W.eq (g2 := F0 m 4 ls []) rfl ?_
  refine lv_aload_n hx hb d4 rfl (lv_at hl 0 rfl) ?_
  refine lv_aload_n hx hb d5 rfl (lv_at hl 1 rfl) ?_
  refine va_putF (D := D) (ci := 3) (v := .ref t0) (ty := .object "Allstreets$Town") (C := RX0) (T := TX0) (N := 5) hx hb hts hin9 tyX0 tyX0_ok nmX0 hown hK hP hD hS 0 rfl rfl 0 (by decide) (htT _ (mm_t1 89 rfl rfl)) (fun _ h9 => h9) rfl hin rfl (by decide +kernel) rfl rfl (Nat.le_of_ble_eq_true rfl) d6 (fun H locs hP hD hS => ?_)
  have hP : va_P D mm_cl [(h0, .inr (3, [.ref t0, .null, .int 0, .int 0, .int 0]))] H := hP
  have hD : va_D A [(h0, .inr (3, [.ref t0, .null, .int 0, .int 0, .int 0]))] := hD
  refine lv_aload_n hx hb d9 rfl (lv_at hl 0 rfl) ?_
  refine lv_iconst (v := -1) hx hb d10 (by decide) ?_
  refine va_put (D := D) (ci := 3) (v := .int (-1)) (ty := .int) (C := RX0) (T := TX0) (N := 5) hx hb hts hin9 tyX0 tyX0_ok nmX0 hown hK hP hD hS 0 rfl rfl 3 (by decide) (htT _ (mm_t1 92 rfl rfl)) (fun _ h9 => h9) rfl (by decide +kernel) rfl rfl (Nat.le_of_ble_eq_true rfl) d11 (fun H locs hP hD hS => ?_)
  have hP : va_P D mm_cl [(h0, .inr (3, [.ref t0, .null, .int 0, .int (-1), .int 0]))] H := hP
  have hD : va_D A [(h0, .inr (3, [.ref t0, .null, .int 0, .int (-1), .int 0]))] := hD
  exact W.vret hx hb hr (fun t ht hW => ⟨⟨(), rfl, trivial, by rw [ht]; exact hP, va_K.moved hW.alike hK, hD⟩, hS.F ht⟩) hS.2.2 d14
theorem dX4_init : decode cX4_init 0 = .ok (.aload_n 0, 1) ∧ decode cX4_init 1 = .ok (.invokespecial 1, 3) ∧ decode cX4_init 4 = .ok (.return_, 1) := by (repeat' apply And.intro) <;> decide +kernel
set_option maxHeartbeats 4000000 in
set_option maxRecDepth 100000 in
theorem c_X4_init (l : Launch) (D : va_G) (h0 sz : Nat) (cI : ClassId) : Met l yX4_init (.code yX4_init cX4_init 1 none :: mm_T) ({ frames := 1, cells := 0, slots := 0, locals := 12 }) (va_Pc [.ref h0] (fun U => U.heap.size = sz ∧ va_P D mm_cl [(h0, .inr (5, [.long 0, .null]))] U.heap ∧ va_K D mm_cl [(cI, .int)] U ∧ va_D (fun _ => True) [(h0, .inr (5, [.long 0, .null]))])) (va_Qv (fun _ : Unit => True) (fun u U => va_P D mm_cl [(h0, .inr (5, [.long 0, .null]))] U.heap ∧ va_K D mm_cl [(cI, .int)] U ∧ va_D (va_A [(h0, .inr (5, [.long 0, .null]))] sz) [(h0, .inr (5, [.long 0, .null]))]) (va_A [(h0, .inr (5, [.long 0, .null]))] sz)) 0 0 (va_A [(h0, .inr (5, [.long 0, .null]))] sz) := by
  refine Met.ofW (cc := cX4_init) (maxL := 1) (ret := none) (by decide) rfl ?_
  intro p e s m args below meth c s₁ B hml hv
  obtain ⟨rfl, hsz, hP, hK, hD0⟩ := hv
  have hx := B.exec
  have hb := B.bytes
  have hr := B.returns
  have hts := atoms_spec (ws := .code yX4_init cX4_init 1 none :: mm_T) B.pre
  have htT : ∀ w ∈ mm_T, w.before #[Value.ref h0] s = true := fun w hw => hts w (List.mem_cons_of_mem _ hw)
  have hin9 : ∀ w ∈ u_ws RX4 TX4 2, w ∈ (.code yX4_init cX4_init 1 none :: mm_T : List Jvm.Cond) := fun w hw => List.mem_cons_of_mem _ (mm_T_cls (RX4, TX4, 2) (List.mem_of_getElem? (i := 5) rfl) w hw)
  have hown : s.vm.findClass RX4 = some m.cls := findClass_of_methodNamed B.named
  have hlocks := B.notSynchronized
  have hin : meth.name = "<init>" := (name_of_methodNamed B.named B.method).1
  subst hsz
  have hD := hD0.self (sz := s.heap.size)
  generalize hAe : va_A [(h0, .inr (5, [.long 0, .null]))] s.heap.size = A at hD ⊢
  have hA : ∀ q : Nat, s.heap.size ≤ q → A q := fun q h => by rw [← hAe]; exact Or.inr h
  have hS : va_S A s.heap s.heap [] := va_S.rf
  have hl := lv_entry ([.ref h0]) (n := 1) (Nat.le_of_ble_eq_true rfl)
  rw [lg_entry_eq]
  generalize (lg_sl ([.ref h0]) ++ List.replicate (1 - (lg_sl ([.ref h0])).length) Slot.unset).toArray = ls at hl ⊢
  have hl : lv_has ls 1 [(0, .ref h0)] := hl
  obtain ⟨d0, d1, d4⟩ := dX4_init
  have un : ∀ cA, va_K D mm_cl ([(cI, .int)] ++ [(cA, .int)]) s → cA = cI := fun cA h => Option.some.inj (((h.2 1 _ rfl).2 : s.vm.findClass _ = some cA).symm.trans ((h.2 0 _ rfl).2 : s.vm.findClass _ = some cI))
  refine lv_aload_n hx hb d0 rfl (lv_at hl 0 rfl) ?_
  refine W.objInit hx hb hown (htT _ (mm_t3 64 rfl rfl)) (htT _ (mm_t1 29 rfl rfl)) (htT _ (mm_t1 30 rfl rfl)) rfl (by rw [hml]; exact hl.1) rfl d1 (Nat.le_of_ble_eq_true rfl) (Nat.le_of_ble_eq_true rfl) ?_
  refine W.eq (g2 := F0 m 4 ls []) rfl ?_
  exact W.vret hx hb hr (fun t ht hW => ⟨⟨(), rfl, trivial, by rw [ht]; exact hP, va_K.moved hW.alike hK, hD⟩, hS.F ht⟩) hS.2.2 d4
theorem dX5_init : decode cX5_init 0 = .ok (.aload_n 0, 1) ∧ decode cX5_init 1 = .ok (.invokespecial 1, 3) ∧ decode cX5_init 4 = .ok (.aload_n 0, 1) ∧ decode cX5_init 5 = .ok (.bipush 30, 2) ∧ decode cX5_init 7 = .ok (.newarray .int, 2) ∧ decode cX5_init 9 = .ok (.putfield 9, 3) ∧ decode cX5_init 12 = .ok (.aload_n 0, 1) ∧ decode cX5_init 13 = .ok (.bipush 30, 2) ∧ decode cX5_init 15 = .ok (.newarray .int, 2) ∧ decode cX5_init 17 = .ok (.putfield 13, 3) ∧ decode cX5_init 20 = .ok (.aload_n 0, 1) ∧ decode cX5_init 21 = .ok (.bipush 120, 2) ∧ decode cX5_init 23 = .ok (.newarray .int, 2) ∧ decode cX5_init 25 = .ok (.putfield 16, 3) ∧ decode cX5_init 28 = .ok (.aload_n 0, 1) ∧ decode cX5_init 29 = .ok (.iconst 4, 1) ∧ decode cX5_init 30 = .ok (.newarray .int, 2) ∧ decode cX5_init 32 = .ok (.putfield 19, 3) ∧ decode cX5_init 35 = .ok (.aload_n 0, 1) ∧ decode cX5_init 36 = .ok (.iconst 4, 1) ∧ decode cX5_init 37 = .ok (.newarray .int, 2) ∧ decode cX5_init 39 = .ok (.putfield 22, 3) ∧ decode cX5_init 42 = .ok (.aload_n 0, 1) ∧ decode cX5_init 43 = .ok (.iconst (-1), 1) ∧ decode cX5_init 44 = .ok (.putfield 25, 3) ∧ decode cX5_init 47 = .ok (.aload_n 0, 1) ∧ decode cX5_init 48 = .ok (.iconst (-1), 1) ∧ decode cX5_init 49 = .ok (.putfield 29, 3) ∧ decode cX5_init 52 = .ok (.return_, 1) := by (repeat' apply And.intro) <;> decide +kernel
set_option maxHeartbeats 4000000 in
set_option maxRecDepth 100000 in
theorem c_X5_init (l : Launch) (D : va_G) (h0 sz : Nat) (cI : ClassId) : Met l yX5_init (.code yX5_init cX5_init 1 none :: mm_T) ({ frames := 1, cells := 5, slots := 188, locals := 12 }) (va_Pc [.ref h0] (fun U => U.heap.size = sz ∧ va_P D mm_cl [(h0, .inr (4, [.int 0, .int 0, .null, .null, .int 0, .int 0, .int 0, .null, .null, .null, .int 0, .int 0, .int 0, .int 0, .int 0, .int 0, .int 0]))] U.heap ∧ va_K D mm_cl [(cI, .int)] U ∧ va_D (fun _ => True) [(h0, .inr (4, [.int 0, .int 0, .null, .null, .int 0, .int 0, .int 0, .null, .null, .null, .int 0, .int 0, .int 0, .int 0, .int 0, .int 0, .int 0]))])) (va_Qv (fun _ : Nat × Nat × Nat × Nat × Nat => True) (fun u U => va_P D mm_cl [(h0, .inr (4, [.int 0, .int 0, .ref u.1, .ref u.2.1, .int 0, .int 0, .int 0, .ref u.2.2.1, .ref u.2.2.2.1, .ref u.2.2.2.2, .int (-1), .int 0, .int (-1), .int 0, .int 0, .int 0, .int 0])), (u.1, row0 cI 30), (u.2.1, row0 cI 30), (u.2.2.1, row0 cI 120), (u.2.2.2.1, row0 cI 4), (u.2.2.2.2, row0 cI 4)] U.heap ∧ va_K D mm_cl [(cI, .int)] U ∧ va_D (va_A [(h0, .inr (4, [.int 0, .int 0, .null, .null, .int 0, .int 0, .int 0, .null, .null, .null, .int 0, .int 0, .int 0, .int 0, .int 0, .int 0, .int 0]))] sz) [(h0, .inr (4, [.int 0, .int 0, .ref u.1, .ref u.2.1, .int 0, .int 0, .int 0, .ref u.2.2.1, .ref u.2.2.2.1, .ref u.2.2.2.2, .int (-1), .int 0, .int (-1), .int 0, .int 0, .int 0, .int 0])), (u.1, row0 cI 30), (u.2.1, row0 cI 30), (u.2.2.1, row0 cI 120), (u.2.2.2.1, row0 cI 4), (u.2.2.2.2, row0 cI 4)]) (va_A [(h0, .inr (4, [.int 0, .int 0, .null, .null, .int 0, .int 0, .int 0, .null, .null, .null, .int 0, .int 0, .int 0, .int 0, .int 0, .int 0, .int 0]))] sz)) 5 188 (va_A [(h0, .inr (4, [.int 0, .int 0, .null, .null, .int 0, .int 0, .int 0, .null, .null, .null, .int 0, .int 0, .int 0, .int 0, .int 0, .int 0, .int 0]))] sz) := by
  refine Met.ofW (cc := cX5_init) (maxL := 1) (ret := none) (by decide) rfl ?_
  intro p e s m args below meth c s₁ B hml hv
  obtain ⟨rfl, hsz, hP, hK, hD0⟩ := hv
  have hx := B.exec
  have hb := B.bytes
  have hr := B.returns
  have hts := atoms_spec (ws := .code yX5_init cX5_init 1 none :: mm_T) B.pre
  have htT : ∀ w ∈ mm_T, w.before #[Value.ref h0] s = true := fun w hw => hts w (List.mem_cons_of_mem _ hw)
  have hin9 : ∀ w ∈ u_ws RX5 TX5 17, w ∈ (.code yX5_init cX5_init 1 none :: mm_T : List Jvm.Cond) := fun w hw => List.mem_cons_of_mem _ (mm_T_cls (RX5, TX5, 17) (List.mem_of_getElem? (i := 4) rfl) w hw)
  have hown : s.vm.findClass RX5 = some m.cls := findClass_of_methodNamed B.named
  have hlocks := B.notSynchronized
  have hin : meth.name = "<init>" := (name_of_methodNamed B.named B.method).1
  subst hsz
  have hD := hD0.self (sz := s.heap.size)
  generalize hAe : va_A [(h0, .inr (4, [.int 0, .int 0, .null, .null, .int 0, .int 0, .int 0, .null, .null, .null, .int 0, .int 0, .int 0, .int 0, .int 0, .int 0, .int 0]))] s.heap.size = A at hD ⊢
  have hA : ∀ q : Nat, s.heap.size ≤ q → A q := fun q h => by rw [← hAe]; exact Or.inr h
  have hS : va_S A s.heap s.heap [] := va_S.rf
  have hl := lv_entry ([.ref h0]) (n := 1) (Nat.le_of_ble_eq_true rfl)
  rw [lg_entry_eq]
  generalize (lg_sl ([.ref h0]) ++ List.replicate (1 - (lg_sl ([.ref h0])).length) Slot.unset).toArray = ls at hl ⊢
  have hl : lv_has ls 1 [(0, .ref h0)] := hl
  obtain ⟨d0, d1, d4, d5, d7, d9, d12, d13, d15, d17, d20, d21, d23, d25, d28, d29, d30, d32, d35, d36, d37, d39, d42, d43, d44, d47, d48, d49, d52⟩ := dX5_init
  have un : ∀ cA, va_K D mm_cl ([(cI, .int)] ++ [(cA, .int)]) s → cA = cI := fun cA h => Option.some.inj (((h.2 1 _ rfl).2 : s.vm.findClass _ = some cA).symm.trans ((h.2 0 _ rfl).2 : s.vm.findClass _ = some cI))
  refine lv_aload_n hx hb d0 rfl (lv_at hl 0 rfl) ?_
  refine W.objInit hx hb hown (htT _ (mm_t6 46 rfl rfl)) (htT _ (mm_t1 29 rfl rfl)) (htT _ (mm_t1 30 rfl rfl)) rfl (by rw [hml]; exact hl.1) rfl d1 (Nat.le_of_ble_eq_true rfl) (Nat.le_of_ble_eq_true rfl) ?_
  refine W.eq (g2 := F0 m 4 ls []) rfl ?_
  refine lv_aload_n hx hb d4 rfl (lv_at hl 0 rfl) ?_
  refine lv_bipush (v := 30) hx hb d5 rfl ?_
  refine va_newa (atype := .int) (ty := .int) (a0 := (30, .inl (fun _ => 0))) hx hb (htT _ (mm_t1 62 rfl rfl)) rfl hK hP hD hS hA (fun _ => rfl) (by decide) rfl (Nat.le_of_ble_eq_true rfl) (Nat.le_of_ble_eq_true rfl) (Nat.le_of_ble_eq_true rfl) d7 (fun a0 cA H hK hP hD hS => ?_)
  have ecA := un cA hK
  rw [ecA] at hK hP hD
  have hK : va_K D mm_cl [(cI, .int)] s := hK.sub (tys' := [(cI, .int)]) [0] rfl
  have hP : va_P D mm_cl [(h0, .inr (4, [.int 0, .int 0, .null, .null, .int 0, .int 0, .int 0, .null, .null, .null, .int 0, .int 0, .int 0, .int 0, .int 0, .int 0, .int 0])), (a0, row0 cI 30)] H := hP
  have hD : va_D A [(h0, .inr (4, [.int 0, .int 0, .null, .null, .int 0, .int 0, .int 0, .null, .null, .null, .int 0, .int 0, .int 0, .int 0, .int 0, .int 0, .int 0])), (a0, row0 cI 30)] := hD
  refine va_putF (D := D) (ci := 4) (v := .ref a0) (ty := .array .int) (C := RX5) (T := TX5) (N := 17) hx hb hts hin9 tyX5 tyX5_ok nmX5 hown hK hP hD hS 0 rfl rfl 2 (by decide) (htT _ (mm_t6 49 rfl rfl)) (fun _ h9 => h9) rfl hin rfl (by decide +kernel) rfl rfl (Nat.le_of_ble_eq_true rfl) d9 (fun H locs hP hD hS => ?_)
  have hP : va_P D mm_cl [(h0, .inr (4, [.int 0, .int 0, .ref a0, .null, .int 0, .int 0, .int 0, .null, .null, .null, .int 0, .int 0, .int 0, .int 0, .int 0, .int 0, .int 0])), (a0, row0 cI 30)] H := hP
  have hD : va_D A [(h0, .inr (4, [.int 0, .int 0, .ref a0, .null, .int 0, .int 0, .int 0, .null, .null, .null, .int 0, .int 0, .int 0, .int 0, .int 0, .int 0, .int 0])), (a0, row0 cI 30)] := hD
  refine lv_aload_n hx hb d12 rfl (lv_at hl 0 rfl) ?_
  refine lv_bipush (v := 30) hx hb d13 rfl ?_
  refine va_newa (atype := .int) (ty := .int) (a0 := (30, .inl (fun _ => 0))) hx hb (htT _ (mm_t1 62 rfl rfl)) rfl hK hP hD hS hA (fun _ => rfl) (by decide) rfl (Nat.le_of_ble_eq_true rfl) (Nat.le_of_ble_eq_true rfl) (Nat.le_of_ble_eq_true rfl) d15 (fun a1 cA H hK hP hD hS => ?_)
  have ecA := un cA hK
  rw [ecA] at hK hP hD
  have hK : va_K D mm_cl [(cI, .int)] s := hK.sub (tys' := [(cI, .int)]) [0] rfl
  have hP : va_P D mm_cl [(h0, .inr (4, [.int 0, .int 0, .ref a0, .null, .int 0, .int 0, .int 0, .null, .null, .null, .int 0, .int 0, .int 0, .int 0, .int 0, .int 0, .int 0])), (a0, row0 cI 30), (a1, row0 cI 30)] H := hP
  have hD : va_D A [(h0, .inr (4, [.int 0, .int 0, .ref a0, .null, .int 0, .int 0, .int 0, .null, .null, .null, .int 0, .int 0, .int 0, .int 0, .int 0, .int 0, .int 0])), (a0, row0 cI 30), (a1, row0 cI 30)] := hD
  refine va_putF (D := D) (ci := 4) (v := .ref a1) (ty := .array .int) (C := RX5) (T := TX5) (N := 17) hx hb hts hin9 tyX5 tyX5_ok nmX5 hown hK hP hD hS 0 rfl rfl 3 (by decide) (htT _ (mm_t6 50 rfl rfl)) (fun _ h9 => h9) rfl hin rfl (by decide +kernel) rfl rfl (Nat.le_of_ble_eq_true rfl) d17 (fun H locs hP hD hS => ?_)
  have hP : va_P D mm_cl [(h0, .inr (4, [.int 0, .int 0, .ref a0, .ref a1, .int 0, .int 0, .int 0, .null, .null, .null, .int 0, .int 0, .int 0, .int 0, .int 0, .int 0, .int 0])), (a0, row0 cI 30), (a1, row0 cI 30)] H := hP
  have hD : va_D A [(h0, .inr (4, [.int 0, .int 0, .ref a0, .ref a1, .int 0, .int 0, .int 0, .null, .null, .null, .int 0, .int 0, .int 0, .int 0, .int 0, .int 0, .int 0])), (a0, row0 cI 30), (a1, row0 cI 30)] := hD
  refine lv_aload_n hx hb d20 rfl (lv_at hl 0 rfl) ?_
  refine lv_bipush (v := 120) hx hb d21 rfl ?_
  refine va_newa (atype := .int) (ty := .int) (a0 := (120, .inl (fun _ => 0))) hx hb (htT _ (mm_t1 62 rfl rfl)) rfl hK hP hD hS hA (fun _ => rfl) (by decide) rfl (Nat.le_of_ble_eq_true rfl) (Nat.le_of_ble_eq_true rfl) (Nat.le_of_ble_eq_true rfl) d23 (fun a2 cA H hK hP hD hS => ?_)
  have ecA := un cA hK
  rw [ecA] at hK hP hD
  have hK : va_K D mm_cl [(cI, .int)] s := hK.sub (tys' := [(cI, .int)]) [0] rfl
  have hP : va_P D mm_cl [(h0, .inr (4, [.int 0, .int 0, .ref a0, .ref a1, .int 0, .int 0, .int 0, .null, .null, .null, .int 0, .int 0, .int 0, .int 0, .int 0, .int 0, .int 0])), (a0, row0 cI 30), (a1, row0 cI 30), (a2, row0 cI 120)] H := hP
  have hD : va_D A [(h0, .inr (4, [.int 0, .int 0, .ref a0, .ref a1, .int 0, .int 0, .int 0, .null, .null, .null, .int 0, .int 0, .int 0, .int 0, .int 0, .int 0, .int 0])), (a0, row0 cI 30), (a1, row0 cI 30), (a2, row0 cI 120)] := hD
  refine va_putF (D := D) (ci := 4) (v := .ref a2) (ty := .array .int) (C := RX5) (T := TX5) (N := 17) hx hb hts hin9 tyX5 tyX5_ok nmX5 hown hK hP hD hS 0 rfl rfl 7 (by decide) (htT _ (mm_t6 54 rfl rfl)) (fun _ h9 => h9) rfl hin rfl (by decide +kernel) rfl rfl (Nat.le_of_ble_eq_true rfl) d25 (fun H locs hP hD hS => ?_)
  have hP : va_P D mm_cl [(h0, .inr (4, [.int 0, .int 0, .ref a0, .ref a1, .int 0, .int 0, .int 0, .ref a2, .null, .null, .int 0, .int 0, .int 0, .int 0, .int 0, .int 0, .int 0])), (a0, row0 cI 30), (a1, row0 cI 30), (a2, row0 cI 120)] H := hP
  have hD : va_D A [(h0, .inr (4, [.int 0, .int 0, .ref a0, .ref a1, .int 0, .int 0, .int 0, .ref a2, .null, .null, .int 0, .int 0, .int 0, .int 0, .int 0, .int 0, .int 0])), (a0, row0 cI 30), (a1, row0 cI 30), (a2, row0 cI 120)] := hD
  refine lv_aload_n hx hb d28 rfl (lv_at hl 0 rfl) ?_
  refine lv_iconst (v := 4) hx hb d29 (by decide) ?_
  refine va_newa (atype := .int) (ty := .int) (a0 := (4, .inl (fun _ => 0))) hx hb (htT _ (mm_t1 62 rfl rfl)) rfl hK hP hD hS hA (fun _ => rfl) (by decide) rfl (Nat.le_of_ble_eq_true rfl) (Nat.le_of_ble_eq_true rfl) (Nat.le_of_ble_eq_true rfl) d30 (fun a3 cA H hK hP hD hS => ?_)
  have ecA := un cA hK
  rw [ecA] at hK hP hD
  have hK : va_K D mm_cl [(cI, .int)] s := hK.sub (tys' := [(cI, .int)]) [0] rfl
  have hP : va_P D mm_cl [(h0, .inr (4, [.int 0, .int 0, .ref a0, .ref a1, .int 0, .int 0, .int 0, .ref a2, .null, .null, .int 0, .int 0, .int 0, .int 0, .int 0, .int 0, .int 0])), (a0, row0 cI 30), (a1, row0 cI 30), (a2, row0 cI 120), (a3, row0 cI 4)] H := hP
  have hD : va_D A [(h0, .inr (4, [.int 0, .int 0, .ref a0, .ref a1, .int 0, .int 0, .int 0, .ref a2, .null, .null, .int 0, .int 0, .int 0, .int 0, .int 0, .int 0, .int 0])), (a0, row0 cI 30), (a1, row0 cI 30), (a2, row0 cI 120), (a3, row0 cI 4)] := hD
  refine va_putF (D := D) (ci := 4) (v := .ref a3) (ty := .array .int) (C := RX5) (T := TX5) (N := 17) hx hb hts hin9 tyX5 tyX5_ok nmX5 hown hK hP hD hS 0 rfl rfl 8 (by decide) (htT _ (mm_t6 55 rfl rfl)) (fun _ h9 => h9) rfl hin rfl (by decide +kernel) rfl rfl (Nat.le_of_ble_eq_true rfl) d32 (fun H locs hP hD hS => ?_)
  have hP : va_P D mm_cl [(h0, .inr (4, [.int 0, .int 0, .ref a0, .ref a1, .int 0, .int 0, .int 0, .ref a2, .ref a3, .null, .int 0, .int 0, .int 0, .int 0, .int 0, .int 0, .int 0])), (a0, row0 cI 30), (a1, row0 cI 30), (a2, row0 cI 120), (a3, row0 cI 4)] H := hP
  have hD : va_D A [(h0, .inr (4, [.int 0, .int 0, .ref a0, .ref a1, .int 0, .int 0, .int 0, .ref a2, .ref a3, .null, .int 0, .int 0, .int 0, .int 0, .int 0, .int 0, .int 0])), (a0, row0 cI 30), (a1, row0 cI 30), (a2, row0 cI 120), (a3, row0 cI 4)] := hD
  refine lv_aload_n hx hb d35 rfl (lv_at hl 0 rfl) ?_
  refine lv_iconst (v := 4) hx hb d36 (by decide) ?_
  refine va_newa (atype := .int) (ty := .int) (a0 := (4, .inl (fun _ => 0))) hx hb (htT _ (mm_t1 62 rfl rfl)) rfl hK hP hD hS hA (fun _ => rfl) (by decide) rfl (Nat.le_of_ble_eq_true rfl) (Nat.le_of_ble_eq_true rfl) (Nat.le_of_ble_eq_true rfl) d37 (fun a4 cA H hK hP hD hS => ?_)
  have ecA := un cA hK
  rw [ecA] at hK hP hD
  have hK : va_K D mm_cl [(cI, .int)] s := hK.sub (tys' := [(cI, .int)]) [0] rfl
  have hP : va_P D mm_cl [(h0, .inr (4, [.int 0, .int 0, .ref a0, .ref a1, .int 0, .int 0, .int 0, .ref a2, .ref a3, .null, .int 0, .int 0, .int 0, .int 0, .int 0, .int 0, .int 0])), (a0, row0 cI 30), (a1, row0 cI 30), (a2, row0 cI 120), (a3, row0 cI 4), (a4, row0 cI 4)] H := hP
  have hD : va_D A [(h0, .inr (4, [.int 0, .int 0, .ref a0, .ref a1, .int 0, .int 0, .int 0, .ref a2, .ref a3, .null, .int 0, .int 0, .int 0, .int 0, .int 0, .int 0, .int 0])), (a0, row0 cI 30), (a1, row0 cI 30), (a2, row0 cI 120), (a3, row0 cI 4), (a4, row0 cI 4)] := hD
  refine va_putF (D := D) (ci := 4) (v := .ref a4) (ty := .array .int) (C := RX5) (T := TX5) (N := 17) hx hb hts hin9 tyX5 tyX5_ok nmX5 hown hK hP hD hS 0 rfl rfl 9 (by decide) (htT _ (mm_t6 56 rfl rfl)) (fun _ h9 => h9) rfl hin rfl (by decide +kernel) rfl rfl (Nat.le_of_ble_eq_true rfl) d39 (fun H locs hP hD hS => ?_)
  have hP : va_P D mm_cl [(h0, .inr (4, [.int 0, .int 0, .ref a0, .ref a1, .int 0, .int 0, .int 0, .ref a2, .ref a3, .ref a4, .int 0, .int 0, .int 0, .int 0, .int 0, .int 0, .int 0])), (a0, row0 cI 30), (a1, row0 cI 30), (a2, row0 cI 120), (a3, row0 cI 4), (a4, row0 cI 4)] H := hP
  have hD : va_D A [(h0, .inr (4, [.int 0, .int 0, .ref a0, .ref a1, .int 0, .int 0, .int 0, .ref a2, .ref a3, .ref a4, .int 0, .int 0, .int 0, .int 0, .int 0, .int 0, .int 0])), (a0, row0 cI 30), (a1, row0 cI 30), (a2, row0 cI 120), (a3, row0 cI 4), (a4, row0 cI 4)] := hD
  refine lv_aload_n hx hb d42 rfl (lv_at hl 0 rfl) ?_
  refine lv_iconst (v := -1) hx hb d43 (by decide) ?_
  refine va_put (D := D) (ci := 4) (v := .int (-1)) (ty := .int) (C := RX5) (T := TX5) (N := 17) hx hb hts hin9 tyX5 tyX5_ok nmX5 hown hK hP hD hS 0 rfl rfl 10 (by decide) (htT _ (mm_t6 57 rfl rfl)) (fun _ h9 => h9) rfl (by decide +kernel) rfl rfl (Nat.le_of_ble_eq_true rfl) d44 (fun H locs hP hD hS => ?_)
  have hP : va_P D mm_cl [(h0, .inr (4, [.int 0, .int 0, .ref a0, .ref a1, .int 0, .int 0, .int 0, .ref a2, .ref a3, .ref a4, .int (-1), .int 0, .int 0, .int 0, .int 0, .int 0, .int 0])), (a0, row0 cI 30), (a1, row0 cI 30), (a2, row0 cI 120), (a3, row0 cI 4), (a4, row0 cI 4)] H := hP
  have hD : va_D A [(h0, .inr (4, [.int 0, .int 0, .ref a0, .ref a1, .int 0, .int 0, .int 0, .ref a2, .ref a3, .ref a4, .int (-1), .int 0, .int 0, .int 0, .int 0, .int 0, .int 0])), (a0, row0 cI 30), (a1, row0 cI 30), (a2, row0 cI 120), (a3, row0 cI 4), (a4, row0 cI 4)] := hD
  refine lv_aload_n hx hb d47 rfl (lv_at hl 0 rfl) ?_
  refine lv_iconst (v := -1) hx hb d48 (by decide) ?_
  refine va_put (D := D) (ci := 4) (v := .int (-1)) (ty := .int) (C := RX5) (T := TX5) (N := 17) hx hb hts hin9 tyX5 tyX5_ok nmX5 hown hK hP hD hS 0 rfl rfl 12 (by decide) (htT _ (mm_t6 59 rfl rfl)) (fun _ h9 => h9) rfl (by decide +kernel) rfl rfl (Nat.le_of_ble_eq_true rfl) d49 (fun H locs hP hD hS => ?_)
  have hP : va_P D mm_cl [(h0, .inr (4, [.int 0, .int 0, .ref a0, .ref a1, .int 0, .int 0, .int 0, .ref a2, .ref a3, .ref a4, .int (-1), .int 0, .int (-1), .int 0, .int 0, .int 0, .int 0])), (a0, row0 cI 30), (a1, row0 cI 30), (a2, row0 cI 120), (a3, row0 cI 4), (a4, row0 cI 4)] H := hP
  have hD : va_D A [(h0, .inr (4, [.int 0, .int 0, .ref a0, .ref a1, .int 0, .int 0, .int 0, .ref a2, .ref a3, .ref a4, .int (-1), .int 0, .int (-1), .int 0, .int 0, .int 0, .int 0])), (a0, row0 cI 30), (a1, row0 cI 30), (a2, row0 cI 120), (a3, row0 cI 4), (a4, row0 cI 4)] := hD
  exact W.vret hx hb hr (fun t ht hW => ⟨⟨(a0, a1, a2, a3, a4), rfl, trivial, by rw [ht]; exact hP, va_K.moved hW.alike hK, hD⟩, hS.F ht⟩) hS.2.2 d52

