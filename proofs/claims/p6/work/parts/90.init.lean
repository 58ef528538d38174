/-! the constructors, natively -/
def iX1 (a b c d : Option Nat) : List Value := [va_rf a, va_rf b, va_rf c, va_rf d, .int 0, .int 0, .int 0, .int 0]
def row0 (cI : ClassId) (n : Nat) : va_E := .inl (cI, n, .inl (fun _ => 0))
def oX1 (cI : ClassId) (h a b c d : Nat) : va_W := [(h, .inr (1, iX1 (some a) (some b) (some c) (some d))), (a, row0 cI 30), (b, row0 cI 30), (c, row0 cI 10), (d, row0 cI 10)]
theorem dX1_init : decode cX1_init 0 = .ok (.aload_n 0, 1) ∧ decode cX1_init 1 = .ok (.invokespecial 3, 3) ∧ decode cX1_init 4 = .ok (.aload_n 0, 1) ∧ decode cX1_init 5 = .ok (.bipush 30, 2) ∧ decode cX1_init 7 = .ok (.newarray .int, 2) ∧ decode cX1_init 9 = .ok (.putfield 9, 3) ∧ decode cX1_init 12 = .ok (.aload_n 0, 1) ∧ decode cX1_init 13 = .ok (.bipush 30, 2) ∧ decode cX1_init 15 = .ok (.newarray .int, 2) ∧ decode cX1_init 17 = .ok (.putfield 15, 3) ∧ decode cX1_init 20 = .ok (.aload_n 0, 1) ∧ decode cX1_init 21 = .ok (.bipush 10, 2) ∧ decode cX1_init 23 = .ok (.newarray .int, 2) ∧ decode cX1_init 25 = .ok (.putfield 18, 3) ∧ decode cX1_init 28 = .ok (.aload_n 0, 1) ∧ decode cX1_init 29 = .ok (.bipush 10, 2) ∧ decode cX1_init 31 = .ok (.newarray .int, 2) ∧ decode cX1_init 33 = .ok (.putfield 21, 3) ∧ decode cX1_init 36 = .ok (.return_, 1) := by (repeat' apply And.intro) <;> decide +kernel
set_option maxHeartbeats 4000000 in
set_option maxRecDepth 100000 in
theorem c_X1_init (l : Launch) (D : va_G) (h0 sz : Nat) (cI : ClassId) : Met l yX1_init (.code yX1_init cX1_init 1 none :: mm_T) ({ frames := 1, cells := 4, slots := 80, locals := 12 }) (va_Pc [.ref h0] (fun U => U.heap.size = sz ∧ va_P D mm_cl [(h0, .inr (1, iX1 none none none none))] U.heap ∧ va_K D mm_cl [(cI, .int)] U ∧ va_D (fun _ => True) [(h0, .inr (1, iX1 none none none none))])) (va_Qv (fun _ : Nat × Nat × Nat × Nat => True) (fun u U => va_P D mm_cl (oX1 cI h0 u.1 u.2.1 u.2.2.1 u.2.2.2) U.heap ∧ va_K D mm_cl [(cI, .int)] U ∧ va_D (va_A [(h0, .inr (1, iX1 none none none none))] sz) (oX1 cI h0 u.1 u.2.1 u.2.2.1 u.2.2.2)) (va_A [(h0, .inr (1, iX1 none none none none))] sz)) 4 80 (va_A [(h0, .inr (1, iX1 none none none none))] sz) := by
  refine Met.ofW (cc := cX1_init) (maxL := 1) (ret := none) (by decide) rfl ?_
  intro p e s m args below meth c s₁ B hml hv
  obtain ⟨rfl, hsz, hP, hK, hD0⟩ := hv
  have hx := B.exec
  have hb := B.bytes
  have hr := B.returns
  have hts := atoms_spec (ws := .code yX1_init cX1_init 1 none :: mm_T) B.pre
  have htT : ∀ w ∈ mm_T, w.before #[Value.ref h0] s = true := fun w hw => hts w (List.mem_cons_of_mem _ hw)
  have hin9 : ∀ w ∈ u_ws RX1 TX1 8, w ∈ (.code yX1_init cX1_init 1 none :: mm_T : List Jvm.Cond) := fun w hw => List.mem_cons_of_mem _ (mm_T_cls (RX1, TX1, 8) (List.mem_of_getElem? (i := 1) rfl) w hw)
  have hown : s.vm.findClass RX1 = some m.cls := findClass_of_methodNamed B.named
  have hlocks := B.notSynchronized
  have hin : meth.name = "<init>" := (name_of_methodNamed B.named B.method).1
  subst hsz
  have hD := hD0.self (sz := s.heap.size)
  generalize hAe : va_A [(h0, .inr (1, iX1 none none none none))] s.heap.size = A at hD ⊢
  have hA : ∀ q : Nat, s.heap.size ≤ q → A q := fun q h => by rw [← hAe]; exact Or.inr h
  have hS : va_S A s.heap s.heap [] := va_S.rf
  have hl := lv_entry ([.ref h0]) (n := 1) (Nat.le_of_ble_eq_true rfl)
  rw [lg_entry_eq]
  generalize (lg_sl ([.ref h0]) ++ List.replicate (1 - (lg_sl ([.ref h0])).length) Slot.unset).toArray = ls at hl ⊢
  have hl : lv_has ls 1 [(0, .ref h0)] := hl
  obtain ⟨d0, d1, d4, d5, d7, d9, d12, d13, d15, d17, d20, d21, d23, d25, d28, d29, d31, d33, d36⟩ := dX1_init
  have un : ∀ cA, va_K D mm_cl ([(cI, .int)] ++ [(cA, .int)]) s → cA = cI := fun cA h => Option.some.inj (((h.2 1 _ rfl).2 : s.vm.findClass _ = some cA).symm.trans ((h.2 0 _ rfl).2 : s.vm.findClass _ = some cI))
  refine lv_aload_n hx hb d0 rfl (lv_at hl 0 rfl) ?_
  refine W.objInit hx hb hown (htT _ (mm_t1 36 rfl rfl)) (htT _ (mm_t1 29 rfl rfl)) (htT _ (mm_t1 30 rfl rfl)) rfl (by rw [hml]; exact hl.1) rfl d1 (Nat.le_of_ble_eq_true rfl) (Nat.le_of_ble_eq_true rfl) ?_
  refine W.eq (g2 := F0 m 4 ls []) rfl ?_
  refine lv_aload_n hx hb d4 rfl (lv_at hl 0 rfl) ?_
  refine lv_bipush (v := 30) hx hb d5 rfl ?_
  refine va_newa (atype := .int) (ty := .int) (a0 := (30, .inl (fun _ => 0))) hx hb (htT _ (mm_t1 62 rfl rfl)) rfl hK hP hD hS hA (fun _ => rfl) (by decide) rfl (Nat.le_of_ble_eq_true rfl) (Nat.le_of_ble_eq_true rfl) (Nat.le_of_ble_eq_true rfl) d7 (fun a0 cA H hK hP hD hS => ?_)
  have ecA := un cA hK
  rw [ecA] at hK hP hD
  have hK : va_K D mm_cl [(cI, .int)] s := hK.sub (tys' := [(cI, .int)]) [0] rfl
  have hP : va_P D mm_cl [(h0, .inr (1, iX1 none none none none)), (a0, row0 cI 30)] H := hP
  have hD : va_D A [(h0, .inr (1, iX1 none none none none)), (a0, row0 cI 30)] := hD
  refine va_putF (D := D) (ci := 1) (v := .ref a0) (ty := .array .int) (C := RX1) (T := TX1) (N := 8) hx hb hts hin9 tyX1 tyX1_ok nmX1 hown hK hP hD hS 0 rfl rfl 0 (by decide) (htT _ (mm_t1 37 rfl rfl)) (fun _ h9 => h9) rfl hin rfl (by decide +kernel) rfl rfl (Nat.le_of_ble_eq_true rfl) d9 (fun H locs hP hD hS => ?_)
  have hP : va_P D mm_cl [(h0, .inr (1, iX1 (some a0) none none none)), (a0, row0 cI 30)] H := hP
  have hD : va_D A [(h0, .inr (1, iX1 (some a0) none none none)), (a0, row0 cI 30)] := hD
  refine lv_aload_n hx hb d12 rfl (lv_at hl 0 rfl) ?_
  refine lv_bipush (v := 30) hx hb d13 rfl ?_
  refine va_newa (atype := .int) (ty := .int) (a0 := (30, .inl (fun _ => 0))) hx hb (htT _ (mm_t1 62 rfl rfl)) rfl hK hP hD hS hA (fun _ => rfl) (by decide) rfl (Nat.le_of_ble_eq_true rfl) (Nat.le_of_ble_eq_true rfl) (Nat.le_of_ble_eq_true rfl) d15 (fun a1 cA H hK hP hD hS => ?_)
  have ecA := un cA hK
  rw [ecA] at hK hP hD
  have hK : va_K D mm_cl [(cI, .int)] s := hK.sub (tys' := [(cI, .int)]) [0] rfl
  have hP : va_P D mm_cl [(h0, .inr (1, iX1 (some a0) none none none)), (a0, row0 cI 30), (a1, row0 cI 30)] H := hP
  have hD : va_D A [(h0, .inr (1, iX1 (some a0) none none none)), (a0, row0 cI 30), (a1, row0 cI 30)] := hD
  refine va_putF (D := D) (ci := 1) (v := .ref a1) (ty := .array .int) (C := RX1) (T := TX1) (N := 8) hx hb hts hin9 tyX1 tyX1_ok nmX1 hown hK hP hD hS 0 rfl rfl 1 (by decide) (htT _ (mm_t1 38 rfl rfl)) (fun _ h9 => h9) rfl hin rfl (by decide +kernel) rfl rfl (Nat.le_of_ble_eq_true rfl) d17 (fun H locs hP hD hS => ?_)
  have hP : va_P D mm_cl [(h0, .inr (1, iX1 (some a0) (some a1) none none)), (a0, row0 cI 30), (a1, row0 cI 30)] H := hP
  have hD : va_D A [(h0, .inr (1, iX1 (some a0) (some a1) none none)), (a0, row0 cI 30), (a1, row0 cI 30)] := hD
  refine lv_aload_n hx hb d20 rfl (lv_at hl 0 rfl) ?_
  refine lv_bipush (v := 10) hx hb d21 rfl ?_
  refine va_newa (atype := .int) (ty := .int) (a0 := (10, .inl (fun _ => 0))) hx hb (htT _ (mm_t1 62 rfl rfl)) rfl hK hP hD hS hA (fun _ => rfl) (by decide) rfl (Nat.le_of_ble_eq_true rfl) (Nat.le_of_ble_eq_true rfl) (Nat.le_of_ble_eq_true rfl) d23 (fun a2 cA H hK hP hD hS => ?_)
  have ecA := un cA hK
  rw [ecA] at hK hP hD
  have hK : va_K D mm_cl [(cI, .int)] s := hK.sub (tys' := [(cI, .int)]) [0] rfl
  have hP : va_P D mm_cl [(h0, .inr (1, iX1 (some a0) (some a1) none none)), (a0, row0 cI 30), (a1, row0 cI 30), (a2, row0 cI 10)] H := hP
  have hD : va_D A [(h0, .inr (1, iX1 (some a0) (some a1) none none)), (a0, row0 cI 30), (a1, row0 cI 30), (a2, row0 cI 10)] := hD
  refine va_putF (D := D) (ci := 1) (v := .ref a2) (ty := .array .int) (C := RX1) (T := TX1) (N := 8) hx hb hts hin9 tyX1 tyX1_ok nmX1 hown hK hP hD hS 0 rfl rfl 2 (by decide) (htT _ (mm_t1 39 rfl rfl)) (fun _ h9 => h9) rfl hin rfl (by decide +kernel) rfl rfl (Nat.le_of_ble_eq_true rfl) d25 (fun H locs hP hD hS => ?_)
  have hP : va_P D mm_cl [(h0, .inr (1, iX1 (some a0) (some a1) (some a2) none)), (a0, row0 cI 30), (a1, row0 cI 30), (a2, row0 cI 10)] H := hP
  have hD : va_D A [(h0, .inr (1, iX1 (some a0) (some a1) (some a2) none)), (a0, row0 cI 30), (a1, row0 cI 30), (a2, row0 cI 10)] := hD
  refine lv_aload_n hx hb d28 rfl (lv_at hl 0 rfl) ?_
  refine lv_bipush (v := 10) hx hb d29 rfl ?_
  refine va_newa (atype := .int) (ty := .int) (a0 := (10, .inl (fun _ => 0))) hx hb (htT _ (mm_t1 62 rfl rfl)) rfl hK hP hD hS hA (fun _ => rfl) (by decide) rfl (Nat.le_of_ble_eq_true rfl) (Nat.le_of_ble_eq_true rfl) (Nat.le_of_ble_eq_true rfl) d31 (fun a3 cA H hK hP hD hS => ?_)
  have ecA := un cA hK
  rw [ecA] at hK hP hD
  have hK : va_K D mm_cl [(cI, .int)] s := hK.sub (tys' := [(cI, .int)]) [0] rfl
  have hP : va_P D mm_cl [(h0, .inr (1, iX1 (some a0) (some a1) (some a2) none)), (a0, row0 cI 30), (a1, row0 cI 30), (a2, row0 cI 10), (a3, row0 cI 10)] H := hP
  have hD : va_D A [(h0, .inr (1, iX1 (some a0) (some a1) (some a2) none)), (a0, row0 cI 30), (a1, row0 cI 30), (a2, row0 cI 10), (a3, row0 cI 10)] := hD
  refine va_putF (D := D) (ci := 1) (v := .ref a3) (ty := .array .int) (C := RX1) (T := TX1) (N := 8) hx hb hts hin9 tyX1 tyX1_ok nmX1 hown hK hP hD hS 0 rfl rfl 3 (by decide) (htT _ (mm_t1 40 rfl rfl)) (fun _ h9 => h9) rfl hin rfl (by decide +kernel) rfl rfl (Nat.le_of_ble_eq_true rfl) d33 (fun H locs hP hD hS => ?_)
  have hP : va_P D mm_cl [(h0, .inr (1, iX1 (some a0) (some a1) (some a2) (some a3))), (a0, row0 cI 30), (a1, row0 cI 30), (a2, row0 cI 10), (a3, row0 cI 10)] H := hP
  have hD : va_D A [(h0, .inr (1, iX1 (some a0) (some a1) (some a2) (some a3))), (a0, row0 cI 30), (a1, row0 cI 30), (a2, row0 cI 10), (a3, row0 cI 10)] := hD
  exact W.vret hx hb hr (fun t ht hW => ⟨⟨(a0, a1, a2, a3), rfl, trivial, by rw [ht]; exact hP, va_K.moved hW.alike hK, hD⟩, hS.F ht⟩) hS.2.2 d36

