/-! the class: what is asked of the walks and of the cursor, the whole -/
def sp_X3_length : mm_S := fun av M d Q => match av with
  | [.inr (.inr (.inl o)), .inl a] =>  o = 1 ∧ wA M ∧ InI a ∧ (∀ r, InI r ∧ C_length a M M 0 r → Q (.inl (some (mm_I r))) M d) ∧ (∀ k, k = 0 ∧ C_length a M M 1 0 → Q (.inr k) M d)
  | _ => False
def ct_X3_length : List (Nat × mm_Ca) := [(145, (0, 2, 10, sp_X3_walkOf, 1)), (149, (0, 1, 12, sp_X2_size, 0))]
abbrev rr_X3_length (Q : mm_Q) := mm_run (mm_look flX3) (mm_look ct_X3_length) mm_x0 (mm_look ([] : List (Nat × Int))) (fun _ => none) 1 1 (fun _ _ => none) Q kdX3_length
set_option maxRecDepth 20000 in
theorem rn_X3_length : mm_RN flX3 ct_X3_length mm_x0 [] 1 1 2 kdX3_length sp_X3_length := by
  intro av M d Q h
  unfold sp_X3_length at h
  split at h
  · rename_i o a
    obtain ⟨rfl, ha, h1, hq, hx⟩ := h
    refine ⟨Nat.le_of_ble_eq_true rfl, mm_run_at (stop := []) (S := mm_F0) kkX3_length 80 ?_ mm_F0h⟩
    simp only [mm_wp, mm_op, mm_nxt, mm_jmp, mm_at, mm_in, mm_nth, mm_set, mm_ok, mm_isL, mm_ret, mm_isRet, mm_bool, mm_call, mm_push, mm_rv, mm_cats, mm_cat, mm_look, mm_ft, mm_fv, mm_pf, mm_thr, mm_ent, mm_pad, mm_fl, beq_self_eq_true, cond_true, cond_false, Nat.reduceBEq, Nat.reduceEqDiff, List.drop_succ_cons, List.drop_zero, List.take_succ_cons, List.take_zero, List.reverse_cons, List.reverse_nil, List.nil_append, List.cons_append, List.length_cons, List.length_nil, Nat.reduceAdd, Nat.reduceSub, Nat.reduceLeDiff, Bool.not_false, Bool.and_true, Bool.true_and, Nat.zero_add, true_and, and_true, Nat.le_refl, true_or, or_true, reduceCtorEq, Nat.add_zero, Nat.reduceLT, Bool.and_self, Bool.not_true, Fin.isValue, Nat.reduceLeDiff, List.take_nil, List.drop_nil, mm_i1, mm_i2, mm_i3, mm_i4, mm_i5, mm_i6, mm_i7, mm_i16, mm_i17, mm_i18, mm_i19, mm_i20, mm_i21, mm_i22, mm_i23, mm_l3, mm_l4, mm_l5, mm_l6, mm_l7, mm_l18, mm_l19, mm_l20, mm_l21, mm_l22, kdX3_length, ct_X3_length, flX3, sp_X3_walkOf, sp_X2_size]
    refine ⟨h1, fun w ca ew hw => ⟨wk_is hw.k M d, hw.k, hq _ ⟨?_, by unfold C_length; rw [show wk a = w from ew.symm]; exact ok1.y ca ⟨rfl, .rf⟩⟩⟩, fun h => hx _ ⟨rfl, ok1.n h⟩⟩
    have := (ha.2.1 w hw).1.1
    exact ⟨by omega, by omega⟩
  · exact h.elim
theorem me_X3_length {l : Launch} (hl : l.stackTraces = false) : mm_Met l yX3_length cX3_length 2 (some .int) [] 7 121 1 sp_X3_length := mm_mt hl rn_X3_length ⟨plX3, rfl⟩ kkX3_length rfl ⟨Nat.le_of_ble_eq_true rfl, Nat.le_of_ble_eq_true rfl⟩ flkX3 (fun _ h => nomatch h) (⟨mm_pe (me_X3_walkOf hl) mwX3_walkOf (mm_t2 209 rfl rfl) (Nat.le_of_ble_eq_true rfl) (Nat.le_of_ble_eq_true rfl), mm_pe (me_X2_size hl) mwX2_size (mm_t3 40 rfl rfl) (Nat.le_of_ble_eq_true rfl) (Nat.le_of_ble_eq_true rfl), trivial⟩) (mm_xe0 _) n9X3
def sp_X3_cornerAt : mm_S := fun av M d Q => match av with
  | [.inr (.inr (.inl o)), .inl a, .inl b] =>  o = 1 ∧ wA M ∧ InI a ∧ InI b ∧ (∀ r, InI r ∧ C_cornerAt a b M M 0 r → Q (.inl (some (mm_I r))) M d) ∧ (∀ k, k = 0 ∧ C_cornerAt a b M M 1 0 → Q (.inr k) M d)
  | _ => False
def ct_X3_cornerAt : List (Nat × mm_Ca) := [(145, (0, 2, 10, sp_X3_walkOf, 1)), (149, (0, 1, 12, sp_X2_size, 0)), (181, (1, 2, 0, sp_X3_checkIndex, 1)), (188, (0, 2, 12, sp_X2_cornerOf, 0))]
abbrev rr_X3_cornerAt (Q : mm_Q) := mm_run (mm_look flX3) (mm_look ct_X3_cornerAt) mm_x0 (mm_look ([] : List (Nat × Int))) (fun _ => none) 1 2 (fun _ _ => none) Q kdX3_cornerAt
set_option maxRecDepth 20000 in
theorem rn_X3_cornerAt : mm_RN flX3 ct_X3_cornerAt mm_x0 [] 1 2 4 kdX3_cornerAt sp_X3_cornerAt := by
  intro av M d Q h
  unfold sp_X3_cornerAt at h
  split at h
  · rename_i o a b
    obtain ⟨rfl, ha, h1, h2, hq, hx⟩ := h
    refine ⟨Nat.le_of_ble_eq_true rfl, mm_run_at (stop := []) (S := mm_F0) kkX3_cornerAt 80 ?_ mm_F0h⟩
    simp only [mm_wp, mm_op, mm_nxt, mm_jmp, mm_at, mm_in, mm_nth, mm_set, mm_ok, mm_isL, mm_ret, mm_isRet, mm_bool, mm_call, mm_push, mm_rv, mm_cats, mm_cat, mm_look, mm_ft, mm_fv, mm_pf, mm_thr, mm_ent, mm_pad, mm_fl, beq_self_eq_true, cond_true, cond_false, Nat.reduceBEq, Nat.reduceEqDiff, List.drop_succ_cons, List.drop_zero, List.take_succ_cons, List.take_zero, List.reverse_cons, List.reverse_nil, List.nil_append, List.cons_append, List.length_cons, List.length_nil, Nat.reduceAdd, Nat.reduceSub, Nat.reduceLeDiff, Bool.not_false, Bool.and_true, Bool.true_and, Nat.zero_add, true_and, and_true, Nat.le_refl, true_or, or_true, reduceCtorEq, Nat.add_zero, Nat.reduceLT, Bool.and_self, Bool.not_true, Fin.isValue, Nat.reduceLeDiff, List.take_nil, List.drop_nil, mm_i1, mm_i2, mm_i3, mm_i4, mm_i5, mm_i6, mm_i7, mm_i16, mm_i17, mm_i18, mm_i19, mm_i20, mm_i21, mm_i22, mm_i23, mm_l3, mm_l4, mm_l5, mm_l6, mm_l7, mm_l18, mm_l19, mm_l20, mm_l21, mm_l22, kdX3_cornerAt, ct_X3_cornerAt, flX3, sp_X3_walkOf, sp_X2_size, sp_X3_checkIndex, sp_X2_cornerOf]
    refine ⟨h1, fun w ca ew hw => ?_, fun h => hx _ ⟨rfl, ok1.n (fun h2 => h h2.1)⟩⟩
    have hv := (ha.2.1 w hw).1
    have v1 := hv.1
    exact ⟨wk_is hw.k M d, hw.k, h2, ⟨by omega, by omega⟩, fun cb => ⟨wk_is hw.k M d, hw.k, ha.1, hv, h2, fun r hr => hq r ⟨⟨by omega, by omega⟩, by unfold C_cornerAt; rw [show wk a = w from ew.symm]; exact ok1.y ⟨ca, cb⟩ ⟨hr.1, .rf⟩⟩⟩, fun h => hx _ ⟨rfl, ok1.n (fun h2 => h (by have := h2.2; unfold onW at this; rw [show wk a = w from ew.symm] at this; exact this))⟩⟩
  · exact h.elim
theorem me_X3_cornerAt {l : Launch} (hl : l.stackTraces = false) : mm_Met l yX3_cornerAt cX3_cornerAt 4 (some .int) [] 9 164 2 sp_X3_cornerAt := mm_mt hl rn_X3_cornerAt ⟨plX3, rfl⟩ kkX3_cornerAt rfl ⟨Nat.le_of_ble_eq_true rfl, Nat.le_of_ble_eq_true rfl⟩ flkX3 (fun _ h => nomatch h) (⟨mm_pe (me_X3_walkOf hl) mwX3_walkOf (mm_t2 209 rfl rfl) (Nat.le_of_ble_eq_true rfl) (Nat.le_of_ble_eq_true rfl), mm_pe (me_X2_size hl) mwX2_size (mm_t3 40 rfl rfl) (Nat.le_of_ble_eq_true rfl) (Nat.le_of_ble_eq_true rfl), mm_pe (me_X3_checkIndex hl) mwX3_checkIndex (mm_t4 27 rfl rfl) (Nat.le_of_ble_eq_true rfl) (Nat.le_of_ble_eq_true rfl), mm_pe (me_X2_cornerOf hl) mwX2_cornerOf (mm_t4 35 rfl rfl) (Nat.le_of_ble_eq_true rfl) (Nat.le_of_ble_eq_true rfl), trivial⟩) (mm_xe0 _) n9X3
def sp_X3_stepAt : mm_S := fun av M d Q => match av with
  | [.inr (.inr (.inl o)), .inl a, .inl b] =>  o = 1 ∧ wA M ∧ InI a ∧ InI b ∧ (∀ r, InI r ∧ C_stepAt a b M M 0 r → Q (.inl (some (mm_I r))) M d) ∧ (∀ k, k = 0 ∧ C_stepAt a b M M 1 0 → Q (.inr k) M d)
  | _ => False
def ct_X3_stepAt : List (Nat × mm_Ca) := [(145, (0, 2, 10, sp_X3_walkOf, 1)), (149, (0, 1, 12, sp_X2_size, 0)), (181, (1, 2, 0, sp_X3_checkIndex, 1)), (227, (0, 2, 12, sp_X2_stepOf, 0))]
abbrev rr_X3_stepAt (Q : mm_Q) := mm_run (mm_look flX3) (mm_look ct_X3_stepAt) mm_x0 (mm_look ([] : List (Nat × Int))) (fun _ => none) 1 2 (fun _ _ => none) Q kdX3_stepAt
set_option maxRecDepth 20000 in
theorem rn_X3_stepAt : mm_RN flX3 ct_X3_stepAt mm_x0 [] 1 2 4 kdX3_stepAt sp_X3_stepAt := by
  intro av M d Q h
  unfold sp_X3_stepAt at h
  split at h
  · rename_i o a b
    obtain ⟨rfl, ha, h1, h2, hq, hx⟩ := h
    refine ⟨Nat.le_of_ble_eq_true rfl, mm_run_at (stop := []) (S := mm_F0) kkX3_stepAt 80 ?_ mm_F0h⟩
    simp only [mm_wp, mm_op, mm_nxt, mm_jmp, mm_at, mm_in, mm_nth, mm_set, mm_ok, mm_isL, mm_ret, mm_isRet, mm_bool, mm_call, mm_push, mm_rv, mm_cats, mm_cat, mm_look, mm_ft, mm_fv, mm_pf, mm_thr, mm_ent, mm_pad, mm_fl, beq_self_eq_true, cond_true, cond_false, Nat.reduceBEq, Nat.reduceEqDiff, List.drop_succ_cons, List.drop_zero, List.take_succ_cons, List.take_zero, List.reverse_cons, List.reverse_nil, List.nil_append, List.cons_append, List.length_cons, List.length_nil, Nat.reduceAdd, Nat.reduceSub, Nat.reduceLeDiff, Bool.not_false, Bool.and_true, Bool.true_and, Nat.zero_add, true_and, and_true, Nat.le_refl, true_or, or_true, reduceCtorEq, Nat.add_zero, Nat.reduceLT, Bool.and_self, Bool.not_true, Fin.isValue, Nat.reduceLeDiff, List.take_nil, List.drop_nil, mm_i1, mm_i2, mm_i3, mm_i4, mm_i5, mm_i6, mm_i7, mm_i16, mm_i17, mm_i18, mm_i19, mm_i20, mm_i21, mm_i22, mm_i23, mm_l3, mm_l4, mm_l5, mm_l6, mm_l7, mm_l18, mm_l19, mm_l20, mm_l21, mm_l22, kdX3_stepAt, ct_X3_stepAt, flX3, sp_X3_walkOf, sp_X2_size, sp_X3_checkIndex, sp_X2_stepOf]
    refine ⟨h1, fun w ca ew hw => ?_, fun h => hx _ ⟨rfl, ok1.n (fun h2 => h h2.1)⟩⟩
    have hv := (ha.2.1 w hw).1
    have v1 := hv.1
    have t1 := ha.1.1
    exact ⟨wk_is hw.k M d, hw.k, h2, ⟨by omega, by omega⟩, fun cb => ⟨wk_is hw.k M d, hw.k, ha.1, hv, h2, fun r hr => hq r ⟨⟨by omega, by omega⟩, by unfold C_stepAt; rw [show wk a = w from ew.symm]; exact ok1.y ⟨ca, by omega, by omega⟩ ⟨by rw [hr.1]; unfold stp; rw [if_pos (by omega)], .rf⟩⟩⟩, fun h => hx _ ⟨rfl, ok1.n (fun h2 => h (by have := h2.2; rw [show wk a = w from ew.symm] at this; omega))⟩⟩
  · exact h.elim
theorem me_X3_stepAt {l : Launch} (hl : l.stackTraces = false) : mm_Met l yX3_stepAt cX3_stepAt 4 (some .int) [] 7 121 2 sp_X3_stepAt := mm_mt hl rn_X3_stepAt ⟨plX3, rfl⟩ kkX3_stepAt rfl ⟨Nat.le_of_ble_eq_true rfl, Nat.le_of_ble_eq_true rfl⟩ flkX3 (fun _ h => nomatch h) (⟨mm_pe (me_X3_walkOf hl) mwX3_walkOf (mm_t2 209 rfl rfl) (Nat.le_of_ble_eq_true rfl) (Nat.le_of_ble_eq_true rfl), mm_pe (me_X2_size hl) mwX2_size (mm_t3 40 rfl rfl) (Nat.le_of_ble_eq_true rfl) (Nat.le_of_ble_eq_true rfl), mm_pe (me_X3_checkIndex hl) mwX3_checkIndex (mm_t4 27 rfl rfl) (Nat.le_of_ble_eq_true rfl) (Nat.le_of_ble_eq_true rfl), mm_pe (me_X2_stepOf hl) mwX2_stepOf (mm_t3 46 rfl rfl) (Nat.le_of_ble_eq_true rfl) (Nat.le_of_ble_eq_true rfl), trivial⟩) (mm_xe0 _) n9X3
def sp_X3_find : mm_S := fun av M d Q => match av with
  | [.inr (.inr (.inl o)), .inl a, .inl b] =>  o = 1 ∧ wA M ∧ InI a ∧ InI b ∧ (∀ r, InI r ∧ C_find a b M M 0 r → Q (.inl (some (mm_I r))) M d) ∧ (∀ k, k = 0 ∧ C_find a b M M 1 0 → Q (.inr k) M d)
  | _ => False
def ct_X3_find : List (Nat × mm_Ca) := [(145, (0, 2, 10, sp_X3_walkOf, 1)), (76, (0, 2, 10, sp_X3_checkStreet, 1)), (79, (0, 2, 12, sp_X2_placeOf, 0))]
abbrev rr_X3_find (Q : mm_Q) := mm_run (mm_look flX3) (mm_look ct_X3_find) mm_x0 (mm_look ([] : List (Nat × Int))) (fun _ => none) 1 2 (fun _ _ => none) Q kdX3_find
set_option maxRecDepth 20000 in
theorem rn_X3_find : mm_RN flX3 ct_X3_find mm_x0 [] 1 2 4 kdX3_find sp_X3_find := by
  intro av M d Q h
  unfold sp_X3_find at h
  split at h
  · rename_i o a b
    obtain ⟨rfl, ha, h1, h2, hq, hx⟩ := h
    refine ⟨Nat.le_of_ble_eq_true rfl, mm_run_at (stop := []) (S := mm_F0) kkX3_find 80 ?_ mm_F0h⟩
    simp only [mm_wp, mm_op, mm_nxt, mm_jmp, mm_at, mm_in, mm_nth, mm_set, mm_ok, mm_isL, mm_ret, mm_isRet, mm_bool, mm_call, mm_push, mm_rv, mm_cats, mm_cat, mm_look, mm_ft, mm_fv, mm_pf, mm_thr, mm_ent, mm_pad, mm_fl, beq_self_eq_true, cond_true, cond_false, Nat.reduceBEq, Nat.reduceEqDiff, List.drop_succ_cons, List.drop_zero, List.take_succ_cons, List.take_zero, List.reverse_cons, List.reverse_nil, List.nil_append, List.cons_append, List.length_cons, List.length_nil, Nat.reduceAdd, Nat.reduceSub, Nat.reduceLeDiff, Bool.not_false, Bool.and_true, Bool.true_and, Nat.zero_add, true_and, and_true, Nat.le_refl, true_or, or_true, reduceCtorEq, Nat.add_zero, Nat.reduceLT, Bool.and_self, Bool.not_true, Fin.isValue, Nat.reduceLeDiff, List.take_nil, List.drop_nil, mm_i1, mm_i2, mm_i3, mm_i4, mm_i5, mm_i6, mm_i7, mm_i16, mm_i17, mm_i18, mm_i19, mm_i20, mm_i21, mm_i22, mm_i23, mm_l3, mm_l4, mm_l5, mm_l6, mm_l7, mm_l18, mm_l19, mm_l20, mm_l21, mm_l22, kdX3_find, ct_X3_find, flX3, sp_X3_walkOf, sp_X3_checkStreet, sp_X2_placeOf]
    refine ⟨h1, fun w ca ew hw => ?_, fun h => hx _ ⟨rfl, ok1.n (fun h2 => h h2.1)⟩⟩
    have hv := (ha.2.1 w hw).1
    have v1 := hv.1
    exact ⟨ha, h2, fun cb => ⟨wk_is hw.k M d, hw.k, ha.1, hv, h2, fun r hr => hq r ⟨by rcases hr with h | h <;> exact ⟨by omega, by omega⟩, by unfold C_find; rw [show wk a = w from ew.symm]; exact ok1.y ⟨ca, cb⟩ ⟨hr, .rf⟩⟩⟩, fun h => hx _ ⟨rfl, ok1.n (fun h2 => h h2.2)⟩⟩
  · exact h.elim
theorem me_X3_find {l : Launch} (hl : l.stackTraces = false) : mm_Met l yX3_find cX3_find 4 (some .int) [] 8 141 2 sp_X3_find := mm_mt hl rn_X3_find ⟨plX3, rfl⟩ kkX3_find rfl ⟨Nat.le_of_ble_eq_true rfl, Nat.le_of_ble_eq_true rfl⟩ flkX3 (fun _ h => nomatch h) (⟨mm_pe (me_X3_walkOf hl) mwX3_walkOf (mm_t2 209 rfl rfl) (Nat.le_of_ble_eq_true rfl) (Nat.le_of_ble_eq_true rfl), mm_pe (me_X3_checkStreet hl) mwX3_checkStreet (mm_t3 148 rfl rfl) (Nat.le_of_ble_eq_true rfl) (Nat.le_of_ble_eq_true rfl), mm_pe (me_X2_placeOf hl) mwX2_placeOf (mm_t3 153 rfl rfl) (Nat.le_of_ble_eq_true rfl) (Nat.le_of_ble_eq_true rfl), trivial⟩) (mm_xe0 _) n9X3
def sp_X3_is : mm_S := fun av M d Q => match av with
  | [.inr (.inr (.inl o)), .inl a, .inl f] =>  o = 1 ∧ wA M ∧ InI a ∧ (f = 0 ∨ f = 1) ∧ (∀ r, (r = 0 ∨ r = 1) ∧ C_is a f M M 0 r → Q (.inl (some (mm_I r))) M d) ∧ (∀ k, k = 0 ∧ C_is a f M M 1 0 → Q (.inr k) M d)
  | _ => False
def ct_X3_is : List (Nat × mm_Ca) := [(145, (0, 2, 10, sp_X3_walkOf, 1)), (218, (0, 1, 12, sp_X2_isWhole, 0)), (212, (0, 1, 12, sp_X2_isHome, 0))]
abbrev rr_X3_is (Q : mm_Q) := mm_run (mm_look flX3) (mm_look ct_X3_is) mm_x0 (mm_look ([] : List (Nat × Int))) (fun _ => none) 2 1 (fun _ _ => none) Q kdX3_is
set_option maxRecDepth 20000 in
theorem rn_X3_is : mm_RN flX3 ct_X3_is mm_x0 [] 2 1 4 kdX3_is sp_X3_is := by
  intro av M d Q h
  unfold sp_X3_is at h
  split at h
  · rename_i o a f
    obtain ⟨rfl, ha, h1, h2, hq, hx⟩ := h
    refine ⟨Nat.le_of_ble_eq_true rfl, mm_run_at (stop := []) (S := mm_F0) kkX3_is 80 ?_ mm_F0h⟩
    simp only [mm_wp, mm_op, mm_nxt, mm_jmp, mm_at, mm_in, mm_nth, mm_set, mm_ok, mm_isL, mm_ret, mm_isRet, mm_bool, mm_call, mm_push, mm_rv, mm_cats, mm_cat, mm_look, mm_ft, mm_fv, mm_pf, mm_thr, mm_ent, mm_pad, mm_fl, beq_self_eq_true, cond_true, cond_false, Nat.reduceBEq, Nat.reduceEqDiff, List.drop_succ_cons, List.drop_zero, List.take_succ_cons, List.take_zero, List.reverse_cons, List.reverse_nil, List.nil_append, List.cons_append, List.length_cons, List.length_nil, Nat.reduceAdd, Nat.reduceSub, Nat.reduceLeDiff, Bool.not_false, Bool.and_true, Bool.true_and, Nat.zero_add, true_and, and_true, Nat.le_refl, true_or, or_true, reduceCtorEq, Nat.add_zero, Nat.reduceLT, Bool.and_self, Bool.not_true, Fin.isValue, Nat.reduceLeDiff, List.take_nil, List.drop_nil, mm_i1, mm_i2, mm_i3, mm_i4, mm_i5, mm_i6, mm_i7, mm_i16, mm_i17, mm_i18, mm_i19, mm_i20, mm_i21, mm_i22, mm_i23, mm_l3, mm_l4, mm_l5, mm_l6, mm_l7, mm_l18, mm_l19, mm_l20, mm_l21, mm_l22, kdX3_is, ct_X3_is, flX3, sp_X3_walkOf, sp_X2_isWhole, sp_X2_isHome]
    refine ⟨h1, fun w ca ew hw => ?_, fun h => hx _ ⟨rfl, ok1.n h⟩⟩
    have hv := (ha.2.1 w hw).1
    have hk := hw.k
    exact ⟨⟨by omega, by omega⟩, fun h0 => ⟨wk_is hk M d, hk, ha.1, hv, fun r hr => ⟨in01 (P := cor M w (M w 2) = M w 3) hr, hq r ⟨in01 (P := cor M w (M w 2) = M w 3) hr, by unfold C_is; rw [show wk a = w from ew.symm]; exact ok1.y ca ⟨by first | (rw [if_pos (by omega)]; exact b01.of hr) | (rw [if_neg (by omega)]; exact b01.of hr), .rf⟩⟩⟩⟩, fun h0 => ⟨wk_is hk M d, hk, ha.1, hv, fun r hr => ⟨in01 (P := M w 2 = M 2 4) hr, hq r ⟨in01 (P := M w 2 = M 2 4) hr, by unfold C_is; rw [show wk a = w from ew.symm]; exact ok1.y ca ⟨by first | (rw [if_neg (by omega)]; exact b01.of hr) | (rw [if_pos (by omega)]; exact b01.of hr), .rf⟩⟩⟩⟩⟩
  · exact h.elim
theorem me_X3_is {l : Launch} (hl : l.stackTraces = false) : mm_Met l yX3_is cX3_is 4 (some .boolean) [] 10 184 1 sp_X3_is := mm_mt hl rn_X3_is ⟨plX3, rfl⟩ kkX3_is rfl ⟨Nat.le_of_ble_eq_true rfl, Nat.le_of_ble_eq_true rfl⟩ flkX3 (fun _ h => nomatch h) (⟨mm_pe (me_X3_walkOf hl) mwX3_walkOf (mm_t2 209 rfl rfl) (Nat.le_of_ble_eq_true rfl) (Nat.le_of_ble_eq_true rfl), mm_pe (me_X2_isWhole hl) mwX2_isWhole (mm_t2 138 rfl rfl) (Nat.le_of_ble_eq_true rfl) (Nat.le_of_ble_eq_true rfl), mm_pe (me_X2_isHome hl) mwX2_isHome (mm_t2 143 rfl rfl) (Nat.le_of_ble_eq_true rfl) (Nat.le_of_ble_eq_true rfl), trivial⟩) (mm_xe0 _) n9X3
def sp_X3_same : mm_S := fun av M d Q => match av with
  | [.inr (.inr (.inl o)), .inl a, .inl b] =>  o = 1 ∧ wA M ∧ InI a ∧ InI b ∧ (∀ r, (r = 0 ∨ r = 1) ∧ C_same a b M M 0 r → Q (.inl (some (mm_I r))) M d) ∧ (∀ k, k = 0 ∧ C_same a b M M 1 0 → Q (.inr k) M d)
  | _ => False
def ct_X3_same : List (Nat × mm_Ca) := [(145, (0, 2, 10, sp_X3_walkOf, 1)), (230, (0, 3, 12, sp_X2_isSameTurned, 0))]
abbrev rr_X3_same (Q : mm_Q) := mm_run (mm_look flX3) (mm_look ct_X3_same) mm_x0 (mm_look ([] : List (Nat × Int))) (fun _ => none) 2 2 (fun _ _ => none) Q kdX3_same
set_option maxRecDepth 20000 in
theorem rn_X3_same : mm_RN flX3 ct_X3_same mm_x0 [] 2 2 5 kdX3_same sp_X3_same := by
  intro av M d Q h
  unfold sp_X3_same at h
  split at h
  · rename_i o a b
    obtain ⟨rfl, ha, h1, h2, hq, hx⟩ := h
    refine ⟨Nat.le_of_ble_eq_true rfl, mm_run_at (stop := []) (S := mm_F0) kkX3_same 80 ?_ mm_F0h⟩
    simp only [mm_wp, mm_op, mm_nxt, mm_jmp, mm_at, mm_in, mm_nth, mm_set, mm_ok, mm_isL, mm_ret, mm_isRet, mm_bool, mm_call, mm_push, mm_rv, mm_cats, mm_cat, mm_look, mm_ft, mm_fv, mm_pf, mm_thr, mm_ent, mm_pad, mm_fl, beq_self_eq_true, cond_true, cond_false, Nat.reduceBEq, Nat.reduceEqDiff, List.drop_succ_cons, List.drop_zero, List.take_succ_cons, List.take_zero, List.reverse_cons, List.reverse_nil, List.nil_append, List.cons_append, List.length_cons, List.length_nil, Nat.reduceAdd, Nat.reduceSub, Nat.reduceLeDiff, Bool.not_false, Bool.and_true, Bool.true_and, Nat.zero_add, true_and, and_true, Nat.le_refl, true_or, or_true, reduceCtorEq, Nat.add_zero, Nat.reduceLT, Bool.and_self, Bool.not_true, Fin.isValue, Nat.reduceLeDiff, List.take_nil, List.drop_nil, mm_i1, mm_i2, mm_i3, mm_i4, mm_i5, mm_i6, mm_i7, mm_i16, mm_i17, mm_i18, mm_i19, mm_i20, mm_i21, mm_i22, mm_i23, mm_l3, mm_l4, mm_l5, mm_l6, mm_l7, mm_l18, mm_l19, mm_l20, mm_l21, mm_l22, kdX3_same, ct_X3_same, flX3, sp_X3_walkOf, sp_X2_isSameTurned]
    refine ⟨h1, fun w ca ew hw => ⟨h2, fun v cb ev hv => ⟨wk_is hw.k M d, hw.k, hv.k, ha.1, (ha.2.1 w hw).1, (ha.2.1 v hv).1, by omega, fun r hr => ⟨hr.1, hq r ⟨hr.1, by unfold C_same; rw [show wk a = w from ew.symm, show wk b = v from ev.symm]; exact ok1.y ⟨ca, cb⟩ ⟨⟨hr.1, by rw [sm_tn (ha.2.1 w hw).1.1.1]; exact hr.2⟩, .rf⟩⟩⟩⟩, fun h => hx _ ⟨rfl, ok1.n (fun h2 => h h2.2)⟩⟩, fun h => hx _ ⟨rfl, ok1.n (fun h2 => h h2.1)⟩⟩
  · exact h.elim
theorem me_X3_same {l : Launch} (hl : l.stackTraces = false) : mm_Met l yX3_same cX3_same 5 (some .boolean) [] 10 187 2 sp_X3_same := mm_mt hl rn_X3_same ⟨plX3, rfl⟩ kkX3_same rfl ⟨Nat.le_of_ble_eq_true rfl, Nat.le_of_ble_eq_true rfl⟩ flkX3 (fun _ h => nomatch h) (⟨mm_pe (me_X3_walkOf hl) mwX3_walkOf (mm_t2 209 rfl rfl) (Nat.le_of_ble_eq_true rfl) (Nat.le_of_ble_eq_true rfl), mm_pe (me_X2_isSameTurned hl) mwX2_isSameTurned (mm_t4 172 rfl rfl) (Nat.le_of_ble_eq_true rfl) (Nat.le_of_ble_eq_true rfl), trivial⟩) (mm_xe0 _) n9X3
def sp_X3_turnOf : mm_S := fun av M d Q => match av with
  | [.inr (.inr (.inl o)), .inl a, .inl b] =>  o = 1 ∧ wA M ∧ InI a ∧ InI b ∧ (∀ r, InI r ∧ C_turnOf a b M M 0 r → Q (.inl (some (mm_I r))) M d) ∧ (∀ k, k = 0 ∧ C_turnOf a b M M 1 0 → Q (.inr k) M d)
  | _ => False
def ct_X3_turnOf : List (Nat × mm_Ca) := [(145, (0, 2, 10, sp_X3_walkOf, 1)), (234, (0, 2, 12, sp_X2_turnTo, 0))]
abbrev rr_X3_turnOf (Q : mm_Q) := mm_run (mm_look flX3) (mm_look ct_X3_turnOf) mm_x0 (mm_look ([] : List (Nat × Int))) (fun _ => none) 1 2 (fun _ _ => none) Q kdX3_turnOf
set_option maxRecDepth 20000 in
theorem rn_X3_turnOf : mm_RN flX3 ct_X3_turnOf mm_x0 [] 1 2 5 kdX3_turnOf sp_X3_turnOf := by
  intro av M d Q h
  unfold sp_X3_turnOf at h
  split at h
  · rename_i o a b
    obtain ⟨rfl, ha, h1, h2, hq, hx⟩ := h
    refine ⟨Nat.le_of_ble_eq_true rfl, mm_run_at (stop := []) (S := mm_F0) kkX3_turnOf 80 ?_ mm_F0h⟩
    simp only [mm_wp, mm_op, mm_nxt, mm_jmp, mm_at, mm_in, mm_nth, mm_set, mm_ok, mm_isL, mm_ret, mm_isRet, mm_bool, mm_call, mm_push, mm_rv, mm_cats, mm_cat, mm_look, mm_ft, mm_fv, mm_pf, mm_thr, mm_ent, mm_pad, mm_fl, beq_self_eq_true, cond_true, cond_false, Nat.reduceBEq, Nat.reduceEqDiff, List.drop_succ_cons, List.drop_zero, List.take_succ_cons, List.take_zero, List.reverse_cons, List.reverse_nil, List.nil_append, List.cons_append, List.length_cons, List.length_nil, Nat.reduceAdd, Nat.reduceSub, Nat.reduceLeDiff, Bool.not_false, Bool.and_true, Bool.true_and, Nat.zero_add, true_and, and_true, Nat.le_refl, true_or, or_true, reduceCtorEq, Nat.add_zero, Nat.reduceLT, Bool.and_self, Bool.not_true, Fin.isValue, Nat.reduceLeDiff, List.take_nil, List.drop_nil, mm_i1, mm_i2, mm_i3, mm_i4, mm_i5, mm_i6, mm_i7, mm_i16, mm_i17, mm_i18, mm_i19, mm_i20, mm_i21, mm_i22, mm_i23, mm_l3, mm_l4, mm_l5, mm_l6, mm_l7, mm_l18, mm_l19, mm_l20, mm_l21, mm_l22, kdX3_turnOf, ct_X3_turnOf, flX3, sp_X3_walkOf, sp_X2_turnTo]
    refine ⟨h1, fun w ca ew hw => ⟨h2, fun v cb ev hv => ⟨wk_is hw.k M d, hw.k, hv.k, ha.1, (ha.2.1 w hw).1, (ha.2.1 v hv).1, fun r hr => hq r ⟨⟨by omega, by omega⟩, by unfold C_turnOf; rw [show wk a = w from ew.symm, show wk b = v from ev.symm]; exact ok1.y ⟨ca, cb⟩ ⟨hr.2, .rf⟩⟩⟩, fun h => hx _ ⟨rfl, ok1.n (fun h2 => h h2.2)⟩⟩, fun h => hx _ ⟨rfl, ok1.n (fun h2 => h h2.1)⟩⟩
  · exact h.elim
theorem me_X3_turnOf {l : Launch} (hl : l.stackTraces = false) : mm_Met l yX3_turnOf cX3_turnOf 5 (some .int) [] 11 209 2 sp_X3_turnOf := mm_mt hl rn_X3_turnOf ⟨plX3, rfl⟩ kkX3_turnOf rfl ⟨Nat.le_of_ble_eq_true rfl, Nat.le_of_ble_eq_true rfl⟩ flkX3 (fun _ h => nomatch h) (⟨mm_pe (me_X3_walkOf hl) mwX3_walkOf (mm_t2 209 rfl rfl) (Nat.le_of_ble_eq_true rfl) (Nat.le_of_ble_eq_true rfl), mm_pe (me_X2_turnTo hl) mwX2_turnTo (mm_t3 47 rfl rfl) (Nat.le_of_ble_eq_true rfl) (Nat.le_of_ble_eq_true rfl), trivial⟩) (mm_xe0 _) n9X3
def sp_X3_wordAt : mm_S := fun av M d Q => match av with
  | [.inr (.inr (.inl o)), .inl a, .inl b, .inl c] =>  o = 1 ∧ wA M ∧ InI a ∧ InI b ∧ InI c ∧ (∀ r, InI r ∧ C_wordAt a b c M M 0 r → Q (.inl (some (mm_I r))) M d) ∧ (∀ k, (k = 0 ∧ C_wordAt a b c M M 1 0) ∨ (k = 1 ∧ C_wordAt a b c M M 2 0) → Q (.inr k) M d)
  | _ => False
def ct_X3_wordAt : List (Nat × mm_Ca) := [(145, (0, 2, 10, sp_X3_walkOf, 1)), (59, (1, 3, 0, sp_X3_checkRange, 1)), (260, (0, 3, 12, sp_X2_placeOfWord, 0))]
abbrev rr_X3_wordAt (Q : mm_Q) := mm_run (mm_look flX3) (mm_look ct_X3_wordAt) mm_x0 (mm_look ([] : List (Nat × Int))) (fun _ => none) 1 3 (fun _ _ => none) Q kdX3_wordAt
set_option maxRecDepth 20000 in
theorem rn_X3_wordAt : mm_RN flX3 ct_X3_wordAt mm_x0 [] 1 3 5 kdX3_wordAt sp_X3_wordAt := by
  intro av M d Q h
  unfold sp_X3_wordAt at h
  split at h
  · rename_i o a b c
    obtain ⟨rfl, ha, h1, h2, h3, hq, hx⟩ := h
    have i0 : InI (0 : Int) := ⟨by omega, by omega⟩
    have i29 : InI (29 : Int) := ⟨by omega, by omega⟩
    refine ⟨Nat.le_of_ble_eq_true rfl, mm_run_at (stop := []) (S := mm_F0) kkX3_wordAt 80 ?_ mm_F0h⟩
    simp only [mm_wp, mm_op, mm_nxt, mm_jmp, mm_at, mm_in, mm_nth, mm_set, mm_ok, mm_isL, mm_ret, mm_isRet, mm_bool, mm_call, mm_push, mm_rv, mm_cats, mm_cat, mm_look, mm_ft, mm_fv, mm_pf, mm_thr, mm_ent, mm_pad, mm_fl, beq_self_eq_true, cond_true, cond_false, Nat.reduceBEq, Nat.reduceEqDiff, List.drop_succ_cons, List.drop_zero, List.take_succ_cons, List.take_zero, List.reverse_cons, List.reverse_nil, List.nil_append, List.cons_append, List.length_cons, List.length_nil, Nat.reduceAdd, Nat.reduceSub, Nat.reduceLeDiff, Bool.not_false, Bool.and_true, Bool.true_and, Nat.zero_add, true_and, and_true, Nat.le_refl, true_or, or_true, reduceCtorEq, Nat.add_zero, Nat.reduceLT, Bool.and_self, Bool.not_true, Fin.isValue, Nat.reduceLeDiff, List.take_nil, List.drop_nil, mm_i1, mm_i2, mm_i3, mm_i4, mm_i5, mm_i6, mm_i7, mm_i16, mm_i17, mm_i18, mm_i19, mm_i20, mm_i21, mm_i22, mm_i23, mm_l3, mm_l4, mm_l5, mm_l6, mm_l7, mm_l18, mm_l19, mm_l20, mm_l21, mm_l22, kdX3_wordAt, ct_X3_wordAt, flX3, sp_X3_walkOf, sp_X3_checkRange, sp_X2_placeOfWord]
    refine ⟨h1, fun w ca ew hw => ⟨by omega, h2, i0, i29, fun c1 => ⟨by omega, h3, i0, i29, fun c2 => ⟨wk_is hw.k M d, hw.k, ha.1, (ha.2.1 w hw).1, by omega, by omega, fun r hr => hq r ⟨⟨by omega, by omega⟩, by unfold C_wordAt; rw [show wk a = w from ew.symm]; exact ok2.y ca ⟨c1, c2⟩ ⟨hr.2, .rf⟩⟩⟩, fun h => hx _ (Or.inr ⟨rfl, ok2.n2 ca (fun h2 => h h2.2)⟩)⟩, fun h => hx _ (Or.inr ⟨rfl, ok2.n2 ca (fun h2 => h h2.1)⟩)⟩, fun h => hx _ (Or.inl ⟨rfl, ok2.n1 h⟩)⟩
  · exact h.elim
theorem me_X3_wordAt {l : Launch} (hl : l.stackTraces = false) : mm_Met l yX3_wordAt cX3_wordAt 5 (some .int) [] 9 169 3 sp_X3_wordAt := mm_mt hl rn_X3_wordAt ⟨plX3, rfl⟩ kkX3_wordAt rfl ⟨Nat.le_of_ble_eq_true rfl, Nat.le_of_ble_eq_true rfl⟩ flkX3 (fun _ h => nomatch h) (⟨mm_pe (me_X3_walkOf hl) mwX3_walkOf (mm_t2 209 rfl rfl) (Nat.le_of_ble_eq_true rfl) (Nat.le_of_ble_eq_true rfl), mm_pe (me_X3_checkRange hl) mwX3_checkRange (mm_t3 102 rfl rfl) (Nat.le_of_ble_eq_true rfl) (Nat.le_of_ble_eq_true rfl), mm_pe (me_X2_placeOfWord hl) mwX2_placeOfWord (mm_t2 155 rfl rfl) (Nat.le_of_ble_eq_true rfl) (Nat.le_of_ble_eq_true rfl), trivial⟩) (mm_xe0 _) n9X3
def sp_X3_cursor : mm_S := fun av M d Q => match av with
  | [.inr (.inr (.inl o)), .inl a, .inl b] =>  o = 1 ∧ wA M ∧ InI a ∧ InI b ∧ (∀ M' r, cP M M' ∧ InI r ∧ C_cursor a b M M' 0 r → Q (.inl (some (mm_I r))) M' d) ∧ (∀ k, k = 0 ∧ C_cursor a b M M 1 0 → Q (.inr k) M d)
  | _ => False
def ct_X3_cursor : List (Nat × mm_Ca) := [(145, (0, 2, 10, sp_X3_walkOf, 1)), (149, (0, 1, 12, sp_X2_size, 0)), (181, (1, 2, 0, sp_X3_checkIndex, 1)), (263, (0, 3, 13, sp_X0_standOn, 0)), (188, (0, 2, 12, sp_X2_cornerOf, 0)), (44, (0, 2, 10, sp_X3_counted, 0))]
abbrev rr_X3_cursor (Q : mm_Q) := mm_run (mm_look flX3) (mm_look ct_X3_cursor) mm_x0 (mm_look ([] : List (Nat × Int))) (fun _ => none) 1 2 (fun _ _ => none) Q kdX3_cursor
set_option maxRecDepth 20000 in
theorem rn_X3_cursor : mm_RN flX3 ct_X3_cursor mm_x0 [] 1 2 4 kdX3_cursor sp_X3_cursor := by
  intro av M d Q h
  unfold sp_X3_cursor at h
  split at h
  · rename_i o a b
    obtain ⟨rfl, ha, h1, h2, hq, hx⟩ := h
    refine ⟨Nat.le_of_ble_eq_true rfl, mm_run_at (stop := []) (S := mm_F0) kkX3_cursor 80 ?_ mm_F0h⟩
    simp only [mm_wp, mm_op, mm_nxt, mm_jmp, mm_at, mm_in, mm_nth, mm_set, mm_ok, mm_isL, mm_ret, mm_isRet, mm_bool, mm_call, mm_push, mm_rv, mm_cats, mm_cat, mm_look, mm_ft, mm_fv, mm_pf, mm_thr, mm_ent, mm_pad, mm_fl, beq_self_eq_true, cond_true, cond_false, Nat.reduceBEq, Nat.reduceEqDiff, List.drop_succ_cons, List.drop_zero, List.take_succ_cons, List.take_zero, List.reverse_cons, List.reverse_nil, List.nil_append, List.cons_append, List.length_cons, List.length_nil, Nat.reduceAdd, Nat.reduceSub, Nat.reduceLeDiff, Bool.not_false, Bool.and_true, Bool.true_and, Nat.zero_add, true_and, and_true, Nat.le_refl, true_or, or_true, reduceCtorEq, Nat.add_zero, Nat.reduceLT, Bool.and_self, Bool.not_true, Fin.isValue, Nat.reduceLeDiff, List.take_nil, List.drop_nil, mm_i1, mm_i2, mm_i3, mm_i4, mm_i5, mm_i6, mm_i7, mm_i16, mm_i17, mm_i18, mm_i19, mm_i20, mm_i21, mm_i22, mm_i23, mm_l3, mm_l4, mm_l5, mm_l6, mm_l7, mm_l18, mm_l19, mm_l20, mm_l21, mm_l22, kdX3_cursor, ct_X3_cursor, flX3, sp_X3_walkOf, sp_X2_size, sp_X3_checkIndex, sp_X0_standOn, sp_X2_cornerOf, sp_X3_counted]
    refine ⟨h1, fun w ca ew hw => ?_, fun h => hx _ ⟨rfl, ok1.n (fun h2 => h h2.1)⟩⟩
    have hv := (ha.2.1 w hw).1
    have hk := hw.k
    have hl := isK_le hk
    have v1 := hv.1
    refine ⟨wk_is hk M d, hk, h2, ⟨by omega, by omega⟩, fun cb => ⟨hw, ?_⟩, fun h => hx _ ⟨rfl, ok1.n (fun h2 => h (by have := h2.2; unfold onW at this; rw [show wk a = w from ew.symm] at this; exact this))⟩⟩
    have hf : fr [16] M (mm_up (mm_up (mm_up (mm_up M 16 1 w) 16 2 b) 16 3 (-1)) 16 4 0) := (((fr.rf.up (by simp)).up (by simp)).up (by simp)).up (by simp)
    have hw' := hf w (by simp; omega)
    have hP := ha.c hf ⟨Or.inr (by simp [mm_up]; exact hw), Or.inl (by simp [mm_up]), fun _ _ => by
      have e1 : (mm_up (mm_up (mm_up (mm_up M 16 1 w) 16 2 b) 16 3 (-1)) 16 4 0) 16 1 = w := by simp [mm_up]
      have e2 : (mm_up (mm_up (mm_up (mm_up M 16 1 w) 16 2 b) 16 3 (-1)) 16 4 0) 16 2 = b := by simp [mm_up]
      have e3 : (mm_up (mm_up (mm_up (mm_up M 16 1 w) 16 2 b) 16 3 (-1)) 16 4 0) 16 3 = -1 := by simp [mm_up]
      rw [e1, e2, e3, Int.toNat_natCast, hw']
      omega⟩
    exact ⟨wk_is hk _ d, hk, hP.1.1, (hP.1.2.1 w hw).1, h2, fun r hr => ⟨hP.1, ⟨by omega, by omega⟩, fun M2 h => hq M2 _ ⟨hP.tr h.1, ⟨by omega, by omega⟩, by unfold C_cursor; rw [show wk a = w from ew.symm]; exact ok1.y ⟨ca, cb⟩ ⟨by rw [hr.1]; unfold cor gl; rw [hf 3 (by simp), hf 4 (by simp), hf w (by simp; omega), hf (w + 1) (by simp; omega)], SE.eq h.2⟩⟩⟩⟩
  · exact h.elim
theorem me_X3_cursor {l : Launch} (hl : l.stackTraces = false) : mm_Met l yX3_cursor cX3_cursor 4 (some .int) [] 9 164 2 sp_X3_cursor := mm_mt hl rn_X3_cursor ⟨plX3, rfl⟩ kkX3_cursor rfl ⟨Nat.le_of_ble_eq_true rfl, Nat.le_of_ble_eq_true rfl⟩ flkX3 (fun _ h => nomatch h) (⟨mm_pe (me_X3_walkOf hl) mwX3_walkOf (mm_t2 209 rfl rfl) (Nat.le_of_ble_eq_true rfl) (Nat.le_of_ble_eq_true rfl), mm_pe (me_X2_size hl) mwX2_size (mm_t3 40 rfl rfl) (Nat.le_of_ble_eq_true rfl) (Nat.le_of_ble_eq_true rfl), mm_pe (me_X3_checkIndex hl) mwX3_checkIndex (mm_t4 27 rfl rfl) (Nat.le_of_ble_eq_true rfl) (Nat.le_of_ble_eq_true rfl), mm_pe (me_X0_standOn hl) mwX0_standOn (mm_t5 232 rfl rfl) (Nat.le_of_ble_eq_true rfl) (Nat.le_of_ble_eq_true rfl), mm_pe (me_X2_cornerOf hl) mwX2_cornerOf (mm_t4 35 rfl rfl) (Nat.le_of_ble_eq_true rfl) (Nat.le_of_ble_eq_true rfl), mm_pe (me_X3_counted hl) mwX3_counted (mm_t1 155 rfl rfl) (Nat.le_of_ble_eq_true rfl) (Nat.le_of_ble_eq_true rfl), trivial⟩) (mm_xe0 _) n9X3
def sp_X3_cursorGo : mm_S := fun av M d Q => match av with
  | [.inr (.inr (.inl o)), .inl f] =>  o = 1 ∧ wA M ∧ (f = 0 ∨ f = 1) ∧ (∀ M' r, cP M M' ∧ InI r ∧ C_cursorGo f M M' 0 r → Q (.inl (some (mm_I r))) M' d)
  | _ => False
def ct_X3_cursorGo : List (Nat × mm_Ca) := [(266, (0, 2, 13, sp_X0_tell, 0)), (44, (0, 2, 10, sp_X3_counted, 0))]
abbrev rr_X3_cursorGo (Q : mm_Q) := mm_run (mm_look flX3) (mm_look ct_X3_cursorGo) mm_x0 (mm_look ([] : List (Nat × Int))) (fun _ => none) 1 0 (fun _ _ => none) Q kdX3_cursorGo
set_option maxRecDepth 20000 in
theorem rn_X3_cursorGo : mm_RN flX3 ct_X3_cursorGo mm_x0 [] 1 0 2 kdX3_cursorGo sp_X3_cursorGo := by
  intro av M d Q h
  unfold sp_X3_cursorGo at h
  split at h
  · rename_i o f
    obtain ⟨rfl, ha, h1, hq⟩ := h
    refine ⟨Nat.le_of_ble_eq_true rfl, mm_run_at (stop := []) (S := mm_F0) kkX3_cursorGo 80 ?_ mm_F0h⟩
    simp only [mm_wp, mm_op, mm_nxt, mm_jmp, mm_at, mm_in, mm_nth, mm_set, mm_ok, mm_isL, mm_ret, mm_isRet, mm_bool, mm_call, mm_push, mm_rv, mm_cats, mm_cat, mm_look, mm_ft, mm_fv, mm_pf, mm_thr, mm_ent, mm_pad, mm_fl, beq_self_eq_true, cond_true, cond_false, Nat.reduceBEq, Nat.reduceEqDiff, List.drop_succ_cons, List.drop_zero, List.take_succ_cons, List.take_zero, List.reverse_cons, List.reverse_nil, List.nil_append, List.cons_append, List.length_cons, List.length_nil, Nat.reduceAdd, Nat.reduceSub, Nat.reduceLeDiff, Bool.not_false, Bool.and_true, Bool.true_and, Nat.zero_add, true_and, and_true, Nat.le_refl, true_or, or_true, reduceCtorEq, Nat.add_zero, Nat.reduceLT, Bool.and_self, Bool.not_true, Fin.isValue, Nat.reduceLeDiff, List.take_nil, List.drop_nil, mm_i1, mm_i2, mm_i3, mm_i4, mm_i5, mm_i6, mm_i7, mm_i16, mm_i17, mm_i18, mm_i19, mm_i20, mm_i21, mm_i22, mm_i23, mm_l3, mm_l4, mm_l5, mm_l6, mm_l7, mm_l18, mm_l19, mm_l20, mm_l21, mm_l22, kdX3_cursorGo, ct_X3_cursorGo, flX3, sp_X0_tell, sp_X3_counted]
    exact ⟨ha, h1, fun M' r h => ⟨h.1.1, ⟨by omega, by omega⟩, fun M2 h2 => hq M2 _ ⟨h.1.tr h2.1, ⟨by omega, by omega⟩, rfl, M', h.2.2, SE.eq h2.2⟩⟩⟩
  · exact h.elim
theorem me_X3_cursorGo {l : Launch} (hl : l.stackTraces = false) : mm_Met l yX3_cursorGo cX3_cursorGo 2 (some .int) [] 9 163 0 sp_X3_cursorGo := mm_mt hl rn_X3_cursorGo ⟨plX3, rfl⟩ kkX3_cursorGo rfl ⟨Nat.le_of_ble_eq_true rfl, Nat.le_of_ble_eq_true rfl⟩ flkX3 (fun _ h => nomatch h) (⟨mm_pe (me_X0_tell hl) mwX0_tell (mm_t2 35 rfl rfl) (Nat.le_of_ble_eq_true rfl) (Nat.le_of_ble_eq_true rfl), mm_pe (me_X3_counted hl) mwX3_counted (mm_t1 155 rfl rfl) (Nat.le_of_ble_eq_true rfl) (Nat.le_of_ble_eq_true rfl), trivial⟩) (mm_xe0 _) n9X3
def sp_X3_cursorSet : mm_S := fun av M d Q => match av with
  | [.inr (.inr (.inl o)), .inl s] =>  o = 1 ∧ wA M ∧ InI s ∧ (∀ M' r, cP M M' ∧ InI r ∧ C_cursorSet s M M' 0 r → Q (.inl (some (mm_I r))) M' d) ∧ (∀ k, k = 0 ∧ C_cursorSet s M M 1 0 → Q (.inr k) M d)
  | _ => False
def ct_X3_cursorSet : List (Nat × mm_Ca) := [(76, (0, 2, 10, sp_X3_checkStreet, 1)), (269, (0, 2, 13, sp_X0_exchangeTold, 0)), (44, (0, 2, 10, sp_X3_counted, 0))]
abbrev rr_X3_cursorSet (Q : mm_Q) := mm_run (mm_look flX3) (mm_look ct_X3_cursorSet) mm_x0 (mm_look ([] : List (Nat × Int))) (fun _ => none) 1 1 (fun _ _ => none) Q kdX3_cursorSet
set_option maxRecDepth 20000 in
theorem rn_X3_cursorSet : mm_RN flX3 ct_X3_cursorSet mm_x0 [] 1 1 2 kdX3_cursorSet sp_X3_cursorSet := by
  intro av M d Q h
  unfold sp_X3_cursorSet at h
  split at h
  · rename_i o s
    obtain ⟨rfl, ha, h1, hq, hx⟩ := h
    refine ⟨Nat.le_of_ble_eq_true rfl, mm_run_at (stop := []) (S := mm_F0) kkX3_cursorSet 80 ?_ mm_F0h⟩
    simp only [mm_wp, mm_op, mm_nxt, mm_jmp, mm_at, mm_in, mm_nth, mm_set, mm_ok, mm_isL, mm_ret, mm_isRet, mm_bool, mm_call, mm_push, mm_rv, mm_cats, mm_cat, mm_look, mm_ft, mm_fv, mm_pf, mm_thr, mm_ent, mm_pad, mm_fl, beq_self_eq_true, cond_true, cond_false, Nat.reduceBEq, Nat.reduceEqDiff, List.drop_succ_cons, List.drop_zero, List.take_succ_cons, List.take_zero, List.reverse_cons, List.reverse_nil, List.nil_append, List.cons_append, List.length_cons, List.length_nil, Nat.reduceAdd, Nat.reduceSub, Nat.reduceLeDiff, Bool.not_false, Bool.and_true, Bool.true_and, Nat.zero_add, true_and, and_true, Nat.le_refl, true_or, or_true, reduceCtorEq, Nat.add_zero, Nat.reduceLT, Bool.and_self, Bool.not_true, Fin.isValue, Nat.reduceLeDiff, List.take_nil, List.drop_nil, mm_i1, mm_i2, mm_i3, mm_i4, mm_i5, mm_i6, mm_i7, mm_i16, mm_i17, mm_i18, mm_i19, mm_i20, mm_i21, mm_i22, mm_i23, mm_l3, mm_l4, mm_l5, mm_l6, mm_l7, mm_l18, mm_l19, mm_l20, mm_l21, mm_l22, kdX3_cursorSet, ct_X3_cursorSet, flX3, sp_X3_checkStreet, sp_X0_exchangeTold, sp_X3_counted]
    exact ⟨ha, h1, fun c => ⟨ha, c, fun M' r h => ⟨h.1.1, ⟨by omega, by omega⟩, fun M2 h2 => hq M2 _ ⟨h.1.tr h2.1, ⟨by omega, by omega⟩, ok1.y c ⟨M', h.2.2, SE.eq h2.2⟩⟩⟩⟩, fun h => hx _ ⟨rfl, ok1.n h⟩⟩
  · exact h.elim
theorem me_X3_cursorSet {l : Launch} (hl : l.stackTraces = false) : mm_Met l yX3_cursorSet cX3_cursorSet 2 (some .int) [] 10 191 1 sp_X3_cursorSet := mm_mt hl rn_X3_cursorSet ⟨plX3, rfl⟩ kkX3_cursorSet rfl ⟨Nat.le_of_ble_eq_true rfl, Nat.le_of_ble_eq_true rfl⟩ flkX3 (fun _ h => nomatch h) (⟨mm_pe (me_X3_checkStreet hl) mwX3_checkStreet (mm_t3 148 rfl rfl) (Nat.le_of_ble_eq_true rfl) (Nat.le_of_ble_eq_true rfl), mm_pe (me_X0_exchangeTold hl) mwX0_exchangeTold (mm_t6 3 rfl rfl) (Nat.le_of_ble_eq_true rfl) (Nat.le_of_ble_eq_true rfl), mm_pe (me_X3_counted hl) mwX3_counted (mm_t1 155 rfl rfl) (Nat.le_of_ble_eq_true rfl) (Nat.le_of_ble_eq_true rfl), trivial⟩) (mm_xe0 _) n9X3
def sp_X3_cursorAdd : mm_S := fun av M d Q => match av with
  | [.inr (.inr (.inl o)), .inl s] =>  o = 1 ∧ wA M ∧ InI s ∧ (∀ M' r, cP M M' ∧ InI r ∧ C_cursorAdd s M M' 0 r → Q (.inl (some (mm_I r))) M' d) ∧ (∀ k, k = 0 ∧ C_cursorAdd s M M 1 0 → Q (.inr k) M d)
  | _ => False
def ct_X3_cursorAdd : List (Nat × mm_Ca) := [(76, (0, 2, 10, sp_X3_checkStreet, 1)), (272, (0, 2, 13, sp_X0_letIn, 0)), (44, (0, 2, 10, sp_X3_counted, 0))]
abbrev rr_X3_cursorAdd (Q : mm_Q) := mm_run (mm_look flX3) (mm_look ct_X3_cursorAdd) mm_x0 (mm_look ([] : List (Nat × Int))) (fun _ => none) 1 1 (fun _ _ => none) Q kdX3_cursorAdd
set_option maxRecDepth 20000 in
theorem rn_X3_cursorAdd : mm_RN flX3 ct_X3_cursorAdd mm_x0 [] 1 1 2 kdX3_cursorAdd sp_X3_cursorAdd := by
  intro av M d Q h
  unfold sp_X3_cursorAdd at h
  split at h
  · rename_i o s
    obtain ⟨rfl, ha, h1, hq, hx⟩ := h
    refine ⟨Nat.le_of_ble_eq_true rfl, mm_run_at (stop := []) (S := mm_F0) kkX3_cursorAdd 80 ?_ mm_F0h⟩
    simp only [mm_wp, mm_op, mm_nxt, mm_jmp, mm_at, mm_in, mm_nth, mm_set, mm_ok, mm_isL, mm_ret, mm_isRet, mm_bool, mm_call, mm_push, mm_rv, mm_cats, mm_cat, mm_look, mm_ft, mm_fv, mm_pf, mm_thr, mm_ent, mm_pad, mm_fl, beq_self_eq_true, cond_true, cond_false, Nat.reduceBEq, Nat.reduceEqDiff, List.drop_succ_cons, List.drop_zero, List.take_succ_cons, List.take_zero, List.reverse_cons, List.reverse_nil, List.nil_append, List.cons_append, List.length_cons, List.length_nil, Nat.reduceAdd, Nat.reduceSub, Nat.reduceLeDiff, Bool.not_false, Bool.and_true, Bool.true_and, Nat.zero_add, true_and, and_true, Nat.le_refl, true_or, or_true, reduceCtorEq, Nat.add_zero, Nat.reduceLT, Bool.and_self, Bool.not_true, Fin.isValue, Nat.reduceLeDiff, List.take_nil, List.drop_nil, mm_i1, mm_i2, mm_i3, mm_i4, mm_i5, mm_i6, mm_i7, mm_i16, mm_i17, mm_i18, mm_i19, mm_i20, mm_i21, mm_i22, mm_i23, mm_l3, mm_l4, mm_l5, mm_l6, mm_l7, mm_l18, mm_l19, mm_l20, mm_l21, mm_l22, kdX3_cursorAdd, ct_X3_cursorAdd, flX3, sp_X3_checkStreet, sp_X0_letIn, sp_X3_counted]
    exact ⟨ha, h1, fun c => ⟨ha, c, fun M' r h => ⟨h.1.1, ⟨by omega, by omega⟩, fun M2 h2 => hq M2 _ ⟨h.1.tr h2.1, ⟨by omega, by omega⟩, ok1.y c ⟨M', h.2.2, SE.eq h2.2⟩⟩⟩⟩, fun h => hx _ ⟨rfl, ok1.n h⟩⟩
  · exact h.elim
theorem me_X3_cursorAdd {l : Launch} (hl : l.stackTraces = false) : mm_Met l yX3_cursorAdd cX3_cursorAdd 2 (some .int) [] 11 210 1 sp_X3_cursorAdd := mm_mt hl rn_X3_cursorAdd ⟨plX3, rfl⟩ kkX3_cursorAdd rfl ⟨Nat.le_of_ble_eq_true rfl, Nat.le_of_ble_eq_true rfl⟩ flkX3 (fun _ h => nomatch h) (⟨mm_pe (me_X3_checkStreet hl) mwX3_checkStreet (mm_t3 148 rfl rfl) (Nat.le_of_ble_eq_true rfl) (Nat.le_of_ble_eq_true rfl), mm_pe (me_X0_letIn hl) mwX0_letIn (mm_t6 25 rfl rfl) (Nat.le_of_ble_eq_true rfl) (Nat.le_of_ble_eq_true rfl), mm_pe (me_X3_counted hl) mwX3_counted (mm_t1 155 rfl rfl) (Nat.le_of_ble_eq_true rfl) (Nat.le_of_ble_eq_true rfl), trivial⟩) (mm_xe0 _) n9X3
def sp_X3_cursorRemove : mm_S := fun av M d Q => match av with
  | [.inr (.inr (.inl o))] =>  o = 1 ∧ wA M ∧ (∀ M' r, cP M M' ∧ InI r ∧ C_cursorRemove M M' 0 r → Q (.inl (some (mm_I r))) M' d)
  | _ => False
def ct_X3_cursorRemove : List (Nat × mm_Ca) := [(275, (0, 1, 13, sp_X0_removeTold, 0)), (44, (0, 2, 10, sp_X3_counted, 0))]
abbrev rr_X3_cursorRemove (Q : mm_Q) := mm_run (mm_look flX3) (mm_look ct_X3_cursorRemove) mm_x0 (mm_look ([] : List (Nat × Int))) (fun _ => none) 1 0 (fun _ _ => none) Q kdX3_cursorRemove
set_option maxRecDepth 20000 in
theorem rn_X3_cursorRemove : mm_RN flX3 ct_X3_cursorRemove mm_x0 [] 1 0 1 kdX3_cursorRemove sp_X3_cursorRemove := by
  intro av M d Q h
  unfold sp_X3_cursorRemove at h
  split at h
  · rename_i o
    obtain ⟨rfl, ha, hq⟩ := h
    refine ⟨Nat.le_of_ble_eq_true rfl, mm_run_at (stop := []) (S := mm_F0) kkX3_cursorRemove 80 ?_ mm_F0h⟩
    simp only [mm_wp, mm_op, mm_nxt, mm_jmp, mm_at, mm_in, mm_nth, mm_set, mm_ok, mm_isL, mm_ret, mm_isRet, mm_bool, mm_call, mm_push, mm_rv, mm_cats, mm_cat, mm_look, mm_ft, mm_fv, mm_pf, mm_thr, mm_ent, mm_pad, mm_fl, beq_self_eq_true, cond_true, cond_false, Nat.reduceBEq, Nat.reduceEqDiff, List.drop_succ_cons, List.drop_zero, List.take_succ_cons, List.take_zero, List.reverse_cons, List.reverse_nil, List.nil_append, List.cons_append, List.length_cons, List.length_nil, Nat.reduceAdd, Nat.reduceSub, Nat.reduceLeDiff, Bool.not_false, Bool.and_true, Bool.true_and, Nat.zero_add, true_and, and_true, Nat.le_refl, true_or, or_true, reduceCtorEq, Nat.add_zero, Nat.reduceLT, Bool.and_self, Bool.not_true, Fin.isValue, Nat.reduceLeDiff, List.take_nil, List.drop_nil, mm_i1, mm_i2, mm_i3, mm_i4, mm_i5, mm_i6, mm_i7, mm_i16, mm_i17, mm_i18, mm_i19, mm_i20, mm_i21, mm_i22, mm_i23, mm_l3, mm_l4, mm_l5, mm_l6, mm_l7, mm_l18, mm_l19, mm_l20, mm_l21, mm_l22, kdX3_cursorRemove, ct_X3_cursorRemove, flX3, sp_X0_removeTold, sp_X3_counted]
    exact ⟨ha, fun M' r h => ⟨h.1.1, ⟨by omega, by omega⟩, fun M2 h2 => hq M2 _ ⟨h.1.tr h2.1, ⟨by omega, by omega⟩, rfl, M', h.2.2, SE.eq h2.2⟩⟩⟩
  · exact h.elim
theorem me_X3_cursorRemove {l : Launch} (hl : l.stackTraces = false) : mm_Met l yX3_cursorRemove cX3_cursorRemove 1 (some .int) [] 11 206 0 sp_X3_cursorRemove := mm_mt hl rn_X3_cursorRemove ⟨plX3, rfl⟩ kkX3_cursorRemove rfl ⟨Nat.le_of_ble_eq_true rfl, Nat.le_of_ble_eq_true rfl⟩ flkX3 (fun _ h => nomatch h) (⟨mm_pe (me_X0_removeTold hl) mwX0_removeTold (mm_t2 59 rfl rfl) (Nat.le_of_ble_eq_true rfl) (Nat.le_of_ble_eq_true rfl), mm_pe (me_X3_counted hl) mwX3_counted (mm_t1 155 rfl rfl) (Nat.le_of_ble_eq_true rfl) (Nat.le_of_ble_eq_true rfl), trivial⟩) (mm_xe0 _) n9X3
def sp_X3_cursorCan : mm_S := fun av M d Q => match av with
  | [.inr (.inr (.inl o)), .inl f] =>  o = 1 ∧ wA M ∧ (f = 0 ∨ f = 1) ∧ (∀ r, (r = 0 ∨ r = 1) ∧ C_cursorCan f M M 0 r → Q (.inl (some (mm_I r))) M d)
  | _ => False
def ct_X3_cursorCan : List (Nat × mm_Ca) := [(278, (0, 2, 13, sp_X0_hasStep, 0))]
abbrev rr_X3_cursorCan (Q : mm_Q) := mm_run (mm_look flX3) (mm_look ct_X3_cursorCan) mm_x0 (mm_look ([] : List (Nat × Int))) (fun _ => none) 2 0 (fun _ _ => none) Q kdX3_cursorCan
set_option maxRecDepth 20000 in
theorem rn_X3_cursorCan : mm_RN flX3 ct_X3_cursorCan mm_x0 [] 2 0 2 kdX3_cursorCan sp_X3_cursorCan := by
  intro av M d Q h
  unfold sp_X3_cursorCan at h
  split at h
  · rename_i o f
    obtain ⟨rfl, ha, h1, hq⟩ := h
    refine ⟨Nat.le_of_ble_eq_true rfl, mm_run_at (stop := []) (S := mm_F0) kkX3_cursorCan 80 ?_ mm_F0h⟩
    simp only [mm_wp, mm_op, mm_nxt, mm_jmp, mm_at, mm_in, mm_nth, mm_set, mm_ok, mm_isL, mm_ret, mm_isRet, mm_bool, mm_call, mm_push, mm_rv, mm_cats, mm_cat, mm_look, mm_ft, mm_fv, mm_pf, mm_thr, mm_ent, mm_pad, mm_fl, beq_self_eq_true, cond_true, cond_false, Nat.reduceBEq, Nat.reduceEqDiff, List.drop_succ_cons, List.drop_zero, List.take_succ_cons, List.take_zero, List.reverse_cons, List.reverse_nil, List.nil_append, List.cons_append, List.length_cons, List.length_nil, Nat.reduceAdd, Nat.reduceSub, Nat.reduceLeDiff, Bool.not_false, Bool.and_true, Bool.true_and, Nat.zero_add, true_and, and_true, Nat.le_refl, true_or, or_true, reduceCtorEq, Nat.add_zero, Nat.reduceLT, Bool.and_self, Bool.not_true, Fin.isValue, Nat.reduceLeDiff, List.take_nil, List.drop_nil, mm_i1, mm_i2, mm_i3, mm_i4, mm_i5, mm_i6, mm_i7, mm_i16, mm_i17, mm_i18, mm_i19, mm_i20, mm_i21, mm_i22, mm_i23, mm_l3, mm_l4, mm_l5, mm_l6, mm_l7, mm_l18, mm_l19, mm_l20, mm_l21, mm_l22, kdX3_cursorCan, ct_X3_cursorCan, flX3, sp_X0_hasStep]
    exact ⟨ha, h1, fun r h => ⟨h.1, hq r ⟨h.1, rfl, h, .rf⟩⟩⟩
  · exact h.elim
theorem me_X3_cursorCan {l : Launch} (hl : l.stackTraces = false) : mm_Met l yX3_cursorCan cX3_cursorCan 2 (some .boolean) [] 8 142 0 sp_X3_cursorCan := mm_mt hl rn_X3_cursorCan ⟨plX3, rfl⟩ kkX3_cursorCan rfl ⟨Nat.le_of_ble_eq_true rfl, Nat.le_of_ble_eq_true rfl⟩ flkX3 (fun _ h => nomatch h) (⟨mm_pe (me_X0_hasStep hl) mwX0_hasStep (mm_t2 80 rfl rfl) (Nat.le_of_ble_eq_true rfl) (Nat.le_of_ble_eq_true rfl), trivial⟩) (mm_xe0 _) n9X3
def sp_X3_cursorPlace : mm_S := fun av M d Q => match av with
  | [.inr (.inr (.inl o)), .inl f] =>  o = 1 ∧ wA M ∧ (f = 0 ∨ f = 1) ∧ (∀ r, InI r ∧ C_cursorPlace f M M 0 r → Q (.inl (some (mm_I r))) M d)
  | _ => False
def ct_X3_cursorPlace : List (Nat × mm_Ca) := [(282, (0, 2, 13, sp_X0_placeAsked, 0))]
abbrev rr_X3_cursorPlace (Q : mm_Q) := mm_run (mm_look flX3) (mm_look ct_X3_cursorPlace) mm_x0 (mm_look ([] : List (Nat × Int))) (fun _ => none) 1 0 (fun _ _ => none) Q kdX3_cursorPlace
set_option maxRecDepth 20000 in
theorem rn_X3_cursorPlace : mm_RN flX3 ct_X3_cursorPlace mm_x0 [] 1 0 2 kdX3_cursorPlace sp_X3_cursorPlace := by
  intro av M d Q h
  unfold sp_X3_cursorPlace at h
  split at h
  · rename_i o f
    obtain ⟨rfl, ha, h1, hq⟩ := h
    refine ⟨Nat.le_of_ble_eq_true rfl, mm_run_at (stop := []) (S := mm_F0) kkX3_cursorPlace 80 ?_ mm_F0h⟩
    simp only [mm_wp, mm_op, mm_nxt, mm_jmp, mm_at, mm_in, mm_nth, mm_set, mm_ok, mm_isL, mm_ret, mm_isRet, mm_bool, mm_call, mm_push, mm_rv, mm_cats, mm_cat, mm_look, mm_ft, mm_fv, mm_pf, mm_thr, mm_ent, mm_pad, mm_fl, beq_self_eq_true, cond_true, cond_false, Nat.reduceBEq, Nat.reduceEqDiff, List.drop_succ_cons, List.drop_zero, List.take_succ_cons, List.take_zero, List.reverse_cons, List.reverse_nil, List.nil_append, List.cons_append, List.length_cons, List.length_nil, Nat.reduceAdd, Nat.reduceSub, Nat.reduceLeDiff, Bool.not_false, Bool.and_true, Bool.true_and, Nat.zero_add, true_and, and_true, Nat.le_refl, true_or, or_true, reduceCtorEq, Nat.add_zero, Nat.reduceLT, Bool.and_self, Bool.not_true, Fin.isValue, Nat.reduceLeDiff, List.take_nil, List.drop_nil, mm_i1, mm_i2, mm_i3, mm_i4, mm_i5, mm_i6, mm_i7, mm_i16, mm_i17, mm_i18, mm_i19, mm_i20, mm_i21, mm_i22, mm_i23, mm_l3, mm_l4, mm_l5, mm_l6, mm_l7, mm_l18, mm_l19, mm_l20, mm_l21, mm_l22, kdX3_cursorPlace, ct_X3_cursorPlace, flX3, sp_X0_placeAsked]
    exact ⟨ha, h1, fun r h => hq r ⟨⟨by omega, by omega⟩, rfl, h.2, .rf⟩⟩
  · exact h.elim
theorem me_X3_cursorPlace {l : Launch} (hl : l.stackTraces = false) : mm_Met l yX3_cursorPlace cX3_cursorPlace 2 (some .int) [] 7 121 0 sp_X3_cursorPlace := mm_mt hl rn_X3_cursorPlace ⟨plX3, rfl⟩ kkX3_cursorPlace rfl ⟨Nat.le_of_ble_eq_true rfl, Nat.le_of_ble_eq_true rfl⟩ flkX3 (fun _ h => nomatch h) (⟨mm_pe (me_X0_placeAsked hl) mwX0_placeAsked (mm_t2 85 rfl rfl) (Nat.le_of_ble_eq_true rfl) (Nat.le_of_ble_eq_true rfl), trivial⟩) (mm_xe0 _) n9X3
def sp_X3_house : mm_S := fun av M d Q => match av with
  | [.inr (.inr (.inl o)), .inl b] =>  o = 1 ∧ wA M ∧ InI b ∧ (∀ r, C_house b M M 0 r → Q (.inl (some (mm_I r))) M d) ∧ (∀ k, k = 1 ∧ C_house b M M 1 0 → Q (.inr k) M d)
  | _ => False
def ct_X3_house : List (Nat × mm_Ca) := [(59, (1, 3, 0, sp_X3_checkRange, 1))]
abbrev rr_X3_house (Q : mm_Q) := mm_run (mm_look flX3) (mm_look ct_X3_house) mm_x0 (mm_look ([] : List (Nat × Int))) (fun _ => none) 1 1 (fun _ _ => none) Q kdX3_house
set_option maxRecDepth 20000 in
theorem rn_X3_house : mm_RN flX3 ct_X3_house mm_x0 [] 1 1 2 kdX3_house sp_X3_house := by
  intro av M d Q h
  unfold sp_X3_house at h
  split at h
  · rename_i o b
    obtain ⟨rfl, ha, h1, hq, hx⟩ := h
    have i0 : InI (0 : Int) := ⟨by omega, by omega⟩
    have i1 : InI (1 : Int) := ⟨by omega, by omega⟩
    have i2 : InI (2 : Int) := ⟨by omega, by omega⟩
    refine ⟨Nat.le_of_ble_eq_true rfl, mm_run_at (stop := []) (S := mm_F0) kkX3_house 80 ?_ mm_F0h⟩
    simp only [mm_wp, mm_op, mm_nxt, mm_jmp, mm_at, mm_in, mm_nth, mm_set, mm_ok, mm_isL, mm_ret, mm_isRet, mm_bool, mm_call, mm_push, mm_rv, mm_cats, mm_cat, mm_look, mm_ft, mm_fv, mm_pf, mm_thr, mm_ent, mm_pad, mm_fl, beq_self_eq_true, cond_true, cond_false, Nat.reduceBEq, Nat.reduceEqDiff, List.drop_succ_cons, List.drop_zero, List.take_succ_cons, List.take_zero, List.reverse_cons, List.reverse_nil, List.nil_append, List.cons_append, List.length_cons, List.length_nil, Nat.reduceAdd, Nat.reduceSub, Nat.reduceLeDiff, Bool.not_false, Bool.and_true, Bool.true_and, Nat.zero_add, true_and, and_true, Nat.le_refl, true_or, or_true, reduceCtorEq, Nat.add_zero, Nat.reduceLT, Bool.and_self, Bool.not_true, Fin.isValue, Nat.reduceLeDiff, List.take_nil, List.drop_nil, mm_i1, mm_i2, mm_i3, mm_i4, mm_i5, mm_i6, mm_i7, mm_i16, mm_i17, mm_i18, mm_i19, mm_i20, mm_i21, mm_i22, mm_i23, mm_l3, mm_l4, mm_l5, mm_l6, mm_l7, mm_l18, mm_l19, mm_l20, mm_l21, mm_l22, kdX3_house, ct_X3_house, flX3, sp_X3_checkRange]
    repeat' (first | assumption | apply hq | exact hx _ ⟨rfl, ok1.n (by omega)⟩ | apply And.intro | (intro _))
    all_goals first | omega | (refine ok1.y (by omega) ⟨?_, .rf⟩; first | rw [if_pos (by omega)] | rw [if_neg (by omega), if_pos (by omega)] | rw [if_neg (by omega), if_neg (by omega)])
  · exact h.elim
theorem me_X3_house {l : Launch} (hl : l.stackTraces = false) : mm_Met l yX3_house cX3_house 2 (some .int) [] 7 122 1 sp_X3_house := mm_mt hl rn_X3_house ⟨plX3, rfl⟩ kkX3_house rfl ⟨Nat.le_of_ble_eq_true rfl, Nat.le_of_ble_eq_true rfl⟩ flkX3 (fun _ h => nomatch h) (⟨mm_pe (me_X3_checkRange hl) mwX3_checkRange (mm_t3 102 rfl rfl) (Nat.le_of_ble_eq_true rfl) (Nat.le_of_ble_eq_true rfl), trivial⟩) (mm_xe0 _) n9X3
def sp_X3_knock : mm_S := fun av M d Q => match av with
  | [.inr (.inr (.inl o))] =>  o = 1 ∧ wA M ∧ (∀ M', wA M' ∧ cF M M' ∧ M' 1 6 = M 1 6 + 1 ∧ C_knock M M' 0 (M 1 6 + 1) → Q (.inl (some (mm_I (M 1 6 + 1)))) M' d)
  | _ => False
def ct_X3_knock : List (Nat × mm_Ca) := []
abbrev rr_X3_knock (Q : mm_Q) := mm_run (mm_look flX3) (mm_look ct_X3_knock) mm_x0 (mm_look ([] : List (Nat × Int))) (fun _ => none) 1 0 (fun _ _ => none) Q kdX3_knock
set_option maxRecDepth 20000 in
theorem rn_X3_knock : mm_RN flX3 ct_X3_knock mm_x0 [] 1 0 1 kdX3_knock sp_X3_knock := by
  intro av M d Q h
  unfold sp_X3_knock at h
  split at h
  · rename_i o
    obtain ⟨rfl, ha, hq⟩ := h
    refine ⟨Nat.le_of_ble_eq_true rfl, mm_run_at (stop := []) (S := mm_F0) kkX3_knock 80 ?_ mm_F0h⟩
    simp only [mm_wp, mm_op, mm_nxt, mm_jmp, mm_at, mm_in, mm_nth, mm_set, mm_ok, mm_isL, mm_ret, mm_isRet, mm_bool, mm_call, mm_push, mm_rv, mm_cats, mm_cat, mm_look, mm_ft, mm_fv, mm_pf, mm_thr, mm_ent, mm_pad, mm_fl, beq_self_eq_true, cond_true, cond_false, Nat.reduceBEq, Nat.reduceEqDiff, List.drop_succ_cons, List.drop_zero, List.take_succ_cons, List.take_zero, List.reverse_cons, List.reverse_nil, List.nil_append, List.cons_append, List.length_cons, List.length_nil, Nat.reduceAdd, Nat.reduceSub, Nat.reduceLeDiff, Bool.not_false, Bool.and_true, Bool.true_and, Nat.zero_add, true_and, and_true, Nat.le_refl, true_or, or_true, reduceCtorEq, Nat.add_zero, Nat.reduceLT, Bool.and_self, Bool.not_true, Fin.isValue, Nat.reduceLeDiff, List.take_nil, List.drop_nil, mm_i1, mm_i2, mm_i3, mm_i4, mm_i5, mm_i6, mm_i7, mm_i16, mm_i17, mm_i18, mm_i19, mm_i20, mm_i21, mm_i22, mm_i23, mm_l3, mm_l4, mm_l5, mm_l6, mm_l7, mm_l18, mm_l19, mm_l20, mm_l21, mm_l22, kdX3_knock, ct_X3_knock, flX3]
    have hf : fr [1] M (mm_up M 1 6 (M 1 6 + 1)) := fr.rf.up (by simp)
    have e : mm_up M 1 6 (M 1 6 + 1) 1 6 = M 1 6 + 1 := by simp [mm_up]
    rw [e]
    refine hq _ ⟨⟨ha.1.fr hf (by simp) (by simp) (by simp), fun w hw => ?_, ha.2.2.to (hf 16 (by simp)) (fun h1 h2 => ?_)⟩, cF.of hf (by simp), e, rfl, rfl, SE.eq rfl⟩
    · have := isK_le hw.k
      exact wV.me (ha.2.1 w hw) (hf w (by simp; omega)) (hf (w + 1) (by simp; omega)) (hf 2 (by simp))
    · have := isK_le ((ha.2.2.1.resolve_left h1).k)
      rw [hf _ (by simp; omega)]
      exact Int.le_refl _
  · exact h.elim
theorem me_X3_knock {l : Launch} (hl : l.stackTraces = false) : mm_Met l yX3_knock cX3_knock 1 (some .int) [] 6 100 0 sp_X3_knock := mm_mt hl rn_X3_knock ⟨plX3, rfl⟩ kkX3_knock rfl ⟨Nat.le_of_ble_eq_true rfl, Nat.le_of_ble_eq_true rfl⟩ flkX3 (fun _ h => nomatch h) (trivial) (mm_xe0 _) n9X3

