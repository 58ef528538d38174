def sp_X1_isCorner : mm_S := fun av M d Q => match av with
  | [.inl a] =>  InI a ∧ Q (.inl (some (mm_I (if 0 ≤ a ∧ a < 10 then 1 else 0)))) M d
  | _ => False
def ct_X1_isCorner : List (Nat × mm_Ca) := []
abbrev rr_X1_isCorner (Q : mm_Q) := mm_run (mm_look flX1) (mm_look ct_X1_isCorner) mm_x0 (mm_look ([] : List (Nat × Int))) (fun _ => none) 2 0 (fun _ _ => none) Q kdX1_isCorner
set_option maxRecDepth 20000 in
theorem rn_X1_isCorner : mm_RN flX1 ct_X1_isCorner mm_x0 [] 2 0 1 kdX1_isCorner sp_X1_isCorner := by
  intro av M d Q h
  unfold sp_X1_isCorner at h
  split at h
  · rename_i a
    refine ⟨Nat.le_of_ble_eq_true rfl, mm_run_at (stop := []) (S := mm_F0) kkX1_isCorner 80 ?_ mm_F0h⟩
    simp only [mm_wp, mm_op, mm_nxt, mm_jmp, mm_at, mm_in, mm_nth, mm_set, mm_ok, mm_isL, mm_ret, mm_isRet, mm_bool, mm_call, mm_push, mm_rv, mm_cats, mm_cat, mm_look, mm_ft, mm_fv, mm_pf, mm_thr, mm_ent, mm_pad, mm_fl, beq_self_eq_true, cond_true, cond_false, Nat.reduceBEq, Nat.reduceEqDiff, List.drop_succ_cons, List.drop_zero, List.take_succ_cons, List.take_zero, List.reverse_cons, List.reverse_nil, List.nil_append, List.cons_append, List.length_cons, List.length_nil, Nat.reduceAdd, Nat.reduceSub, Nat.reduceLeDiff, Nat.reduceLTLE, Bool.not_false, Bool.and_true, Bool.true_and, Nat.zero_add, true_and, and_true, Nat.le_refl, reduceCtorEq, Nat.add_zero, Nat.reduceLT, Bool.and_self, Bool.not_true, Fin.isValue, Nat.reduceLeDiff, List.take_nil, List.drop_nil, mm_i1, mm_i2, mm_i3, mm_i4, mm_i5, mm_i6, mm_i7, mm_i16, mm_i17, mm_i18, mm_i19, mm_i20, mm_i21, mm_i22, mm_i23, mm_l3, mm_l4, mm_l5, mm_l6, mm_l7, mm_l18, mm_l19, mm_l20, mm_l21, mm_l22, kdX1_isCorner, ct_X1_isCorner, flX1]
    trace_state
    sorry
  · exact h.elim
theorem me_X1_isCorner {l : Launch} (hl : l.stackTraces = false) : mm_Met l yX1_isCorner cX1_isCorner 1 (some .boolean) [] 6 100 0 sp_X1_isCorner := mm_mt hl rn_X1_isCorner ⟨by decide, rfl⟩ kkX1_isCorner rfl ⟨by decide, by decide⟩ flkX1 (fun _ h => nomatch h) (trivial) (mm_xe0 _)
def sp_X1_size : mm_S := fun av M d Q => match av with
  | [.inr (.inr (.inl o))] =>  o = 2 ∧ Q (.inl (some (mm_I (M 2 4)))) M d
  | _ => False
def ct_X1_size : List (Nat × mm_Ca) := []
abbrev rr_X1_size (Q : mm_Q) := mm_run (mm_look flX1) (mm_look ct_X1_size) mm_x0 (mm_look ([] : List (Nat × Int))) (fun _ => none) 1 0 (fun _ _ => none) Q kdX1_size
set_option maxRecDepth 20000 in
theorem rn_X1_size : mm_RN flX1 ct_X1_size mm_x0 [] 1 0 1 kdX1_size sp_X1_size := by
  intro av M d Q h
  unfold sp_X1_size at h
  split at h
  · rename_i o
    refine ⟨Nat.le_of_ble_eq_true rfl, mm_run_at (stop := []) (S := mm_F0) kkX1_size 80 ?_ mm_F0h⟩
    simp only [mm_wp, mm_op, mm_nxt, mm_jmp, mm_at, mm_in, mm_nth, mm_set, mm_ok, mm_isL, mm_ret, mm_isRet, mm_bool, mm_call, mm_push, mm_rv, mm_cats, mm_cat, mm_look, mm_ft, mm_fv, mm_pf, mm_thr, mm_ent, mm_pad, mm_fl, beq_self_eq_true, cond_true, cond_false, Nat.reduceBEq, Nat.reduceEqDiff, List.drop_succ_cons, List.drop_zero, List.take_succ_cons, List.take_zero, List.reverse_cons, List.reverse_nil, List.nil_append, List.cons_append, List.length_cons, List.length_nil, Nat.reduceAdd, Nat.reduceSub, Nat.reduceLeDiff, Nat.reduceLTLE, Bool.not_false, Bool.and_true, Bool.true_and, Nat.zero_add, true_and, and_true, Nat.le_refl, reduceCtorEq, Nat.add_zero, Nat.reduceLT, Bool.and_self, Bool.not_true, Fin.isValue, Nat.reduceLeDiff, List.take_nil, List.drop_nil, mm_i1, mm_i2, mm_i3, mm_i4, mm_i5, mm_i6, mm_i7, mm_i16, mm_i17, mm_i18, mm_i19, mm_i20, mm_i21, mm_i22, mm_i23, mm_l3, mm_l4, mm_l5, mm_l6, mm_l7, mm_l18, mm_l19, mm_l20, mm_l21, mm_l22, kdX1_size, ct_X1_size, flX1]
    trace_state
    sorry
  · exact h.elim
theorem me_X1_size {l : Launch} (hl : l.stackTraces = false) : mm_Met l yX1_size cX1_size 1 (some .int) [] 6 100 0 sp_X1_size := mm_mt hl rn_X1_size ⟨by decide, rfl⟩ kkX1_size rfl ⟨by decide, by decide⟩ flkX1 (fun _ h => nomatch h) (trivial) (mm_xe0 _)
def sp_X1_fromOf : mm_S := fun av M d Q => match av with
  | [.inr (.inr (.inl o)), .inl s] =>  o = 2 ∧ InI s ∧ InI (M 2 4) ∧ M 2 4 ≤ 30 ∧ Q (.inl (some (mm_I (if 0 ≤ s ∧ s < M 2 4 then M 3 s.toNat else -1)))) M d
  | _ => False
def ct_X1_fromOf : List (Nat × mm_Ca) := []
abbrev rr_X1_fromOf (Q : mm_Q) := mm_run (mm_look flX1) (mm_look ct_X1_fromOf) mm_x0 (mm_look ([] : List (Nat × Int))) (fun _ => none) 1 0 (fun _ _ => none) Q kdX1_fromOf
set_option maxRecDepth 20000 in
theorem rn_X1_fromOf : mm_RN flX1 ct_X1_fromOf mm_x0 [] 1 0 2 kdX1_fromOf sp_X1_fromOf := by
  intro av M d Q h
  unfold sp_X1_fromOf at h
  split at h
  · rename_i o s
    obtain ⟨rfl, h1, h2, h3, h4⟩ := h
    refine ⟨Nat.le_of_ble_eq_true rfl, mm_run_at (stop := []) (S := mm_F0) kkX1_fromOf 80 ?_ mm_F0h⟩
    simp only [mm_wp, mm_op, mm_nxt, mm_jmp, mm_at, mm_in, mm_nth, mm_set, mm_ok, mm_isL, mm_ret, mm_isRet, mm_bool, mm_call, mm_push, mm_rv, mm_cats, mm_cat, mm_look, mm_ft, mm_fv, mm_pf, mm_thr, mm_ent, mm_pad, mm_fl, beq_self_eq_true, cond_true, cond_false, Nat.reduceBEq, Nat.reduceEqDiff, List.drop_succ_cons, List.drop_zero, List.take_succ_cons, List.take_zero, List.reverse_cons, List.reverse_nil, List.nil_append, List.cons_append, List.length_cons, List.length_nil, Nat.reduceAdd, Nat.reduceSub, Nat.reduceLeDiff, Nat.reduceLTLE, Bool.not_false, Bool.and_true, Bool.true_and, Nat.zero_add, true_and, and_true, Nat.le_refl, reduceCtorEq, Nat.add_zero, Nat.reduceLT, Bool.and_self, Bool.not_true, Fin.isValue, Nat.reduceLeDiff, List.take_nil, List.drop_nil, mm_i1, mm_i2, mm_i3, mm_i4, mm_i5, mm_i6, mm_i7, mm_i16, mm_i17, mm_i18, mm_i19, mm_i20, mm_i21, mm_i22, mm_i23, mm_l3, mm_l4, mm_l5, mm_l6, mm_l7, mm_l18, mm_l19, mm_l20, mm_l21, mm_l22, kdX1_fromOf, ct_X1_fromOf, flX1]
    trace_state
    sorry
  · exact h.elim
theorem me_X1_fromOf {l : Launch} (hl : l.stackTraces = false) : mm_Met l yX1_fromOf cX1_fromOf 2 (some .int) [] 6 100 0 sp_X1_fromOf := mm_mt hl rn_X1_fromOf ⟨by decide, rfl⟩ kkX1_fromOf rfl ⟨by decide, by decide⟩ flkX1 (fun _ h => nomatch h) (trivial) (mm_xe0 _)

