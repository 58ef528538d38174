/-! the class: checks and counting -/
theorem mm_is1 (M : mm_M) (d : List Nat) : mm_is M d 1 10 := ⟨rfl, by simp [mm_ids, mm_st]⟩
theorem wA.n {M M' : mm_M} (h : wA M) (hf : fr [1] M M') (hk : M' 1 6 = M 1 6) : cP M M' := by
  refine ⟨⟨h.1.fr hf (by simp) (by simp) (by simp), fun w hw => ?_, h.2.2.to (hf 16 (by simp)) (fun h1 h2 => ?_)⟩, cF.of hf (by simp), hk⟩
  · have := isK_le hw
    exact wV.me (h.2.1 w hw) (hf w (by simp; omega)) (hf (w + 1) (by simp; omega)) (hf 2 (by simp))
  · have := isK_le ((h.2.2.1.resolve_left h1).k)
    rw [hf _ (by simp; omega)]
    exact Int.le_refl _
def sp_X3_counted : mm_S := fun av M d Q => match av with
  | [.inr (.inr (.inl o)), .inl r] =>  o = 1 ∧ wA M ∧ InI r ∧ ∀ M', cP M M' → Q (.inl (some (mm_I r))) M' d
  | _ => False
def ct_X3_counted : List (Nat × mm_Ca) := []
abbrev rr_X3_counted (Q : mm_Q) := mm_run (mm_look flX3) (mm_look ct_X3_counted) mm_x0 (mm_look ([] : List (Nat × Int))) (fun _ => none) 1 0 (fun _ _ => none) Q kdX3_counted
set_option maxRecDepth 20000 in
theorem rn_X3_counted : mm_RN flX3 ct_X3_counted mm_x0 [] 1 0 2 kdX3_counted sp_X3_counted := by
  intro av M d Q h
  unfold sp_X3_counted at h
  split at h
  · rename_i o r
    obtain ⟨rfl, ha, hr, hq⟩ := h
    refine ⟨Nat.le_of_ble_eq_true rfl, mm_run_at (stop := []) (S := mm_F0) kkX3_counted 80 ?_ mm_F0h⟩
    simp only [mm_wp, mm_op, mm_nxt, mm_jmp, mm_at, mm_in, mm_nth, mm_set, mm_ok, mm_isL, mm_ret, mm_isRet, mm_bool, mm_call, mm_push, mm_rv, mm_cats, mm_cat, mm_look, mm_ft, mm_fv, mm_pf, mm_thr, mm_ent, mm_pad, mm_fl, beq_self_eq_true, cond_true, cond_false, Nat.reduceBEq, Nat.reduceEqDiff, List.drop_succ_cons, List.drop_zero, List.take_succ_cons, List.take_zero, List.reverse_cons, List.reverse_nil, List.nil_append, List.cons_append, List.length_cons, List.length_nil, Nat.reduceAdd, Nat.reduceSub, Nat.reduceLeDiff, Bool.not_false, Bool.and_true, Bool.true_and, Nat.zero_add, true_and, and_true, Nat.le_refl, true_or, or_true, reduceCtorEq, Nat.add_zero, Nat.reduceLT, Bool.and_self, Bool.not_true, Fin.isValue, Nat.reduceLeDiff, List.take_nil, List.drop_nil, mm_i1, mm_i2, mm_i3, mm_i4, mm_i5, mm_i6, mm_i7, mm_i16, mm_i17, mm_i18, mm_i19, mm_i20, mm_i21, mm_i22, mm_i23, mm_l3, mm_l4, mm_l5, mm_l6, mm_l7, mm_l18, mm_l19, mm_l20, mm_l21, mm_l22, kdX3_counted, ct_X3_counted, flX3]
    exact ⟨by omega, hr, ⟨by omega, by omega⟩, fun _ => hq _ (ha.n (fr.rf.up (by simp)) (by simp [mm_up])), fun _ => hq _ (ha.n (fr.rf.up (by simp)) (by simp [mm_up]))⟩
  · exact h.elim
theorem me_X3_counted {l : Launch} (hl : l.stackTraces = false) : mm_Met l yX3_counted cX3_counted 2 (some .int) [] 6 100 0 sp_X3_counted := mm_mt hl rn_X3_counted ⟨by decide, rfl⟩ kkX3_counted rfl ⟨by decide, by decide⟩ flkX3 (fun _ h => nomatch h) (trivial) (mm_xe0 _)
def sp_X3_checkCorner : mm_S := fun av M d Q => match av with
  | [.inr (.inr (.inl o)), .inl c] =>  o = 1 ∧ InI c ∧ ((0 ≤ c ∧ c < 10) → Q (.inl none) M d) ∧ (¬ (0 ≤ c ∧ c < 10) → Q (.inr 0) M d)
  | _ => False
def ct_X3_checkCorner : List (Nat × mm_Ca) := [(349, (1, 1, 0, sp_X1_isCorner, 0))]
abbrev rr_X3_checkCorner (Q : mm_Q) := mm_run (mm_look flX3) (mm_look ct_X3_checkCorner) mm_x3 (mm_look ([] : List (Nat × Int))) (fun _ => none) 0 1 (fun _ _ => none) Q kdX3_checkCorner
set_option maxRecDepth 20000 in
theorem rn_X3_checkCorner : mm_RN flX3 ct_X3_checkCorner mm_x3 [] 0 1 2 kdX3_checkCorner sp_X3_checkCorner := by
  intro av M d Q h
  unfold sp_X3_checkCorner at h
  split at h
  · rename_i o c
    obtain ⟨rfl, hc, hq1, hq2⟩ := h
    refine ⟨Nat.le_of_ble_eq_true rfl, mm_run_at (stop := []) (S := mm_F0) kkX3_checkCorner 80 ?_ mm_F0h⟩
    simp only [mm_wp, mm_op, mm_nxt, mm_jmp, mm_at, mm_in, mm_nth, mm_set, mm_ok, mm_isL, mm_ret, mm_isRet, mm_bool, mm_call, mm_push, mm_rv, mm_cats, mm_cat, mm_look, mm_ft, mm_fv, mm_pf, mm_thr, mm_ent, mm_pad, mm_fl, beq_self_eq_true, cond_true, cond_false, Nat.reduceBEq, Nat.reduceEqDiff, List.drop_succ_cons, List.drop_zero, List.take_succ_cons, List.take_zero, List.reverse_cons, List.reverse_nil, List.nil_append, List.cons_append, List.length_cons, List.length_nil, Nat.reduceAdd, Nat.reduceSub, Nat.reduceLeDiff, Bool.not_false, Bool.and_true, Bool.true_and, Nat.zero_add, true_and, and_true, Nat.le_refl, true_or, or_true, reduceCtorEq, Nat.add_zero, Nat.reduceLT, Bool.and_self, Bool.not_true, Fin.isValue, Nat.reduceLeDiff, List.take_nil, List.drop_nil, mm_i1, mm_i2, mm_i3, mm_i4, mm_i5, mm_i6, mm_i7, mm_i16, mm_i17, mm_i18, mm_i19, mm_i20, mm_i21, mm_i22, mm_i23, mm_l3, mm_l4, mm_l5, mm_l6, mm_l7, mm_l18, mm_l19, mm_l20, mm_l21, mm_l22, kdX3_checkCorner, ct_X3_checkCorner, flX3, sp_X1_isCorner, mm_x3]
    exact hq1
  · exact h.elim
theorem me_X3_checkCorner {l : Launch} (hl : l.stackTraces = false) : mm_Met l yX3_checkCorner cX3_checkCorner 2 none [] 7 120 1 sp_X3_checkCorner := mm_mt hl rn_X3_checkCorner ⟨by decide, rfl⟩ kkX3_checkCorner rfl ⟨by decide, by decide⟩ flkX3 (fun _ h => nomatch h) (⟨mm_pe (me_X1_isCorner hl) mwX1_isCorner (mm_t3 84 rfl rfl) (Nat.le_of_ble_eq_true rfl) (Nat.le_of_ble_eq_true rfl), trivial⟩) mm_xe3

