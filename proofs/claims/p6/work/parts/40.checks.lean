/-! the class: checks and counting -/
theorem mm_is1 (M : mm_M) (d : List Nat) : mm_is M d 1 10 := ⟨rfl, by simp [mm_ids, mm_st]⟩
theorem wA.n {M M' : mm_M} (h : wA M) (hf : fr [1] M M') (hk : M' 1 6 = M 1 6) : cP M M' := by
  refine ⟨⟨h.1.fr hf (by simp) (by simp) (by simp), fun w hw => ?_, h.2.2.to (hf 16 (by simp)) (fun h1 h2 => ?_)⟩, cF.of hf (by simp), hk⟩
  · have := isK_le hw.k
    exact wV.me (h.2.1 w hw) (hf w (by simp; omega)) (hf (w + 1) (by simp; omega)) (hf 2 (by simp))
  · have := isK_le ((h.2.2.1.resolve_left h1).k)
    rw [hf _ (by simp; omega)]
    exact Int.le_refl _
def sp_X3_counted : mm_S := fun av M d Q => match av with
  | [.inr (.inr (.inl o)), .inl r] =>  o = 1 ∧ wA M ∧ InI r ∧ ∀ M', cP M M' ∧ M' = cnF M r → Q (.inl (some (mm_I r))) M' d
  | _ => False
def ct_X3_counted : List (Nat × mm_Ca) := []
abbrev rr_X3_counted (Q : mm_Q) := mm_run (mm_look flX3) (mm_look ct_X3_counted) mm_x0 (mm_look ([] : List (Nat × Int))) (fun _ => none) 1 0 (fun _ _ => none) Q kdX3_counted
set_option maxRecDepth 20000 in
theorem rn_X3_counted : mm_RN flX3 ct_X3_counted mm_x0 [] 1 0 2 kdX3_counted sp_X3_counted := by
  intro av M d Q h
  unfold sp_X3_counted at h
  split at h
  · rename_i o r
    obtain ⟨rfl, ha, hr, hq⟩ := h
    refine ⟨Nat.le_of_ble_eq_true rfl, mm_run_at (stop := []) (S := mm_F0) kkX3_counted 80 ?_ mm_F0h⟩
    simp only [mm_wp, mm_op, mm_nxt, mm_jmp, mm_at, mm_in, mm_nth, mm_set, mm_ok, mm_isL, mm_ret, mm_isRet, mm_bool, mm_call, mm_push, mm_rv, mm_cats, mm_cat, mm_look, mm_ft, mm_fv, mm_pf, mm_thr, mm_ent, mm_pad, mm_fl, beq_self_eq_true, cond_true, cond_false, Nat.reduceBEq, Nat.reduceEqDiff, List.drop_succ_cons, List.drop_zero, List.take_succ_cons, List.take_zero, List.reverse_cons, List.reverse_nil, List.nil_append, List.cons_append, List.length_cons, List.length_nil, Nat.reduceAdd, Nat.reduceSub, Nat.reduceLeDiff, Bool.not_false, Bool.and_true, Bool.true_and, Nat.zero_add, true_and, and_true, Nat.le_refl, true_or, or_true, reduceCtorEq, Nat.add_zero, Nat.reduceLT, Bool.and_self, Bool.not_true, Fin.isValue, Nat.reduceLeDiff, List.take_nil, List.drop_nil, mm_i1, mm_i2, mm_i3, mm_i4, mm_i5, mm_i6, mm_i7, mm_i16, mm_i17, mm_i18, mm_i19, mm_i20, mm_i21, mm_i22, mm_i23, mm_l3, mm_l4, mm_l5, mm_l6, mm_l7, mm_l18, mm_l19, mm_l20, mm_l21, mm_l22, kdX3_counted, ct_X3_counted, flX3]
    exact ⟨by omega, hr, ⟨by omega, by omega⟩, fun h => hq _ ⟨ha.n (fr.rf.up (by simp)) (by simp [mm_up]), by unfold cnF; first | rw [if_pos (by omega)] | rw [if_neg (by omega)]⟩, fun h => hq _ ⟨ha.n (fr.rf.up (by simp)) (by simp [mm_up]), by unfold cnF; first | rw [if_pos (by omega)] | rw [if_neg (by omega)]⟩⟩
  · exact h.elim
theorem me_X3_counted {l : Launch} (hl : l.stackTraces = false) : mm_Met l yX3_counted cX3_counted 2 (some .int) [] 6 100 0 sp_X3_counted := mm_mt hl rn_X3_counted ⟨by decide, rfl⟩ kkX3_counted rfl ⟨by decide, by decide⟩ flkX3 (fun _ h => nomatch h) (trivial) (mm_xe0 _)
def sp_X3_checkCorner : mm_S := fun av M d Q => match av with
  | [.inr (.inr (.inl o)), .inl c] =>  o = 1 ∧ InI c ∧ ((0 ≤ c ∧ c < 10) → Q (.inl none) M d) ∧ (¬ (0 ≤ c ∧ c < 10) → Q (.inr 0) M d)
  | _ => False
def ct_X3_checkCorner : List (Nat × mm_Ca) := [(349, (1, 1, 0, sp_X1_isCorner, 0))]
abbrev rr_X3_checkCorner (Q : mm_Q) := mm_run (mm_look flX3) (mm_look ct_X3_checkCorner) mm_x3 (mm_look ([] : List (Nat × Int))) (fun _ => none) 0 1 (fun _ _ => none) Q kdX3_checkCorner
set_option maxRecDepth 20000 in
theorem rn_X3_checkCorner : mm_RN flX3 ct_X3_checkCorner mm_x3 [] 0 1 2 kdX3_checkCorner sp_X3_checkCorner := by
  intro av M d Q h
  unfold sp_X3_checkCorner at h
  split at h
  · rename_i o c
    obtain ⟨rfl, hc, hq1, hq2⟩ := h
    refine ⟨Nat.le_of_ble_eq_true rfl, mm_run_at (stop := []) (S := mm_F0) kkX3_checkCorner 80 ?_ mm_F0h⟩
    simp only [mm_wp, mm_op, mm_nxt, mm_jmp, mm_at, mm_in, mm_nth, mm_set, mm_ok, mm_isL, mm_ret, mm_isRet, mm_bool, mm_call, mm_push, mm_rv, mm_cats, mm_cat, mm_look, mm_ft, mm_fv, mm_pf, mm_thr, mm_ent, mm_pad, mm_fl, beq_self_eq_true, cond_true, cond_false, Nat.reduceBEq, Nat.reduceEqDiff, List.drop_succ_cons, List.drop_zero, List.take_succ_cons, List.take_zero, List.reverse_cons, List.reverse_nil, List.nil_append, List.cons_append, List.length_cons, List.length_nil, Nat.reduceAdd, Nat.reduceSub, Nat.reduceLeDiff, Bool.not_false, Bool.and_true, Bool.true_and, Nat.zero_add, true_and, and_true, Nat.le_refl, true_or, or_true, reduceCtorEq, Nat.add_zero, Nat.reduceLT, Bool.and_self, Bool.not_true, Fin.isValue, Nat.reduceLeDiff, List.take_nil, List.drop_nil, mm_i1, mm_i2, mm_i3, mm_i4, mm_i5, mm_i6, mm_i7, mm_i16, mm_i17, mm_i18, mm_i19, mm_i20, mm_i21, mm_i22, mm_i23, mm_l3, mm_l4, mm_l5, mm_l6, mm_l7, mm_l18, mm_l19, mm_l20, mm_l21, mm_l22, kdX3_checkCorner, ct_X3_checkCorner, flX3, sp_X1_isCorner, mm_x3, Bool.or_true, Bool.or_false, Bool.false_or, Bool.true_or]
    refine ⟨hc, fun r hr => ⟨inI2 hr, fun h => hq1 (Classical.byContradiction fun h2 => h (hr.2 h2)), fun h => hq2 (fun h2 => ?_)⟩⟩
    have := hr.1 h2
    omega
  · exact h.elim
theorem me_X3_checkCorner {l : Launch} (hl : l.stackTraces = false) : mm_Met l yX3_checkCorner cX3_checkCorner 2 none [] 7 120 1 sp_X3_checkCorner := mm_mt hl rn_X3_checkCorner ⟨by decide, rfl⟩ kkX3_checkCorner rfl ⟨by decide, by decide⟩ flkX3 (fun _ h => nomatch h) (⟨mm_pe (me_X1_isCorner hl) mwX1_isCorner (mm_t3 84 rfl rfl) (Nat.le_of_ble_eq_true rfl) (Nat.le_of_ble_eq_true rfl), trivial⟩) mm_xe3
def sp_X3_checkStreet : mm_S := fun av M d Q => match av with
  | [.inr (.inr (.inl o)), .inl c] =>  o = 1 ∧ wA M ∧ InI c ∧ ((0 ≤ c ∧ c < M 2 4) → Q (.inl none) M d) ∧ (¬ (0 ≤ c ∧ c < M 2 4) → Q (.inr 0) M d)
  | _ => False
def ct_X3_checkStreet : List (Nat × mm_Ca) := [(55, (0, 1, 11, sp_X1_size, 0))]
abbrev rr_X3_checkStreet (Q : mm_Q) := mm_run (mm_look flX3) (mm_look ct_X3_checkStreet) mm_x3 (mm_look ([] : List (Nat × Int))) (fun _ => none) 0 1 (fun _ _ => none) Q kdX3_checkStreet
set_option maxRecDepth 20000 in
theorem rn_X3_checkStreet : mm_RN flX3 ct_X3_checkStreet mm_x3 [] 0 1 2 kdX3_checkStreet sp_X3_checkStreet := by
  intro av M d Q h
  unfold sp_X3_checkStreet at h
  split at h
  · rename_i o c
    obtain ⟨rfl, ha, hc, hq1, hq2⟩ := h
    have t1 := ha.1.1
    refine ⟨Nat.le_of_ble_eq_true rfl, mm_run_at (stop := []) (S := mm_F0) kkX3_checkStreet 80 ?_ mm_F0h⟩
    simp only [mm_wp, mm_op, mm_nxt, mm_jmp, mm_at, mm_in, mm_nth, mm_set, mm_ok, mm_isL, mm_ret, mm_isRet, mm_bool, mm_call, mm_push, mm_rv, mm_cats, mm_cat, mm_look, mm_ft, mm_fv, mm_pf, mm_thr, mm_ent, mm_pad, mm_fl, beq_self_eq_true, cond_true, cond_false, Nat.reduceBEq, Nat.reduceEqDiff, List.drop_succ_cons, List.drop_zero, List.take_succ_cons, List.take_zero, List.reverse_cons, List.reverse_nil, List.nil_append, List.cons_append, List.length_cons, List.length_nil, Nat.reduceAdd, Nat.reduceSub, Nat.reduceLeDiff, Bool.not_false, Bool.and_true, Bool.true_and, Nat.zero_add, true_and, and_true, Nat.le_refl, true_or, or_true, reduceCtorEq, Nat.add_zero, Nat.reduceLT, Bool.and_self, Bool.not_true, Fin.isValue, Nat.reduceLeDiff, List.take_nil, List.drop_nil, mm_i1, mm_i2, mm_i3, mm_i4, mm_i5, mm_i6, mm_i7, mm_i16, mm_i17, mm_i18, mm_i19, mm_i20, mm_i21, mm_i22, mm_i23, mm_l3, mm_l4, mm_l5, mm_l6, mm_l7, mm_l18, mm_l19, mm_l20, mm_l21, mm_l22, kdX3_checkStreet, ct_X3_checkStreet, flX3, sp_X1_size, mm_x3, Bool.or_true, Bool.or_false, Bool.false_or, Bool.true_or]
    exact ⟨hc, fun h => hq2 (by omega), fun h => ⟨hc, ⟨by omega, by omega⟩, fun h2 => hq1 (by omega), fun h2 => hq2 (by omega)⟩⟩
  · exact h.elim
theorem me_X3_checkStreet {l : Launch} (hl : l.stackTraces = false) : mm_Met l yX3_checkStreet cX3_checkStreet 2 none [] 7 120 1 sp_X3_checkStreet := mm_mt hl rn_X3_checkStreet ⟨by decide, rfl⟩ kkX3_checkStreet rfl ⟨by decide, by decide⟩ flkX3 (fun _ h => nomatch h) (⟨mm_pe (me_X1_size hl) mwX1_size (mm_t1 131 rfl rfl) (Nat.le_of_ble_eq_true rfl) (Nat.le_of_ble_eq_true rfl), trivial⟩) mm_xe3
def sp_X3_checkIndex : mm_S := fun av M d Q => match av with
  | [.inl c, .inl n] =>  InI c ∧ InI n ∧ ((0 ≤ c ∧ c ≤ n) → Q (.inl none) M d) ∧ (¬ (0 ≤ c ∧ c ≤ n) → Q (.inr 0) M d)
  | _ => False
def ct_X3_checkIndex : List (Nat × mm_Ca) := []
abbrev rr_X3_checkIndex (Q : mm_Q) := mm_run (mm_look flX3) (mm_look ct_X3_checkIndex) mm_x3 (mm_look ([] : List (Nat × Int))) (fun _ => none) 0 1 (fun _ _ => none) Q kdX3_checkIndex
set_option maxRecDepth 20000 in
theorem rn_X3_checkIndex : mm_RN flX3 ct_X3_checkIndex mm_x3 [] 0 1 2 kdX3_checkIndex sp_X3_checkIndex := by
  intro av M d Q h
  unfold sp_X3_checkIndex at h
  split at h
  · rename_i c n
    obtain ⟨hc, hn, hq1, hq2⟩ := h
    refine ⟨Nat.le_of_ble_eq_true rfl, mm_run_at (stop := []) (S := mm_F0) kkX3_checkIndex 80 ?_ mm_F0h⟩
    simp only [mm_wp, mm_op, mm_nxt, mm_jmp, mm_at, mm_in, mm_nth, mm_set, mm_ok, mm_isL, mm_ret, mm_isRet, mm_bool, mm_call, mm_push, mm_rv, mm_cats, mm_cat, mm_look, mm_ft, mm_fv, mm_pf, mm_thr, mm_ent, mm_pad, mm_fl, beq_self_eq_true, cond_true, cond_false, Nat.reduceBEq, Nat.reduceEqDiff, List.drop_succ_cons, List.drop_zero, List.take_succ_cons, List.take_zero, List.reverse_cons, List.reverse_nil, List.nil_append, List.cons_append, List.length_cons, List.length_nil, Nat.reduceAdd, Nat.reduceSub, Nat.reduceLeDiff, Bool.not_false, Bool.and_true, Bool.true_and, Nat.zero_add, true_and, and_true, Nat.le_refl, true_or, or_true, reduceCtorEq, Nat.add_zero, Nat.reduceLT, Bool.and_self, Bool.not_true, Fin.isValue, Nat.reduceLeDiff, List.take_nil, List.drop_nil, mm_i1, mm_i2, mm_i3, mm_i4, mm_i5, mm_i6, mm_i7, mm_i16, mm_i17, mm_i18, mm_i19, mm_i20, mm_i21, mm_i22, mm_i23, mm_l3, mm_l4, mm_l5, mm_l6, mm_l7, mm_l18, mm_l19, mm_l20, mm_l21, mm_l22, kdX3_checkIndex, ct_X3_checkIndex, flX3, mm_x3, Bool.or_true, Bool.or_false, Bool.false_or, Bool.true_or]
    exact ⟨hc, fun h => hq2 (by omega), fun h => ⟨hc, hn, fun h2 => hq1 (by omega), fun h2 => hq2 (by omega)⟩⟩
  · exact h.elim
theorem me_X3_checkIndex {l : Launch} (hl : l.stackTraces = false) : mm_Met l yX3_checkIndex cX3_checkIndex 2 none [] 6 100 1 sp_X3_checkIndex := mm_mt hl rn_X3_checkIndex ⟨by decide, rfl⟩ kkX3_checkIndex rfl ⟨by decide, by decide⟩ flkX3 (fun _ h => nomatch h) (trivial) mm_xe3
def sp_X3_checkRange : mm_S := fun av M d Q => match av with
  | [.inl c, .inl l, .inl n] =>  InI c ∧ InI l ∧ InI n ∧ ((l ≤ c ∧ c ≤ n) → Q (.inl none) M d) ∧ (¬ (l ≤ c ∧ c ≤ n) → Q (.inr 1) M d)
  | _ => False
def ct_X3_checkRange : List (Nat × mm_Ca) := []
abbrev rr_X3_checkRange (Q : mm_Q) := mm_run (mm_look flX3) (mm_look ct_X3_checkRange) mm_x3 (mm_look ([] : List (Nat × Int))) (fun _ => none) 0 1 (fun _ _ => none) Q kdX3_checkRange
set_option maxRecDepth 20000 in
theorem rn_X3_checkRange : mm_RN flX3 ct_X3_checkRange mm_x3 [] 0 1 3 kdX3_checkRange sp_X3_checkRange := by
  intro av M d Q h
  unfold sp_X3_checkRange at h
  split at h
  · rename_i c l n
    obtain ⟨hc, hl, hn, hq1, hq2⟩ := h
    refine ⟨Nat.le_of_ble_eq_true rfl, mm_run_at (stop := []) (S := mm_F0) kkX3_checkRange 80 ?_ mm_F0h⟩
    simp only [mm_wp, mm_op, mm_nxt, mm_jmp, mm_at, mm_in, mm_nth, mm_set, mm_ok, mm_isL, mm_ret, mm_isRet, mm_bool, mm_call, mm_push, mm_rv, mm_cats, mm_cat, mm_look, mm_ft, mm_fv, mm_pf, mm_thr, mm_ent, mm_pad, mm_fl, beq_self_eq_true, cond_true, cond_false, Nat.reduceBEq, Nat.reduceEqDiff, List.drop_succ_cons, List.drop_zero, List.take_succ_cons, List.take_zero, List.reverse_cons, List.reverse_nil, List.nil_append, List.cons_append, List.length_cons, List.length_nil, Nat.reduceAdd, Nat.reduceSub, Nat.reduceLeDiff, Bool.not_false, Bool.and_true, Bool.true_and, Nat.zero_add, true_and, and_true, Nat.le_refl, true_or, or_true, reduceCtorEq, Nat.add_zero, Nat.reduceLT, Bool.and_self, Bool.not_true, Fin.isValue, Nat.reduceLeDiff, List.take_nil, List.drop_nil, mm_i1, mm_i2, mm_i3, mm_i4, mm_i5, mm_i6, mm_i7, mm_i16, mm_i17, mm_i18, mm_i19, mm_i20, mm_i21, mm_i22, mm_i23, mm_l3, mm_l4, mm_l5, mm_l6, mm_l7, mm_l18, mm_l19, mm_l20, mm_l21, mm_l22, kdX3_checkRange, ct_X3_checkRange, flX3, mm_x3, Bool.or_true, Bool.or_false, Bool.false_or, Bool.true_or]
    exact ⟨hc, hl, fun h => hq2 (by omega), fun h => ⟨hc, hn, fun h2 => hq1 (by omega), fun h2 => hq2 (by omega)⟩⟩
  · exact h.elim
theorem me_X3_checkRange {l : Launch} (hl : l.stackTraces = false) : mm_Met l yX3_checkRange cX3_checkRange 3 none [] 6 100 1 sp_X3_checkRange := mm_mt hl rn_X3_checkRange ⟨by decide, rfl⟩ kkX3_checkRange rfl ⟨by decide, by decide⟩ flkX3 (fun _ h => nomatch h) (trivial) mm_xe3
def sp_X3_walkOf : mm_S := fun av M d Q => match av with
  | [.inr (.inr (.inl o)), .inl a] =>  o = 1 ∧ InI a ∧ (∀ w, (0 ≤ a ∧ a < 3) → w = 8 + 2 * a.toNat → isW3 w → Q (.inl (some (mm_R w))) M d) ∧ (¬ (0 ≤ a ∧ a < 3) → Q (.inr 0) M d)
  | _ => False
def ct_X3_walkOf : List (Nat × mm_Ca) := []
abbrev rr_X3_walkOf (Q : mm_Q) := mm_run (mm_look flX3) (mm_look ct_X3_walkOf) mm_x3 (mm_look ([] : List (Nat × Int))) (fun _ => none) 4 1 (fun _ _ => none) Q kdX3_walkOf
set_option maxRecDepth 20000 in
theorem rn_X3_walkOf : mm_RN flX3 ct_X3_walkOf mm_x3 [] 4 1 2 kdX3_walkOf sp_X3_walkOf := by
  intro av M d Q h
  unfold sp_X3_walkOf at h
  split at h
  · rename_i o a
    obtain ⟨rfl, ha, hq1, hq2⟩ := h
    refine ⟨Nat.le_of_ble_eq_true rfl, mm_run_at (stop := []) (S := mm_F0) kkX3_walkOf 80 ?_ mm_F0h⟩
    simp only [mm_wp, mm_op, mm_nxt, mm_jmp, mm_at, mm_in, mm_nth, mm_set, mm_ok, mm_isL, mm_ret, mm_isRet, mm_bool, mm_call, mm_push, mm_rv, mm_cats, mm_cat, mm_look, mm_ft, mm_fv, mm_pf, mm_thr, mm_ent, mm_pad, mm_fl, beq_self_eq_true, cond_true, cond_false, Nat.reduceBEq, Nat.reduceEqDiff, List.drop_succ_cons, List.drop_zero, List.take_succ_cons, List.take_zero, List.reverse_cons, List.reverse_nil, List.nil_append, List.cons_append, List.length_cons, List.length_nil, Nat.reduceAdd, Nat.reduceSub, Nat.reduceLeDiff, Bool.not_false, Bool.and_true, Bool.true_and, Nat.zero_add, true_and, and_true, Nat.le_refl, true_or, or_true, reduceCtorEq, Nat.add_zero, Nat.reduceLT, Bool.and_self, Bool.not_true, Fin.isValue, Nat.reduceLeDiff, List.take_nil, List.drop_nil, mm_i1, mm_i2, mm_i3, mm_i4, mm_i5, mm_i6, mm_i7, mm_i16, mm_i17, mm_i18, mm_i19, mm_i20, mm_i21, mm_i22, mm_i23, mm_l3, mm_l4, mm_l5, mm_l6, mm_l7, mm_l18, mm_l19, mm_l20, mm_l21, mm_l22, kdX3_walkOf, ct_X3_walkOf, flX3, mm_x3, Bool.or_true, Bool.or_false, Bool.false_or, Bool.true_or]
    refine ⟨ha, fun h => hq2 (by omega), fun h => ⟨ha, ⟨by omega, by omega⟩, fun h2 => ⟨by omega, hq1 _ (by omega) rfl ?_⟩, fun h2 => hq2 (by omega)⟩⟩
    unfold isW3
    omega
  · exact h.elim
theorem me_X3_walkOf {l : Launch} (hl : l.stackTraces = false) : mm_Met l yX3_walkOf cX3_walkOf 2 (some (.object "Allstreets$Walk")) [] 6 100 1 sp_X3_walkOf := mm_mt hl rn_X3_walkOf ⟨by decide, rfl⟩ kkX3_walkOf rfl ⟨by decide, by decide⟩ flkX3 (fun _ h => nomatch h) (trivial) mm_xe3
/-- all in order, but that a cursor on w may be off its end -/
def wL (M : mm_M) (w : Nat) : Prop := tW M ∧ (∀ v, isW3 v → wV M v ∧ wD M v) ∧ (M 16 1 = 0 ∨ isW3 (M 16 1).toNat) ∧ (M 16 1 ≠ w → cV M)
theorem wL.lose {M : mm_M} {w : Nat} (h : wL M w) : wA (mm_up M 16 4 1) := by
  have hf : fr [16] M (mm_up M 16 4 1) := fr.rf.up (by simp)
  refine ⟨h.1.fr hf (by simp) (by simp) (by simp), fun v hv => ?_, cV.lost (by simpa [mm_up] using h.2.2.1) (by simp [mm_up])⟩
  have := isK_le hv.k
  exact wV.me (h.2.1 v hv) (hf v (by simp; omega)) (hf (v + 1) (by simp; omega)) (hf 2 (by simp))
theorem wL.off {M : mm_M} {w : Nat} (h : wL M w) (h1 : M 16 1 ≠ w) : wA M := ⟨h.1, h.2.1, h.2.2.2 h1⟩
theorem wA.L {M : mm_M} {w : Nat} (h : wA M) : wL M w := ⟨h.1, h.2.1, h.2.2.1, fun _ => h.2.2⟩
/-- one walk is another -/
theorem wL.w {M M' : mm_M} {w : Nat} (h : wL M w) (hw : isK w) (hf : fr [w, w + 1, 5, 6] M M') (h1 : wV M' w) (h2 : wD M' w) : wL M' w := by
  have hl := isK_le hw
  have e16 : M' 16 = M 16 := hf 16 (by simp; omega)
  refine ⟨h.1.fr hf (by simp; omega) (by simp; omega) (by simp; omega), fun v hv => ?_, by rw [e16]; exact h.2.2.1, fun h3 => ?_⟩
  · by_cases e : v = w
    · subst e
      exact ⟨h1, h2⟩
    · have := isK_le hv.k
      have := wk_ap hv.k hw e
      exact wV.me (h.2.1 v hv) (hf v (by simp; omega)) (hf (v + 1) (by simp; omega)) (hf 2 (by simp; omega))
  · rw [e16] at h3
    refine (h.2.2.2 h3).to e16 (fun h4 h5 => ?_)
    have hk := (h.2.2.1.resolve_left h4).k
    have := isK_le hk
    have hne : (M 16 1).toNat ≠ w := by omega
    have := wk_ap hk hw hne
    rw [hf (M 16 1).toNat (by simp; omega)]
    exact Int.le_refl _
theorem wL.cf {M M' : mm_M} {w : Nat} (hw : isK w) (hf : fr [w, w + 1, 5, 6] M M') : cF M M' ∧ M' 1 6 = M 1 6 := by
  have hl := isK_le hw
  exact ⟨cF.of hf (by simp; omega), by rw [hf 1 (by simp; omega)]⟩
def sp_X3_countedMove : mm_S := fun av M d Q => match av with
  | [.inr (.inr (.inl o)), .inr (.inr (.inl w)), .inl r] =>  o = 1 ∧ isW3 w ∧ InI r ∧ wL M w ∧ (r = -9 → wA M) ∧ ∀ M', cP M M' ∧ M' = cnF (losI (r ≠ -9) M w) r → Q (.inl (some (mm_I r))) M' d
  | _ => False
def ct_X3_countedMove : List (Nat × mm_Ca) := [(153, (0, 2, 13, sp_X0_loseOn, 0)), (44, (0, 2, 10, sp_X3_counted, 0))]
abbrev rr_X3_countedMove (Q : mm_Q) := mm_run (mm_look flX3) (mm_look ct_X3_countedMove) mm_x0 (mm_look ([] : List (Nat × Int))) (fun _ => none) 1 0 (fun _ _ => none) Q kdX3_countedMove
set_option maxRecDepth 20000 in
theorem rn_X3_countedMove : mm_RN flX3 ct_X3_countedMove mm_x0 [] 1 0 3 kdX3_countedMove sp_X3_countedMove := by
  intro av M d Q h
  unfold sp_X3_countedMove at h
  split at h
  · rename_i o w r
    obtain ⟨rfl, hw, hr, hL, ha, hq⟩ := h
    have hk := hw.k
    refine ⟨Nat.le_of_ble_eq_true rfl, mm_run_at (stop := []) (S := mm_F0) kkX3_countedMove 80 ?_ mm_F0h⟩
    simp only [mm_wp, mm_op, mm_nxt, mm_jmp, mm_at, mm_in, mm_nth, mm_set, mm_ok, mm_isL, mm_ret, mm_isRet, mm_bool, mm_call, mm_push, mm_rv, mm_cats, mm_cat, mm_look, mm_ft, mm_fv, mm_pf, mm_thr, mm_ent, mm_pad, mm_fl, beq_self_eq_true, cond_true, cond_false, Nat.reduceBEq, Nat.reduceEqDiff, List.drop_succ_cons, List.drop_zero, List.take_succ_cons, List.take_zero, List.reverse_cons, List.reverse_nil, List.nil_append, List.cons_append, List.length_cons, List.length_nil, Nat.reduceAdd, Nat.reduceSub, Nat.reduceLeDiff, Bool.not_false, Bool.and_true, Bool.true_and, Nat.zero_add, true_and, and_true, Nat.le_refl, true_or, or_true, reduceCtorEq, Nat.add_zero, Nat.reduceLT, Bool.and_self, Bool.not_true, Fin.isValue, Nat.reduceLeDiff, List.take_nil, List.drop_nil, mm_i1, mm_i2, mm_i3, mm_i4, mm_i5, mm_i6, mm_i7, mm_i16, mm_i17, mm_i18, mm_i19, mm_i20, mm_i21, mm_i22, mm_i23, mm_l3, mm_l4, mm_l5, mm_l6, mm_l7, mm_l18, mm_l19, mm_l20, mm_l21, mm_l22, kdX3_countedMove, ct_X3_countedMove, flX3, sp_X0_loseOn, sp_X3_counted, wk_mm hk, wk_is hk]
    refine ⟨by omega, hr, ⟨by omega, by omega⟩, fun h => ⟨ha h, hr, fun M2 h3 => hq M2 ⟨h3.1, by unfold losI; rw [if_neg (by omega)]; exact h3.2⟩⟩, fun h => ⟨hL.2.2.1, hk, fun M' h2 => ?_⟩⟩
    rcases h2 with ⟨e, h2⟩ | ⟨e, h2⟩
    · subst h2
      exact ⟨hL.lose, hr, fun M2 h3 => hq M2 ⟨⟨h3.1.1, (cF.rf.up (by simp)).tr h3.1.2.1, by rw [h3.1.2.2]; simp [mm_up]⟩, by unfold losI losM; rw [if_pos (by omega), if_pos e]; exact h3.2⟩⟩
    · rw [h2]
      exact ⟨hL.off e, hr, fun M2 h3 => hq M2 ⟨h3.1, by unfold losI losM; rw [if_pos (by omega), if_neg e]; exact h3.2⟩⟩
  · exact h.elim
theorem me_X3_countedMove {l : Launch} (hl : l.stackTraces = false) : mm_Met l yX3_countedMove cX3_countedMove 3 (some .int) [] 7 121 0 sp_X3_countedMove := mm_mt hl rn_X3_countedMove ⟨by decide, rfl⟩ kkX3_countedMove rfl ⟨by decide, by decide⟩ flkX3 (fun _ h => nomatch h) (⟨mm_pe (me_X0_loseOn hl) mwX0_loseOn (mm_t3 200 rfl rfl) (Nat.le_of_ble_eq_true rfl) (Nat.le_of_ble_eq_true rfl), mm_pe (me_X3_counted hl) mwX3_counted (mm_t1 155 rfl rfl) (Nat.le_of_ble_eq_true rfl) (Nat.le_of_ble_eq_true rfl), trivial⟩) (mm_xe0 _)
def sp_X3_countedGrowth : mm_S := fun av M d Q => match av with
  | [.inr (.inr (.inl o)), .inr (.inr (.inl w)), .inl r] =>  o = 1 ∧ isW3 w ∧ InI r ∧ wL M w ∧ (r ≤ 0 → wA M) ∧ ∀ M', cP M M' ∧ M' = cnF (losI (0 < r) M w) r → Q (.inl (some (mm_I r))) M' d
  | _ => False
def ct_X3_countedGrowth : List (Nat × mm_Ca) := [(153, (0, 2, 13, sp_X0_loseOn, 0)), (44, (0, 2, 10, sp_X3_counted, 0))]
abbrev rr_X3_countedGrowth (Q : mm_Q) := mm_run (mm_look flX3) (mm_look ct_X3_countedGrowth) mm_x0 (mm_look ([] : List (Nat × Int))) (fun _ => none) 1 0 (fun _ _ => none) Q kdX3_countedGrowth
set_option maxRecDepth 20000 in
theorem rn_X3_countedGrowth : mm_RN flX3 ct_X3_countedGrowth mm_x0 [] 1 0 3 kdX3_countedGrowth sp_X3_countedGrowth := by
  intro av M d Q h
  unfold sp_X3_countedGrowth at h
  split at h
  · rename_i o w r
    obtain ⟨rfl, hw, hr, hL, ha, hq⟩ := h
    have hk := hw.k
    refine ⟨Nat.le_of_ble_eq_true rfl, mm_run_at (stop := []) (S := mm_F0) kkX3_countedGrowth 80 ?_ mm_F0h⟩
    simp only [mm_wp, mm_op, mm_nxt, mm_jmp, mm_at, mm_in, mm_nth, mm_set, mm_ok, mm_isL, mm_ret, mm_isRet, mm_bool, mm_call, mm_push, mm_rv, mm_cats, mm_cat, mm_look, mm_ft, mm_fv, mm_pf, mm_thr, mm_ent, mm_pad, mm_fl, beq_self_eq_true, cond_true, cond_false, Nat.reduceBEq, Nat.reduceEqDiff, List.drop_succ_cons, List.drop_zero, List.take_succ_cons, List.take_zero, List.reverse_cons, List.reverse_nil, List.nil_append, List.cons_append, List.length_cons, List.length_nil, Nat.reduceAdd, Nat.reduceSub, Nat.reduceLeDiff, Bool.not_false, Bool.and_true, Bool.true_and, Nat.zero_add, true_and, and_true, Nat.le_refl, true_or, or_true, reduceCtorEq, Nat.add_zero, Nat.reduceLT, Bool.and_self, Bool.not_true, Fin.isValue, Nat.reduceLeDiff, List.take_nil, List.drop_nil, mm_i1, mm_i2, mm_i3, mm_i4, mm_i5, mm_i6, mm_i7, mm_i16, mm_i17, mm_i18, mm_i19, mm_i20, mm_i21, mm_i22, mm_i23, mm_l3, mm_l4, mm_l5, mm_l6, mm_l7, mm_l18, mm_l19, mm_l20, mm_l21, mm_l22, kdX3_countedGrowth, ct_X3_countedGrowth, flX3, sp_X0_loseOn, sp_X3_counted, wk_mm hk, wk_is hk]
    refine ⟨hr, fun h => ⟨ha h, hr, fun M2 h3 => hq M2 ⟨h3.1, by unfold losI; rw [if_neg (by omega)]; exact h3.2⟩⟩, fun h => ⟨hL.2.2.1, hk, fun M' h2 => ?_⟩⟩
    rcases h2 with ⟨e, h2⟩ | ⟨e, h2⟩
    · subst h2
      exact ⟨hL.lose, hr, fun M2 h3 => hq M2 ⟨⟨h3.1.1, (cF.rf.up (by simp)).tr h3.1.2.1, by rw [h3.1.2.2]; simp [mm_up]⟩, by unfold losI losM; rw [if_pos (by omega), if_pos e]; exact h3.2⟩⟩
    · rw [h2]
      exact ⟨hL.off e, hr, fun M2 h3 => hq M2 ⟨h3.1, by unfold losI losM; rw [if_pos (by omega), if_neg e]; exact h3.2⟩⟩
  · exact h.elim
theorem me_X3_countedGrowth {l : Launch} (hl : l.stackTraces = false) : mm_Met l yX3_countedGrowth cX3_countedGrowth 3 (some .int) [] 7 121 0 sp_X3_countedGrowth := mm_mt hl rn_X3_countedGrowth ⟨by decide, rfl⟩ kkX3_countedGrowth rfl ⟨by decide, by decide⟩ flkX3 (fun _ h => nomatch h) (⟨mm_pe (me_X0_loseOn hl) mwX0_loseOn (mm_t3 200 rfl rfl) (Nat.le_of_ble_eq_true rfl) (Nat.le_of_ble_eq_true rfl), mm_pe (me_X3_counted hl) mwX3_counted (mm_t1 155 rfl rfl) (Nat.le_of_ble_eq_true rfl) (Nat.le_of_ble_eq_true rfl), trivial⟩) (mm_xe0 _)

