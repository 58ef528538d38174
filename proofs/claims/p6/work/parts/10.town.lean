/-! the class's town -/
theorem tp1 (x : Int) : x / 2 ^ (1 : Int).toNat = x / 2 := by simp
theorem tp2 (x : Int) : x * 2 ^ (1 : Int).toNat = x * 2 := by simp
def sp_X1_isCorner : mm_S := fun av M d Q => match av with
  | [.inl a] =>  InI a ∧ ∀ r, (0 ≤ a ∧ a < 10 → r = 1) ∧ (¬ (0 ≤ a ∧ a < 10) → r = 0) → Q (.inl (some (mm_I r))) M d
  | _ => False
def ct_X1_isCorner : List (Nat × mm_Ca) := []
abbrev rr_X1_isCorner (Q : mm_Q) := mm_run (mm_look flX1) (mm_look ct_X1_isCorner) mm_x0 (mm_look ([] : List (Nat × Int))) (fun _ => none) 2 0 (fun _ _ => none) Q kdX1_isCorner
set_option maxRecDepth 20000 in
theorem rn_X1_isCorner : mm_RN flX1 ct_X1_isCorner mm_x0 [] 2 0 1 kdX1_isCorner sp_X1_isCorner := by
  intro av M d Q h
  unfold sp_X1_isCorner at h
  split at h
  · rename_i a
    obtain ⟨ha, hq⟩ := h
    refine ⟨Nat.le_of_ble_eq_true rfl, mm_run_at (stop := []) (S := mm_F0) kkX1_isCorner 80 ?_ mm_F0h⟩
    simp only [mm_wp, mm_op, mm_nxt, mm_jmp, mm_at, mm_in, mm_nth, mm_set, mm_ok, mm_isL, mm_ret, mm_isRet, mm_bool, mm_call, mm_push, mm_rv, mm_cats, mm_cat, mm_look, mm_ft, mm_fv, mm_pf, mm_thr, mm_ent, mm_pad, mm_fl, beq_self_eq_true, cond_true, cond_false, Nat.reduceBEq, Nat.reduceEqDiff, List.drop_succ_cons, List.drop_zero, List.take_succ_cons, List.take_zero, List.reverse_cons, List.reverse_nil, List.nil_append, List.cons_append, List.length_cons, List.length_nil, Nat.reduceAdd, Nat.reduceSub, Nat.reduceLeDiff, Bool.not_false, Bool.and_true, Bool.true_and, Nat.zero_add, true_and, and_true, Nat.le_refl, true_or, or_true, reduceCtorEq, Nat.add_zero, Nat.reduceLT, Bool.and_self, Bool.not_true, Fin.isValue, Nat.reduceLeDiff, List.take_nil, List.drop_nil, mm_i1, mm_i2, mm_i3, mm_i4, mm_i5, mm_i6, mm_i7, mm_i16, mm_i17, mm_i18, mm_i19, mm_i20, mm_i21, mm_i22, mm_i23, mm_l3, mm_l4, mm_l5, mm_l6, mm_l7, mm_l18, mm_l19, mm_l20, mm_l21, mm_l22, kdX1_isCorner, ct_X1_isCorner, flX1]
    repeat' (first | assumption | apply And.intro | (intro _) | apply hq)
    all_goals (try simp only [InI] at *)
    all_goals first | omega | ((repeat' split) <;> omega)
  · exact h.elim
theorem me_X1_isCorner {l : Launch} (hl : l.stackTraces = false) : mm_Met l yX1_isCorner cX1_isCorner 1 (some .boolean) [] 6 100 0 sp_X1_isCorner := mm_mt hl rn_X1_isCorner ⟨by decide, rfl⟩ kkX1_isCorner rfl ⟨by decide, by decide⟩ flkX1 (fun _ h => nomatch h) (trivial) (mm_xe0 _)
def sp_X1_size : mm_S := fun av M d Q => match av with
  | [.inr (.inr (.inl o))] =>  o = 2 ∧ Q (.inl (some (mm_I (M 2 4)))) M d
  | _ => False
def ct_X1_size : List (Nat × mm_Ca) := []
abbrev rr_X1_size (Q : mm_Q) := mm_run (mm_look flX1) (mm_look ct_X1_size) mm_x0 (mm_look ([] : List (Nat × Int))) (fun _ => none) 1 0 (fun _ _ => none) Q kdX1_size
set_option maxRecDepth 20000 in
theorem rn_X1_size : mm_RN flX1 ct_X1_size mm_x0 [] 1 0 1 kdX1_size sp_X1_size := by
  intro av M d Q h
  unfold sp_X1_size at h
  split at h
  · rename_i o
    obtain ⟨rfl, hq⟩ := h
    refine ⟨Nat.le_of_ble_eq_true rfl, mm_run_at (stop := []) (S := mm_F0) kkX1_size 80 ?_ mm_F0h⟩
    simp only [mm_wp, mm_op, mm_nxt, mm_jmp, mm_at, mm_in, mm_nth, mm_set, mm_ok, mm_isL, mm_ret, mm_isRet, mm_bool, mm_call, mm_push, mm_rv, mm_cats, mm_cat, mm_look, mm_ft, mm_fv, mm_pf, mm_thr, mm_ent, mm_pad, mm_fl, beq_self_eq_true, cond_true, cond_false, Nat.reduceBEq, Nat.reduceEqDiff, List.drop_succ_cons, List.drop_zero, List.take_succ_cons, List.take_zero, List.reverse_cons, List.reverse_nil, List.nil_append, List.cons_append, List.length_cons, List.length_nil, Nat.reduceAdd, Nat.reduceSub, Nat.reduceLeDiff, Bool.not_false, Bool.and_true, Bool.true_and, Nat.zero_add, true_and, and_true, Nat.le_refl, true_or, or_true, reduceCtorEq, Nat.add_zero, Nat.reduceLT, Bool.and_self, Bool.not_true, Fin.isValue, Nat.reduceLeDiff, List.take_nil, List.drop_nil, mm_i1, mm_i2, mm_i3, mm_i4, mm_i5, mm_i6, mm_i7, mm_i16, mm_i17, mm_i18, mm_i19, mm_i20, mm_i21, mm_i22, mm_i23, mm_l3, mm_l4, mm_l5, mm_l6, mm_l7, mm_l18, mm_l19, mm_l20, mm_l21, mm_l22, kdX1_size, ct_X1_size, flX1]
    repeat' (first | assumption | apply And.intro | (intro _) | apply hq)
    all_goals (try simp only [InI] at *)
    all_goals first | omega | ((repeat' split) <;> omega)
  · exact h.elim
theorem me_X1_size {l : Launch} (hl : l.stackTraces = false) : mm_Met l yX1_size cX1_size 1 (some .int) [] 6 100 0 sp_X1_size := mm_mt hl rn_X1_size ⟨by decide, rfl⟩ kkX1_size rfl ⟨by decide, by decide⟩ flkX1 (fun _ h => nomatch h) (trivial) (mm_xe0 _)
def sp_X1_hasRoomFor : mm_S := fun av M d Q => match av with
  | [.inr (.inr (.inl o)), .inl a] =>  o = 2 ∧ tW M ∧ (-100 ≤ a ∧ a ≤ 100) ∧ ∀ r, (M 2 4 + a ≤ 30 → r = 1) ∧ (30 < M 2 4 + a → r = 0) → Q (.inl (some (mm_I r))) M d
  | _ => False
def ct_X1_hasRoomFor : List (Nat × mm_Ca) := []
abbrev rr_X1_hasRoomFor (Q : mm_Q) := mm_run (mm_look flX1) (mm_look ct_X1_hasRoomFor) mm_x0 (mm_look ([] : List (Nat × Int))) (fun _ => none) 2 0 (fun _ _ => none) Q kdX1_hasRoomFor
set_option maxRecDepth 20000 in
theorem rn_X1_hasRoomFor : mm_RN flX1 ct_X1_hasRoomFor mm_x0 [] 2 0 2 kdX1_hasRoomFor sp_X1_hasRoomFor := by
  intro av M d Q h
  unfold sp_X1_hasRoomFor at h
  split at h
  · rename_i o a
    obtain ⟨rfl, ht, ha, hq⟩ := h
    have h1 := ht.1
    refine ⟨Nat.le_of_ble_eq_true rfl, mm_run_at (stop := []) (S := mm_F0) kkX1_hasRoomFor 80 ?_ mm_F0h⟩
    simp only [mm_wp, mm_op, mm_nxt, mm_jmp, mm_at, mm_in, mm_nth, mm_set, mm_ok, mm_isL, mm_ret, mm_isRet, mm_bool, mm_call, mm_push, mm_rv, mm_cats, mm_cat, mm_look, mm_ft, mm_fv, mm_pf, mm_thr, mm_ent, mm_pad, mm_fl, beq_self_eq_true, cond_true, cond_false, Nat.reduceBEq, Nat.reduceEqDiff, List.drop_succ_cons, List.drop_zero, List.take_succ_cons, List.take_zero, List.reverse_cons, List.reverse_nil, List.nil_append, List.cons_append, List.length_cons, List.length_nil, Nat.reduceAdd, Nat.reduceSub, Nat.reduceLeDiff, Bool.not_false, Bool.and_true, Bool.true_and, Nat.zero_add, true_and, and_true, Nat.le_refl, true_or, or_true, reduceCtorEq, Nat.add_zero, Nat.reduceLT, Bool.and_self, Bool.not_true, Fin.isValue, Nat.reduceLeDiff, List.take_nil, List.drop_nil, mm_i1, mm_i2, mm_i3, mm_i4, mm_i5, mm_i6, mm_i7, mm_i16, mm_i17, mm_i18, mm_i19, mm_i20, mm_i21, mm_i22, mm_i23, mm_l3, mm_l4, mm_l5, mm_l6, mm_l7, mm_l18, mm_l19, mm_l20, mm_l21, mm_l22, kdX1_hasRoomFor, ct_X1_hasRoomFor, flX1]
    repeat' (first | assumption | apply And.intro | (intro _) | apply hq)
    all_goals (try simp only [InI] at *)
    all_goals first | omega | ((repeat' split) <;> omega)
  · exact h.elim
theorem me_X1_hasRoomFor {l : Launch} (hl : l.stackTraces = false) : mm_Met l yX1_hasRoomFor cX1_hasRoomFor 2 (some .boolean) [] 6 100 0 sp_X1_hasRoomFor := mm_mt hl rn_X1_hasRoomFor ⟨by decide, rfl⟩ kkX1_hasRoomFor rfl ⟨by decide, by decide⟩ flkX1 (fun _ h => nomatch h) (trivial) (mm_xe0 _)
def sp_X1_isOneWay : mm_S := fun av M d Q => match av with
  | [.inr (.inr (.inl o))] =>  o = 2 ∧ tW M ∧ Q (.inl (some (mm_I (M 2 5)))) M d
  | _ => False
def ct_X1_isOneWay : List (Nat × mm_Ca) := []
abbrev rr_X1_isOneWay (Q : mm_Q) := mm_run (mm_look flX1) (mm_look ct_X1_isOneWay) mm_x0 (mm_look ([] : List (Nat × Int))) (fun _ => none) 2 0 (fun _ _ => none) Q kdX1_isOneWay
set_option maxRecDepth 20000 in
theorem rn_X1_isOneWay : mm_RN flX1 ct_X1_isOneWay mm_x0 [] 2 0 1 kdX1_isOneWay sp_X1_isOneWay := by
  intro av M d Q h
  unfold sp_X1_isOneWay at h
  split at h
  · rename_i o
    obtain ⟨rfl, ht, hq⟩ := h
    have h1 := ht.2.2.1
    refine ⟨Nat.le_of_ble_eq_true rfl, mm_run_at (stop := []) (S := mm_F0) kkX1_isOneWay 80 ?_ mm_F0h⟩
    simp only [mm_wp, mm_op, mm_nxt, mm_jmp, mm_at, mm_in, mm_nth, mm_set, mm_ok, mm_isL, mm_ret, mm_isRet, mm_bool, mm_call, mm_push, mm_rv, mm_cats, mm_cat, mm_look, mm_ft, mm_fv, mm_pf, mm_thr, mm_ent, mm_pad, mm_fl, beq_self_eq_true, cond_true, cond_false, Nat.reduceBEq, Nat.reduceEqDiff, List.drop_succ_cons, List.drop_zero, List.take_succ_cons, List.take_zero, List.reverse_cons, List.reverse_nil, List.nil_append, List.cons_append, List.length_cons, List.length_nil, Nat.reduceAdd, Nat.reduceSub, Nat.reduceLeDiff, Bool.not_false, Bool.and_true, Bool.true_and, Nat.zero_add, true_and, and_true, Nat.le_refl, true_or, or_true, reduceCtorEq, Nat.add_zero, Nat.reduceLT, Bool.and_self, Bool.not_true, Fin.isValue, Nat.reduceLeDiff, List.take_nil, List.drop_nil, mm_i1, mm_i2, mm_i3, mm_i4, mm_i5, mm_i6, mm_i7, mm_i16, mm_i17, mm_i18, mm_i19, mm_i20, mm_i21, mm_i22, mm_i23, mm_l3, mm_l4, mm_l5, mm_l6, mm_l7, mm_l18, mm_l19, mm_l20, mm_l21, mm_l22, kdX1_isOneWay, ct_X1_isOneWay, flX1]
    repeat' (first | assumption | apply And.intro | (intro _) | apply hq)
    all_goals (try simp only [InI] at *)
    all_goals first | omega | ((repeat' split) <;> omega)
  · exact h.elim
theorem me_X1_isOneWay {l : Launch} (hl : l.stackTraces = false) : mm_Met l yX1_isOneWay cX1_isOneWay 1 (some .boolean) [] 6 100 0 sp_X1_isOneWay := mm_mt hl rn_X1_isOneWay ⟨by decide, rfl⟩ kkX1_isOneWay rfl ⟨by decide, by decide⟩ flkX1 (fun _ h => nomatch h) (trivial) (mm_xe0 _)
def sp_X1_setOneWay : mm_S := fun av M d Q => match av with
  | [.inr (.inr (.inl o)), .inl a] =>  o = 2 ∧ (a = 0 ∨ a = 1) ∧ Q (.inl none) (mm_up M 2 5 a) d
  | _ => False
def ct_X1_setOneWay : List (Nat × mm_Ca) := []
abbrev rr_X1_setOneWay (Q : mm_Q) := mm_run (mm_look flX1) (mm_look ct_X1_setOneWay) mm_x0 (mm_look ([] : List (Nat × Int))) (fun _ => none) 0 0 (fun _ _ => none) Q kdX1_setOneWay
set_option maxRecDepth 20000 in
theorem rn_X1_setOneWay : mm_RN flX1 ct_X1_setOneWay mm_x0 [] 0 0 2 kdX1_setOneWay sp_X1_setOneWay := by
  intro av M d Q h
  unfold sp_X1_setOneWay at h
  split at h
  · rename_i o a
    obtain ⟨rfl, ha, hq⟩ := h
    refine ⟨Nat.le_of_ble_eq_true rfl, mm_run_at (stop := []) (S := mm_F0) kkX1_setOneWay 80 ?_ mm_F0h⟩
    simp only [mm_wp, mm_op, mm_nxt, mm_jmp, mm_at, mm_in, mm_nth, mm_set, mm_ok, mm_isL, mm_ret, mm_isRet, mm_bool, mm_call, mm_push, mm_rv, mm_cats, mm_cat, mm_look, mm_ft, mm_fv, mm_pf, mm_thr, mm_ent, mm_pad, mm_fl, beq_self_eq_true, cond_true, cond_false, Nat.reduceBEq, Nat.reduceEqDiff, List.drop_succ_cons, List.drop_zero, List.take_succ_cons, List.take_zero, List.reverse_cons, List.reverse_nil, List.nil_append, List.cons_append, List.length_cons, List.length_nil, Nat.reduceAdd, Nat.reduceSub, Nat.reduceLeDiff, Bool.not_false, Bool.and_true, Bool.true_and, Nat.zero_add, true_and, and_true, Nat.le_refl, true_or, or_true, reduceCtorEq, Nat.add_zero, Nat.reduceLT, Bool.and_self, Bool.not_true, Fin.isValue, Nat.reduceLeDiff, List.take_nil, List.drop_nil, mm_i1, mm_i2, mm_i3, mm_i4, mm_i5, mm_i6, mm_i7, mm_i16, mm_i17, mm_i18, mm_i19, mm_i20, mm_i21, mm_i22, mm_i23, mm_l3, mm_l4, mm_l5, mm_l6, mm_l7, mm_l18, mm_l19, mm_l20, mm_l21, mm_l22, kdX1_setOneWay, ct_X1_setOneWay, flX1]
    repeat' (first | assumption | apply And.intro | (intro _) | apply hq)
    all_goals (try simp only [InI] at *)
    all_goals first | omega | ((repeat' split) <;> omega)
  · exact h.elim
theorem me_X1_setOneWay {l : Launch} (hl : l.stackTraces = false) : mm_Met l yX1_setOneWay cX1_setOneWay 2 none [] 6 100 0 sp_X1_setOneWay := mm_mt hl rn_X1_setOneWay ⟨by decide, rfl⟩ kkX1_setOneWay rfl ⟨by decide, by decide⟩ flkX1 (fun _ h => nomatch h) (trivial) (mm_xe0 _)
def sp_X1_isOfWords : mm_S := fun av M d Q => match av with
  | [.inr (.inr (.inl o))] =>  o = 2 ∧ tW M ∧ ∀ r, (0 < M 2 6 → r = 1) ∧ (M 2 6 ≤ 0 → r = 0) → Q (.inl (some (mm_I r))) M d
  | _ => False
def ct_X1_isOfWords : List (Nat × mm_Ca) := []
abbrev rr_X1_isOfWords (Q : mm_Q) := mm_run (mm_look flX1) (mm_look ct_X1_isOfWords) mm_x0 (mm_look ([] : List (Nat × Int))) (fun _ => none) 2 0 (fun _ _ => none) Q kdX1_isOfWords
set_option maxRecDepth 20000 in
theorem rn_X1_isOfWords : mm_RN flX1 ct_X1_isOfWords mm_x0 [] 2 0 1 kdX1_isOfWords sp_X1_isOfWords := by
  intro av M d Q h
  unfold sp_X1_isOfWords at h
  split at h
  · rename_i o
    obtain ⟨rfl, ht, hq⟩ := h
    have h1 := ht.2.2.2
    refine ⟨Nat.le_of_ble_eq_true rfl, mm_run_at (stop := []) (S := mm_F0) kkX1_isOfWords 80 ?_ mm_F0h⟩
    simp only [mm_wp, mm_op, mm_nxt, mm_jmp, mm_at, mm_in, mm_nth, mm_set, mm_ok, mm_isL, mm_ret, mm_isRet, mm_bool, mm_call, mm_push, mm_rv, mm_cats, mm_cat, mm_look, mm_ft, mm_fv, mm_pf, mm_thr, mm_ent, mm_pad, mm_fl, beq_self_eq_true, cond_true, cond_false, Nat.reduceBEq, Nat.reduceEqDiff, List.drop_succ_cons, List.drop_zero, List.take_succ_cons, List.take_zero, List.reverse_cons, List.reverse_nil, List.nil_append, List.cons_append, List.length_cons, List.length_nil, Nat.reduceAdd, Nat.reduceSub, Nat.reduceLeDiff, Bool.not_false, Bool.and_true, Bool.true_and, Nat.zero_add, true_and, and_true, Nat.le_refl, true_or, or_true, reduceCtorEq, Nat.add_zero, Nat.reduceLT, Bool.and_self, Bool.not_true, Fin.isValue, Nat.reduceLeDiff, List.take_nil, List.drop_nil, mm_i1, mm_i2, mm_i3, mm_i4, mm_i5, mm_i6, mm_i7, mm_i16, mm_i17, mm_i18, mm_i19, mm_i20, mm_i21, mm_i22, mm_i23, mm_l3, mm_l4, mm_l5, mm_l6, mm_l7, mm_l18, mm_l19, mm_l20, mm_l21, mm_l22, kdX1_isOfWords, ct_X1_isOfWords, flX1]
    repeat' (first | assumption | apply And.intro | (intro _) | apply hq)
    all_goals (try simp only [InI] at *)
    all_goals first | omega | ((repeat' split) <;> omega)
  · exact h.elim
theorem me_X1_isOfWords {l : Launch} (hl : l.stackTraces = false) : mm_Met l yX1_isOfWords cX1_isOfWords 1 (some .boolean) [] 6 100 0 sp_X1_isOfWords := mm_mt hl rn_X1_isOfWords ⟨by decide, rfl⟩ kkX1_isOfWords rfl ⟨by decide, by decide⟩ flkX1 (fun _ h => nomatch h) (trivial) (mm_xe0 _)
def sp_X1_signCount : mm_S := fun av M d Q => match av with
  | [.inr (.inr (.inl o))] =>  o = 2 ∧ Q (.inl (some (mm_I (M 2 6)))) M d
  | _ => False
def ct_X1_signCount : List (Nat × mm_Ca) := []
abbrev rr_X1_signCount (Q : mm_Q) := mm_run (mm_look flX1) (mm_look ct_X1_signCount) mm_x0 (mm_look ([] : List (Nat × Int))) (fun _ => none) 1 0 (fun _ _ => none) Q kdX1_signCount
set_option maxRecDepth 20000 in
theorem rn_X1_signCount : mm_RN flX1 ct_X1_signCount mm_x0 [] 1 0 1 kdX1_signCount sp_X1_signCount := by
  intro av M d Q h
  unfold sp_X1_signCount at h
  split at h
  · rename_i o
    obtain ⟨rfl, hq⟩ := h
    refine ⟨Nat.le_of_ble_eq_true rfl, mm_run_at (stop := []) (S := mm_F0) kkX1_signCount 80 ?_ mm_F0h⟩
    simp only [mm_wp, mm_op, mm_nxt, mm_jmp, mm_at, mm_in, mm_nth, mm_set, mm_ok, mm_isL, mm_ret, mm_isRet, mm_bool, mm_call, mm_push, mm_rv, mm_cats, mm_cat, mm_look, mm_ft, mm_fv, mm_pf, mm_thr, mm_ent, mm_pad, mm_fl, beq_self_eq_true, cond_true, cond_false, Nat.reduceBEq, Nat.reduceEqDiff, List.drop_succ_cons, List.drop_zero, List.take_succ_cons, List.take_zero, List.reverse_cons, List.reverse_nil, List.nil_append, List.cons_append, List.length_cons, List.length_nil, Nat.reduceAdd, Nat.reduceSub, Nat.reduceLeDiff, Bool.not_false, Bool.and_true, Bool.true_and, Nat.zero_add, true_and, and_true, Nat.le_refl, true_or, or_true, reduceCtorEq, Nat.add_zero, Nat.reduceLT, Bool.and_self, Bool.not_true, Fin.isValue, Nat.reduceLeDiff, List.take_nil, List.drop_nil, mm_i1, mm_i2, mm_i3, mm_i4, mm_i5, mm_i6, mm_i7, mm_i16, mm_i17, mm_i18, mm_i19, mm_i20, mm_i21, mm_i22, mm_i23, mm_l3, mm_l4, mm_l5, mm_l6, mm_l7, mm_l18, mm_l19, mm_l20, mm_l21, mm_l22, kdX1_signCount, ct_X1_signCount, flX1]
    repeat' (first | assumption | apply And.intro | (intro _) | apply hq)
    all_goals (try simp only [InI] at *)
    all_goals first | omega | ((repeat' split) <;> omega)
  · exact h.elim
theorem me_X1_signCount {l : Launch} (hl : l.stackTraces = false) : mm_Met l yX1_signCount cX1_signCount 1 (some .int) [] 6 100 0 sp_X1_signCount := mm_mt hl rn_X1_signCount ⟨by decide, rfl⟩ kkX1_signCount rfl ⟨by decide, by decide⟩ flkX1 (fun _ h => nomatch h) (trivial) (mm_xe0 _)
def sp_X1_wordSize : mm_S := fun av M d Q => match av with
  | [.inr (.inr (.inl o))] =>  o = 2 ∧ Q (.inl (some (mm_I (M 2 7)))) M d
  | _ => False
def ct_X1_wordSize : List (Nat × mm_Ca) := []
abbrev rr_X1_wordSize (Q : mm_Q) := mm_run (mm_look flX1) (mm_look ct_X1_wordSize) mm_x0 (mm_look ([] : List (Nat × Int))) (fun _ => none) 1 0 (fun _ _ => none) Q kdX1_wordSize
set_option maxRecDepth 20000 in
theorem rn_X1_wordSize : mm_RN flX1 ct_X1_wordSize mm_x0 [] 1 0 1 kdX1_wordSize sp_X1_wordSize := by
  intro av M d Q h
  unfold sp_X1_wordSize at h
  split at h
  · rename_i o
    obtain ⟨rfl, hq⟩ := h
    refine ⟨Nat.le_of_ble_eq_true rfl, mm_run_at (stop := []) (S := mm_F0) kkX1_wordSize 80 ?_ mm_F0h⟩
    simp only [mm_wp, mm_op, mm_nxt, mm_jmp, mm_at, mm_in, mm_nth, mm_set, mm_ok, mm_isL, mm_ret, mm_isRet, mm_bool, mm_call, mm_push, mm_rv, mm_cats, mm_cat, mm_look, mm_ft, mm_fv, mm_pf, mm_thr, mm_ent, mm_pad, mm_fl, beq_self_eq_true, cond_true, cond_false, Nat.reduceBEq, Nat.reduceEqDiff, List.drop_succ_cons, List.drop_zero, List.take_succ_cons, List.take_zero, List.reverse_cons, List.reverse_nil, List.nil_append, List.cons_append, List.length_cons, List.length_nil, Nat.reduceAdd, Nat.reduceSub, Nat.reduceLeDiff, Bool.not_false, Bool.and_true, Bool.true_and, Nat.zero_add, true_and, and_true, Nat.le_refl, true_or, or_true, reduceCtorEq, Nat.add_zero, Nat.reduceLT, Bool.and_self, Bool.not_true, Fin.isValue, Nat.reduceLeDiff, List.take_nil, List.drop_nil, mm_i1, mm_i2, mm_i3, mm_i4, mm_i5, mm_i6, mm_i7, mm_i16, mm_i17, mm_i18, mm_i19, mm_i20, mm_i21, mm_i22, mm_i23, mm_l3, mm_l4, mm_l5, mm_l6, mm_l7, mm_l18, mm_l19, mm_l20, mm_l21, mm_l22, kdX1_wordSize, ct_X1_wordSize, flX1]
    repeat' (first | assumption | apply And.intro | (intro _) | apply hq)
    all_goals (try simp only [InI] at *)
    all_goals first | omega | ((repeat' split) <;> omega)
  · exact h.elim
theorem me_X1_wordSize {l : Launch} (hl : l.stackTraces = false) : mm_Met l yX1_wordSize cX1_wordSize 1 (some .int) [] 6 100 0 sp_X1_wordSize := mm_mt hl rn_X1_wordSize ⟨by decide, rfl⟩ kkX1_wordSize rfl ⟨by decide, by decide⟩ flkX1 (fun _ h => nomatch h) (trivial) (mm_xe0 _)
def sp_X1_signOf : mm_S := fun av M d Q => match av with
  | [.inr (.inr (.inl o)), .inl a] =>  o = 2 ∧ tW M ∧ (0 ≤ a ∧ a < 100) ∧ ∀ r, (0 < M 2 6 → r = a % M 2 6 ∧ 0 ≤ r ∧ r < M 2 6) ∧ (M 2 6 ≤ 0 → r = 0) → Q (.inl (some (mm_I r))) M d
  | _ => False
def ct_X1_signOf : List (Nat × mm_Ca) := []
abbrev rr_X1_signOf (Q : mm_Q) := mm_run (mm_look flX1) (mm_look ct_X1_signOf) mm_x0 (mm_look ([] : List (Nat × Int))) (fun _ => none) 1 0 (fun _ _ => none) Q kdX1_signOf
set_option maxRecDepth 20000 in
theorem rn_X1_signOf : mm_RN flX1 ct_X1_signOf mm_x0 [] 1 0 2 kdX1_signOf sp_X1_signOf := by
  intro av M d Q h
  unfold sp_X1_signOf at h
  split at h
  · rename_i o a
    obtain ⟨rfl, ht, ha, hq⟩ := h
    have h1 := ht.2.2.2
    refine ⟨Nat.le_of_ble_eq_true rfl, mm_run_at (stop := []) (S := mm_F0) kkX1_signOf 80 ?_ mm_F0h⟩
    simp only [mm_wp, mm_op, mm_nxt, mm_jmp, mm_at, mm_in, mm_nth, mm_set, mm_ok, mm_isL, mm_ret, mm_isRet, mm_bool, mm_call, mm_push, mm_rv, mm_cats, mm_cat, mm_look, mm_ft, mm_fv, mm_pf, mm_thr, mm_ent, mm_pad, mm_fl, beq_self_eq_true, cond_true, cond_false, Nat.reduceBEq, Nat.reduceEqDiff, List.drop_succ_cons, List.drop_zero, List.take_succ_cons, List.take_zero, List.reverse_cons, List.reverse_nil, List.nil_append, List.cons_append, List.length_cons, List.length_nil, Nat.reduceAdd, Nat.reduceSub, Nat.reduceLeDiff, Bool.not_false, Bool.and_true, Bool.true_and, Nat.zero_add, true_and, and_true, Nat.le_refl, true_or, or_true, reduceCtorEq, Nat.add_zero, Nat.reduceLT, Bool.and_self, Bool.not_true, Fin.isValue, Nat.reduceLeDiff, List.take_nil, List.drop_nil, mm_i1, mm_i2, mm_i3, mm_i4, mm_i5, mm_i6, mm_i7, mm_i16, mm_i17, mm_i18, mm_i19, mm_i20, mm_i21, mm_i22, mm_i23, mm_l3, mm_l4, mm_l5, mm_l6, mm_l7, mm_l18, mm_l19, mm_l20, mm_l21, mm_l22, kdX1_signOf, ct_X1_signOf, flX1]
    rw [Int.tmod_eq_emod_of_nonneg ha.1]
    have h2 : 0 < M 2 6 → 0 ≤ a % M 2 6 ∧ a % M 2 6 < M 2 6 := fun h => ⟨Int.emod_nonneg _ (by omega), Int.emod_lt_of_pos _ h⟩
    repeat' (first | assumption | apply And.intro | (intro _) | apply hq)
    all_goals (try simp only [InI] at *)
    all_goals first | omega | ((repeat' split) <;> omega)
  · exact h.elim
theorem me_X1_signOf {l : Launch} (hl : l.stackTraces = false) : mm_Met l yX1_signOf cX1_signOf 2 (some .int) [] 6 100 0 sp_X1_signOf := mm_mt hl rn_X1_signOf ⟨by decide, rfl⟩ kkX1_signOf rfl ⟨by decide, by decide⟩ flkX1 (fun _ h => nomatch h) (trivial) (mm_xe0 _)
def sp_X1_addStreet : mm_S := fun av M d Q => match av with
  | [.inr (.inr (.inl o)), .inl a, .inl b] =>  o = 2 ∧ tW M ∧ M 2 4 < 30 ∧ (0 ≤ a ∧ a < 10) ∧ (0 ≤ b ∧ b < 10) ∧ Q (.inl none) (mm_up (mm_up (mm_up M 3 (M 2 4).toNat a) 4 (M 2 4).toNat b) 2 4 (M 2 4 + 1)) d
  | _ => False
def ct_X1_addStreet : List (Nat × mm_Ca) := [(38, (1, 1, 0, sp_X1_isCorner, 0))]
abbrev rr_X1_addStreet (Q : mm_Q) := mm_run (mm_look flX1) (mm_look ct_X1_addStreet) mm_x0 (mm_look ([] : List (Nat × Int))) (fun _ => none) 0 0 (fun _ _ => none) Q kdX1_addStreet
set_option maxRecDepth 20000 in
theorem rn_X1_addStreet : mm_RN flX1 ct_X1_addStreet mm_x0 [] 0 0 3 kdX1_addStreet sp_X1_addStreet := by
  intro av M d Q h
  unfold sp_X1_addStreet at h
  split at h
  · rename_i o a b
    obtain ⟨rfl, ht, hn, ha, hb, hq⟩ := h
    have h1 := ht.1
    refine ⟨Nat.le_of_ble_eq_true rfl, mm_run_at (stop := []) (S := mm_F0) kkX1_addStreet 80 ?_ mm_F0h⟩
    simp only [mm_wp, mm_op, mm_nxt, mm_jmp, mm_at, mm_in, mm_nth, mm_set, mm_ok, mm_isL, mm_ret, mm_isRet, mm_bool, mm_call, mm_push, mm_rv, mm_cats, mm_cat, mm_look, mm_ft, mm_fv, mm_pf, mm_thr, mm_ent, mm_pad, mm_fl, beq_self_eq_true, cond_true, cond_false, Nat.reduceBEq, Nat.reduceEqDiff, List.drop_succ_cons, List.drop_zero, List.take_succ_cons, List.take_zero, List.reverse_cons, List.reverse_nil, List.nil_append, List.cons_append, List.length_cons, List.length_nil, Nat.reduceAdd, Nat.reduceSub, Nat.reduceLeDiff, Bool.not_false, Bool.and_true, Bool.true_and, Nat.zero_add, true_and, and_true, Nat.le_refl, true_or, or_true, reduceCtorEq, Nat.add_zero, Nat.reduceLT, Bool.and_self, Bool.not_true, Fin.isValue, Nat.reduceLeDiff, List.take_nil, List.drop_nil, mm_i1, mm_i2, mm_i3, mm_i4, mm_i5, mm_i6, mm_i7, mm_i16, mm_i17, mm_i18, mm_i19, mm_i20, mm_i21, mm_i22, mm_i23, mm_l3, mm_l4, mm_l5, mm_l6, mm_l7, mm_l18, mm_l19, mm_l20, mm_l21, mm_l22, kdX1_addStreet, ct_X1_addStreet, flX1, sp_X1_isCorner]
    have e1 : ∀ x y z : Int, mm_up (mm_up M 3 x.toNat y) 4 x.toNat z 2 4 = M 2 4 := fun x y z => by simp [mm_up]
    have e2 : ∀ x y : Int, mm_up M 3 x.toNat y 2 4 = M 2 4 := fun x y => by simp [mm_up]
    simp only [e1, e2]
    repeat' (first | assumption | apply And.intro | (intro _) | apply hq)
    all_goals (try simp only [InI] at *)
    all_goals first | omega | ((repeat' split) <;> omega)
  · exact h.elim
theorem me_X1_addStreet {l : Launch} (hl : l.stackTraces = false) : mm_Met l yX1_addStreet cX1_addStreet 3 none [] 7 120 0 sp_X1_addStreet := mm_mt hl rn_X1_addStreet ⟨by decide, rfl⟩ kkX1_addStreet rfl ⟨by decide, by decide⟩ flkX1 (fun _ h => nomatch h) (⟨mm_pe (me_X1_isCorner hl) mwX1_isCorner (mm_t1 236 rfl rfl) (Nat.le_of_ble_eq_true rfl) (Nat.le_of_ble_eq_true rfl), trivial⟩) (mm_xe0 _)
def sp_X1_endWords : mm_S := fun av M d Q => match av with
  | [.inr (.inr (.inl o))] =>  o = 2 ∧ Q (.inl none) (mm_up (mm_up M 2 6 0) 2 7 0) d
  | _ => False
def ct_X1_endWords : List (Nat × mm_Ca) := []
abbrev rr_X1_endWords (Q : mm_Q) := mm_run (mm_look flX1) (mm_look ct_X1_endWords) mm_x0 (mm_look ([] : List (Nat × Int))) (fun _ => none) 0 0 (fun _ _ => none) Q kdX1_endWords
set_option maxRecDepth 20000 in
theorem rn_X1_endWords : mm_RN flX1 ct_X1_endWords mm_x0 [] 0 0 1 kdX1_endWords sp_X1_endWords := by
  intro av M d Q h
  unfold sp_X1_endWords at h
  split at h
  · rename_i o
    obtain ⟨rfl, hq⟩ := h
    refine ⟨Nat.le_of_ble_eq_true rfl, mm_run_at (stop := []) (S := mm_F0) kkX1_endWords 80 ?_ mm_F0h⟩
    simp only [mm_wp, mm_op, mm_nxt, mm_jmp, mm_at, mm_in, mm_nth, mm_set, mm_ok, mm_isL, mm_ret, mm_isRet, mm_bool, mm_call, mm_push, mm_rv, mm_cats, mm_cat, mm_look, mm_ft, mm_fv, mm_pf, mm_thr, mm_ent, mm_pad, mm_fl, beq_self_eq_true, cond_true, cond_false, Nat.reduceBEq, Nat.reduceEqDiff, List.drop_succ_cons, List.drop_zero, List.take_succ_cons, List.take_zero, List.reverse_cons, List.reverse_nil, List.nil_append, List.cons_append, List.length_cons, List.length_nil, Nat.reduceAdd, Nat.reduceSub, Nat.reduceLeDiff, Bool.not_false, Bool.and_true, Bool.true_and, Nat.zero_add, true_and, and_true, Nat.le_refl, true_or, or_true, reduceCtorEq, Nat.add_zero, Nat.reduceLT, Bool.and_self, Bool.not_true, Fin.isValue, Nat.reduceLeDiff, List.take_nil, List.drop_nil, mm_i1, mm_i2, mm_i3, mm_i4, mm_i5, mm_i6, mm_i7, mm_i16, mm_i17, mm_i18, mm_i19, mm_i20, mm_i21, mm_i22, mm_i23, mm_l3, mm_l4, mm_l5, mm_l6, mm_l7, mm_l18, mm_l19, mm_l20, mm_l21, mm_l22, kdX1_endWords, ct_X1_endWords, flX1]
    repeat' (first | assumption | apply And.intro | (intro _) | apply hq)
    all_goals (try simp only [InI] at *)
    all_goals first | omega | ((repeat' split) <;> omega)
  · exact h.elim
theorem me_X1_endWords {l : Launch} (hl : l.stackTraces = false) : mm_Met l yX1_endWords cX1_endWords 1 none [] 6 100 0 sp_X1_endWords := mm_mt hl rn_X1_endWords ⟨by decide, rfl⟩ kkX1_endWords rfl ⟨by decide, by decide⟩ flkX1 (fun _ h => nomatch h) (trivial) (mm_xe0 _)
def sp_X1_fromOf : mm_S := fun av M d Q => match av with
  | [.inr (.inr (.inl o)), .inl s] =>  o = 2 ∧ tW M ∧ (0 ≤ s ∧ s < M 2 4) ∧ ∀ r, r = M 3 s.toNat ∧ 0 ≤ r ∧ r < 10 → Q (.inl (some (mm_I r))) M d
  | _ => False
def ct_X1_fromOf : List (Nat × mm_Ca) := []
abbrev rr_X1_fromOf (Q : mm_Q) := mm_run (mm_look flX1) (mm_look ct_X1_fromOf) mm_x0 (mm_look ([] : List (Nat × Int))) (fun _ => none) 1 0 (fun _ _ => none) Q kdX1_fromOf
set_option maxRecDepth 20000 in
theorem rn_X1_fromOf : mm_RN flX1 ct_X1_fromOf mm_x0 [] 1 0 2 kdX1_fromOf sp_X1_fromOf := by
  intro av M d Q h
  unfold sp_X1_fromOf at h
  split at h
  · rename_i o s
    obtain ⟨rfl, ht, hs, hq⟩ := h
    have h1 := ht.1
    have h2 := ht.2.1 s.toNat (by omega)
    refine ⟨Nat.le_of_ble_eq_true rfl, mm_run_at (stop := []) (S := mm_F0) kkX1_fromOf 80 ?_ mm_F0h⟩
    simp only [mm_wp, mm_op, mm_nxt, mm_jmp, mm_at, mm_in, mm_nth, mm_set, mm_ok, mm_isL, mm_ret, mm_isRet, mm_bool, mm_call, mm_push, mm_rv, mm_cats, mm_cat, mm_look, mm_ft, mm_fv, mm_pf, mm_thr, mm_ent, mm_pad, mm_fl, beq_self_eq_true, cond_true, cond_false, Nat.reduceBEq, Nat.reduceEqDiff, List.drop_succ_cons, List.drop_zero, List.take_succ_cons, List.take_zero, List.reverse_cons, List.reverse_nil, List.nil_append, List.cons_append, List.length_cons, List.length_nil, Nat.reduceAdd, Nat.reduceSub, Nat.reduceLeDiff, Bool.not_false, Bool.and_true, Bool.true_and, Nat.zero_add, true_and, and_true, Nat.le_refl, true_or, or_true, reduceCtorEq, Nat.add_zero, Nat.reduceLT, Bool.and_self, Bool.not_true, Fin.isValue, Nat.reduceLeDiff, List.take_nil, List.drop_nil, mm_i1, mm_i2, mm_i3, mm_i4, mm_i5, mm_i6, mm_i7, mm_i16, mm_i17, mm_i18, mm_i19, mm_i20, mm_i21, mm_i22, mm_i23, mm_l3, mm_l4, mm_l5, mm_l6, mm_l7, mm_l18, mm_l19, mm_l20, mm_l21, mm_l22, kdX1_fromOf, ct_X1_fromOf, flX1]
    repeat' (first | assumption | apply And.intro | (intro _) | apply hq)
    all_goals (try simp only [InI] at *)
    all_goals first | omega | ((repeat' split) <;> omega)
  · exact h.elim
theorem me_X1_fromOf {l : Launch} (hl : l.stackTraces = false) : mm_Met l yX1_fromOf cX1_fromOf 2 (some .int) [] 6 100 0 sp_X1_fromOf := mm_mt hl rn_X1_fromOf ⟨by decide, rfl⟩ kkX1_fromOf rfl ⟨by decide, by decide⟩ flkX1 (fun _ h => nomatch h) (trivial) (mm_xe0 _)
def sp_X1_toOf : mm_S := fun av M d Q => match av with
  | [.inr (.inr (.inl o)), .inl s] =>  o = 2 ∧ tW M ∧ (0 ≤ s ∧ s < M 2 4) ∧ ∀ r, r = M 4 s.toNat ∧ 0 ≤ r ∧ r < 10 → Q (.inl (some (mm_I r))) M d
  | _ => False
def ct_X1_toOf : List (Nat × mm_Ca) := []
abbrev rr_X1_toOf (Q : mm_Q) := mm_run (mm_look flX1) (mm_look ct_X1_toOf) mm_x0 (mm_look ([] : List (Nat × Int))) (fun _ => none) 1 0 (fun _ _ => none) Q kdX1_toOf
set_option maxRecDepth 20000 in
theorem rn_X1_toOf : mm_RN flX1 ct_X1_toOf mm_x0 [] 1 0 2 kdX1_toOf sp_X1_toOf := by
  intro av M d Q h
  unfold sp_X1_toOf at h
  split at h
  · rename_i o s
    obtain ⟨rfl, ht, hs, hq⟩ := h
    have h1 := ht.1
    have h2 := ht.2.1 s.toNat (by omega)
    refine ⟨Nat.le_of_ble_eq_true rfl, mm_run_at (stop := []) (S := mm_F0) kkX1_toOf 80 ?_ mm_F0h⟩
    simp only [mm_wp, mm_op, mm_nxt, mm_jmp, mm_at, mm_in, mm_nth, mm_set, mm_ok, mm_isL, mm_ret, mm_isRet, mm_bool, mm_call, mm_push, mm_rv, mm_cats, mm_cat, mm_look, mm_ft, mm_fv, mm_pf, mm_thr, mm_ent, mm_pad, mm_fl, beq_self_eq_true, cond_true, cond_false, Nat.reduceBEq, Nat.reduceEqDiff, List.drop_succ_cons, List.drop_zero, List.take_succ_cons, List.take_zero, List.reverse_cons, List.reverse_nil, List.nil_append, List.cons_append, List.length_cons, List.length_nil, Nat.reduceAdd, Nat.reduceSub, Nat.reduceLeDiff, Bool.not_false, Bool.and_true, Bool.true_and, Nat.zero_add, true_and, and_true, Nat.le_refl, true_or, or_true, reduceCtorEq, Nat.add_zero, Nat.reduceLT, Bool.and_self, Bool.not_true, Fin.isValue, Nat.reduceLeDiff, List.take_nil, List.drop_nil, mm_i1, mm_i2, mm_i3, mm_i4, mm_i5, mm_i6, mm_i7, mm_i16, mm_i17, mm_i18, mm_i19, mm_i20, mm_i21, mm_i22, mm_i23, mm_l3, mm_l4, mm_l5, mm_l6, mm_l7, mm_l18, mm_l19, mm_l20, mm_l21, mm_l22, kdX1_toOf, ct_X1_toOf, flX1]
    repeat' (first | assumption | apply And.intro | (intro _) | apply hq)
    all_goals (try simp only [InI] at *)
    all_goals first | omega | ((repeat' split) <;> omega)
  · exact h.elim
theorem me_X1_toOf {l : Launch} (hl : l.stackTraces = false) : mm_Met l yX1_toOf cX1_toOf 2 (some .int) [] 6 100 0 sp_X1_toOf := mm_mt hl rn_X1_toOf ⟨by decide, rfl⟩ kkX1_toOf rfl ⟨by decide, by decide⟩ flkX1 (fun _ h => nomatch h) (trivial) (mm_xe0 _)
def sp_X1_isLoop : mm_S := fun av M d Q => match av with
  | [.inr (.inr (.inl o)), .inl s] =>  o = 2 ∧ tW M ∧ (0 ≤ s ∧ s < M 2 4) ∧ ∀ r, (M 3 s.toNat = M 4 s.toNat → r = 1) ∧ (M 3 s.toNat ≠ M 4 s.toNat → r = 0) → Q (.inl (some (mm_I r))) M d
  | _ => False
def ct_X1_isLoop : List (Nat × mm_Ca) := [(53, (0, 2, 11, sp_X1_fromOf, 0)), (57, (0, 2, 11, sp_X1_toOf, 0))]
abbrev rr_X1_isLoop (Q : mm_Q) := mm_run (mm_look flX1) (mm_look ct_X1_isLoop) mm_x0 (mm_look ([] : List (Nat × Int))) (fun _ => none) 2 0 (fun _ _ => none) Q kdX1_isLoop
set_option maxRecDepth 20000 in
theorem rn_X1_isLoop : mm_RN flX1 ct_X1_isLoop mm_x0 [] 2 0 2 kdX1_isLoop sp_X1_isLoop := by
  intro av M d Q h
  unfold sp_X1_isLoop at h
  split at h
  · rename_i o s
    obtain ⟨rfl, ht, hs, hq⟩ := h
    refine ⟨Nat.le_of_ble_eq_true rfl, mm_run_at (stop := []) (S := mm_F0) kkX1_isLoop 80 ?_ mm_F0h⟩
    simp only [mm_wp, mm_op, mm_nxt, mm_jmp, mm_at, mm_in, mm_nth, mm_set, mm_ok, mm_isL, mm_ret, mm_isRet, mm_bool, mm_call, mm_push, mm_rv, mm_cats, mm_cat, mm_look, mm_ft, mm_fv, mm_pf, mm_thr, mm_ent, mm_pad, mm_fl, beq_self_eq_true, cond_true, cond_false, Nat.reduceBEq, Nat.reduceEqDiff, List.drop_succ_cons, List.drop_zero, List.take_succ_cons, List.take_zero, List.reverse_cons, List.reverse_nil, List.nil_append, List.cons_append, List.length_cons, List.length_nil, Nat.reduceAdd, Nat.reduceSub, Nat.reduceLeDiff, Bool.not_false, Bool.and_true, Bool.true_and, Nat.zero_add, true_and, and_true, Nat.le_refl, true_or, or_true, reduceCtorEq, Nat.add_zero, Nat.reduceLT, Bool.and_self, Bool.not_true, Fin.isValue, Nat.reduceLeDiff, List.take_nil, List.drop_nil, mm_i1, mm_i2, mm_i3, mm_i4, mm_i5, mm_i6, mm_i7, mm_i16, mm_i17, mm_i18, mm_i19, mm_i20, mm_i21, mm_i22, mm_i23, mm_l3, mm_l4, mm_l5, mm_l6, mm_l7, mm_l18, mm_l19, mm_l20, mm_l21, mm_l22, kdX1_isLoop, ct_X1_isLoop, flX1, sp_X1_fromOf, sp_X1_toOf]
    repeat' (first | assumption | apply And.intro | (intro _) | apply hq)
    all_goals (try simp only [InI] at *)
    all_goals first | omega | ((repeat' split) <;> omega)
  · exact h.elim
theorem me_X1_isLoop {l : Launch} (hl : l.stackTraces = false) : mm_Met l yX1_isLoop cX1_isLoop 2 (some .boolean) [] 7 121 0 sp_X1_isLoop := mm_mt hl rn_X1_isLoop ⟨by decide, rfl⟩ kkX1_isLoop rfl ⟨by decide, by decide⟩ flkX1 (fun _ h => nomatch h) (⟨mm_pe (me_X1_fromOf hl) mwX1_fromOf (mm_t1 203 rfl rfl) (Nat.le_of_ble_eq_true rfl) (Nat.le_of_ble_eq_true rfl), mm_pe (me_X1_toOf hl) mwX1_toOf (mm_t1 199 rfl rfl) (Nat.le_of_ble_eq_true rfl) (Nat.le_of_ble_eq_true rfl), trivial⟩) (mm_xe0 _)
def sp_X1_goalOf : mm_S := fun av M d Q => match av with
  | [.inr (.inr (.inl o)), .inl s] =>  o = 2 ∧ tW M ∧ (0 ≤ s ∧ s < 2 * M 2 4) ∧ ∀ r, r = gl M s ∧ 0 ≤ r ∧ r < 10 → Q (.inl (some (mm_I r))) M d
  | _ => False
def ct_X1_goalOf : List (Nat × mm_Ca) := [(57, (0, 2, 11, sp_X1_toOf, 0)), (53, (0, 2, 11, sp_X1_fromOf, 0))]
abbrev rr_X1_goalOf (Q : mm_Q) := mm_run (mm_look flX1) (mm_look ct_X1_goalOf) mm_x0 (mm_look ([] : List (Nat × Int))) (fun _ => none) 1 0 (fun _ _ => none) Q kdX1_goalOf
set_option maxRecDepth 20000 in
theorem rn_X1_goalOf : mm_RN flX1 ct_X1_goalOf mm_x0 [] 1 0 3 kdX1_goalOf sp_X1_goalOf := by
  intro av M d Q h
  unfold sp_X1_goalOf at h
  split at h
  · rename_i o s
    obtain ⟨rfl, ht, hs, hq⟩ := h
    have h1 := ht.1
    have hi : InI s := ⟨by omega, by omega⟩
    refine ⟨Nat.le_of_ble_eq_true rfl, mm_run_at (stop := []) (S := mm_F0) kkX1_goalOf 80 ?_ mm_F0h⟩
    simp only [mm_wp, mm_op, mm_nxt, mm_jmp, mm_at, mm_in, mm_nth, mm_set, mm_ok, mm_isL, mm_ret, mm_isRet, mm_bool, mm_call, mm_push, mm_rv, mm_cats, mm_cat, mm_look, mm_ft, mm_fv, mm_pf, mm_thr, mm_ent, mm_pad, mm_fl, beq_self_eq_true, cond_true, cond_false, Nat.reduceBEq, Nat.reduceEqDiff, List.drop_succ_cons, List.drop_zero, List.take_succ_cons, List.take_zero, List.reverse_cons, List.reverse_nil, List.nil_append, List.cons_append, List.length_cons, List.length_nil, Nat.reduceAdd, Nat.reduceSub, Nat.reduceLeDiff, Bool.not_false, Bool.and_true, Bool.true_and, Nat.zero_add, true_and, and_true, Nat.le_refl, true_or, or_true, reduceCtorEq, Nat.add_zero, Nat.reduceLT, Bool.and_self, Bool.not_true, Fin.isValue, Nat.reduceLeDiff, List.take_nil, List.drop_nil, mm_i1, mm_i2, mm_i3, mm_i4, mm_i5, mm_i6, mm_i7, mm_i16, mm_i17, mm_i18, mm_i19, mm_i20, mm_i21, mm_i22, mm_i23, mm_l3, mm_l4, mm_l5, mm_l6, mm_l7, mm_l18, mm_l19, mm_l20, mm_l21, mm_l22, kdX1_goalOf, ct_X1_goalOf, flX1, sp_X1_toOf, sp_X1_fromOf, tp1, mm_and1 hi]
    repeat' (first | assumption | apply And.intro | (intro _) | apply hq)
    all_goals (try simp only [InI, gl] at *)
    all_goals first | omega | ((repeat' split) <;> omega)
  · exact h.elim
theorem me_X1_goalOf {l : Launch} (hl : l.stackTraces = false) : mm_Met l yX1_goalOf cX1_goalOf 3 (some .int) [] 7 121 0 sp_X1_goalOf := mm_mt hl rn_X1_goalOf ⟨by decide, rfl⟩ kkX1_goalOf rfl ⟨by decide, by decide⟩ flkX1 (fun _ h => nomatch h) (⟨mm_pe (me_X1_toOf hl) mwX1_toOf (mm_t1 199 rfl rfl) (Nat.le_of_ble_eq_true rfl) (Nat.le_of_ble_eq_true rfl), mm_pe (me_X1_fromOf hl) mwX1_fromOf (mm_t1 203 rfl rfl) (Nat.le_of_ble_eq_true rfl) (Nat.le_of_ble_eq_true rfl), trivial⟩) (mm_xe0 _)
def sp_X1_sourceOf : mm_S := fun av M d Q => match av with
  | [.inr (.inr (.inl o)), .inl s] =>  o = 2 ∧ tW M ∧ (0 ≤ s ∧ s < 2 * M 2 4) ∧ ∀ r, r = sr M s ∧ 0 ≤ r ∧ r < 10 → Q (.inl (some (mm_I r))) M d
  | _ => False
def ct_X1_sourceOf : List (Nat × mm_Ca) := [(60, (0, 2, 11, sp_X1_goalOf, 0))]
abbrev rr_X1_sourceOf (Q : mm_Q) := mm_run (mm_look flX1) (mm_look ct_X1_sourceOf) mm_x0 (mm_look ([] : List (Nat × Int))) (fun _ => none) 1 0 (fun _ _ => none) Q kdX1_sourceOf
set_option maxRecDepth 20000 in
theorem rn_X1_sourceOf : mm_RN flX1 ct_X1_sourceOf mm_x0 [] 1 0 2 kdX1_sourceOf sp_X1_sourceOf := by
  intro av M d Q h
  unfold sp_X1_sourceOf at h
  split at h
  · rename_i o s
    obtain ⟨rfl, ht, hs, hq⟩ := h
    have h1 := ht.1
    refine ⟨Nat.le_of_ble_eq_true rfl, mm_run_at (stop := []) (S := mm_F0) kkX1_sourceOf 80 ?_ mm_F0h⟩
    simp only [mm_wp, mm_op, mm_nxt, mm_jmp, mm_at, mm_in, mm_nth, mm_set, mm_ok, mm_isL, mm_ret, mm_isRet, mm_bool, mm_call, mm_push, mm_rv, mm_cats, mm_cat, mm_look, mm_ft, mm_fv, mm_pf, mm_thr, mm_ent, mm_pad, mm_fl, beq_self_eq_true, cond_true, cond_false, Nat.reduceBEq, Nat.reduceEqDiff, List.drop_succ_cons, List.drop_zero, List.take_succ_cons, List.take_zero, List.reverse_cons, List.reverse_nil, List.nil_append, List.cons_append, List.length_cons, List.length_nil, Nat.reduceAdd, Nat.reduceSub, Nat.reduceLeDiff, Bool.not_false, Bool.and_true, Bool.true_and, Nat.zero_add, true_and, and_true, Nat.le_refl, true_or, or_true, reduceCtorEq, Nat.add_zero, Nat.reduceLT, Bool.and_self, Bool.not_true, Fin.isValue, Nat.reduceLeDiff, List.take_nil, List.drop_nil, mm_i1, mm_i2, mm_i3, mm_i4, mm_i5, mm_i6, mm_i7, mm_i16, mm_i17, mm_i18, mm_i19, mm_i20, mm_i21, mm_i22, mm_i23, mm_l3, mm_l4, mm_l5, mm_l6, mm_l7, mm_l18, mm_l19, mm_l20, mm_l21, mm_l22, kdX1_sourceOf, ct_X1_sourceOf, flX1, sp_X1_goalOf, mm_xor1 (show 0 ≤ s ∧ s < 2147483647 by omega)]
    have e : gl M (if s % 2 = 0 then s + 1 else s - 1) = sr M s := by
      unfold gl sr
      by_cases h2 : s % 2 = 0
      · rw [if_pos h2, if_neg (by omega), if_pos h2, show (s + 1) / 2 = s / 2 by omega]
      · rw [if_neg h2, if_pos (by omega), if_neg h2, show (s - 1) / 2 = s / 2 by omega]
    rw [e]
    refine ⟨ht, ?_, fun r hr => hq r hr⟩
    split <;> omega
  · exact h.elim
theorem me_X1_sourceOf {l : Launch} (hl : l.stackTraces = false) : mm_Met l yX1_sourceOf cX1_sourceOf 2 (some .int) [] 8 143 0 sp_X1_sourceOf := mm_mt hl rn_X1_sourceOf ⟨by decide, rfl⟩ kkX1_sourceOf rfl ⟨by decide, by decide⟩ flkX1 (fun _ h => nomatch h) (⟨mm_pe (me_X1_goalOf hl) mwX1_goalOf (mm_t2 110 rfl rfl) (Nat.le_of_ble_eq_true rfl) (Nat.le_of_ble_eq_true rfl), trivial⟩) (mm_xe0 _)
def sp_X1_leaving : mm_S := fun av M d Q => match av with
  | [.inr (.inr (.inl o)), .inl s, .inl c] =>  o = 2 ∧ tW M ∧ (0 ≤ s ∧ s < M 2 4) ∧ InI c ∧ ∀ r, r = lv M s c ∧ -1 ≤ r ∧ r < 2 * M 2 4 ∧ (0 ≤ r → r / 2 = s) → Q (.inl (some (mm_I r))) M d
  | _ => False
def ct_X1_leaving : List (Nat × mm_Ca) := [(53, (0, 2, 11, sp_X1_fromOf, 0)), (57, (0, 2, 11, sp_X1_toOf, 0))]
abbrev rr_X1_leaving (Q : mm_Q) := mm_run (mm_look flX1) (mm_look ct_X1_leaving) mm_x0 (mm_look ([] : List (Nat × Int))) (fun _ => none) 1 0 (fun _ _ => none) Q kdX1_leaving
set_option maxRecDepth 20000 in
theorem rn_X1_leaving : mm_RN flX1 ct_X1_leaving mm_x0 [] 1 0 3 kdX1_leaving sp_X1_leaving := by
  intro av M d Q h
  unfold sp_X1_leaving at h
  split at h
  · rename_i o s c
    obtain ⟨rfl, ht, hs, hc, hq⟩ := h
    have h1 := ht.1
    have h3 := ht.2.2.1
    refine ⟨Nat.le_of_ble_eq_true rfl, mm_run_at (stop := []) (S := mm_F0) kkX1_leaving 80 ?_ mm_F0h⟩
    simp only [mm_wp, mm_op, mm_nxt, mm_jmp, mm_at, mm_in, mm_nth, mm_set, mm_ok, mm_isL, mm_ret, mm_isRet, mm_bool, mm_call, mm_push, mm_rv, mm_cats, mm_cat, mm_look, mm_ft, mm_fv, mm_pf, mm_thr, mm_ent, mm_pad, mm_fl, beq_self_eq_true, cond_true, cond_false, Nat.reduceBEq, Nat.reduceEqDiff, List.drop_succ_cons, List.drop_zero, List.take_succ_cons, List.take_zero, List.reverse_cons, List.reverse_nil, List.nil_append, List.cons_append, List.length_cons, List.length_nil, Nat.reduceAdd, Nat.reduceSub, Nat.reduceLeDiff, Bool.not_false, Bool.and_true, Bool.true_and, Nat.zero_add, true_and, and_true, Nat.le_refl, true_or, or_true, reduceCtorEq, Nat.add_zero, Nat.reduceLT, Bool.and_self, Bool.not_true, Fin.isValue, Nat.reduceLeDiff, List.take_nil, List.drop_nil, mm_i1, mm_i2, mm_i3, mm_i4, mm_i5, mm_i6, mm_i7, mm_i16, mm_i17, mm_i18, mm_i19, mm_i20, mm_i21, mm_i22, mm_i23, mm_l3, mm_l4, mm_l5, mm_l6, mm_l7, mm_l18, mm_l19, mm_l20, mm_l21, mm_l22, kdX1_leaving, ct_X1_leaving, flX1, sp_X1_fromOf, sp_X1_toOf]
    repeat' (first | assumption | apply And.intro | (intro _) | apply hq)
    all_goals (try simp only [InI, lv] at *)
    all_goals first | omega | ((repeat' split) <;> omega)
  · exact h.elim
theorem me_X1_leaving {l : Launch} (hl : l.stackTraces = false) : mm_Met l yX1_leaving cX1_leaving 3 (some .int) [] 7 121 0 sp_X1_leaving := mm_mt hl rn_X1_leaving ⟨by decide, rfl⟩ kkX1_leaving rfl ⟨by decide, by decide⟩ flkX1 (fun _ h => nomatch h) (⟨mm_pe (me_X1_fromOf hl) mwX1_fromOf (mm_t1 203 rfl rfl) (Nat.le_of_ble_eq_true rfl) (Nat.le_of_ble_eq_true rfl), mm_pe (me_X1_toOf hl) mwX1_toOf (mm_t1 199 rfl rfl) (Nat.le_of_ble_eq_true rfl) (Nat.le_of_ble_eq_true rfl), trivial⟩) (mm_xe0 _)
def sp_X1_comingTo : mm_S := fun av M d Q => match av with
  | [.inr (.inr (.inl o)), .inl s, .inl c] =>  o = 2 ∧ tW M ∧ (0 ≤ s ∧ s < M 2 4) ∧ InI c ∧ ∀ r, r = cm M s c ∧ -1 ≤ r ∧ r < 2 * M 2 4 ∧ (0 ≤ r → r / 2 = s) → Q (.inl (some (mm_I r))) M d
  | _ => False
def ct_X1_comingTo : List (Nat × mm_Ca) := [(57, (0, 2, 11, sp_X1_toOf, 0)), (53, (0, 2, 11, sp_X1_fromOf, 0))]
abbrev rr_X1_comingTo (Q : mm_Q) := mm_run (mm_look flX1) (mm_look ct_X1_comingTo) mm_x0 (mm_look ([] : List (Nat × Int))) (fun _ => none) 1 0 (fun _ _ => none) Q kdX1_comingTo
set_option maxRecDepth 20000 in
theorem rn_X1_comingTo : mm_RN flX1 ct_X1_comingTo mm_x0 [] 1 0 3 kdX1_comingTo sp_X1_comingTo := by
  intro av M d Q h
  unfold sp_X1_comingTo at h
  split at h
  · rename_i o s c
    obtain ⟨rfl, ht, hs, hc, hq⟩ := h
    have h1 := ht.1
    have h3 := ht.2.2.1
    refine ⟨Nat.le_of_ble_eq_true rfl, mm_run_at (stop := []) (S := mm_F0) kkX1_comingTo 80 ?_ mm_F0h⟩
    simp only [mm_wp, mm_op, mm_nxt, mm_jmp, mm_at, mm_in, mm_nth, mm_set, mm_ok, mm_isL, mm_ret, mm_isRet, mm_bool, mm_call, mm_push, mm_rv, mm_cats, mm_cat, mm_look, mm_ft, mm_fv, mm_pf, mm_thr, mm_ent, mm_pad, mm_fl, beq_self_eq_true, cond_true, cond_false, Nat.reduceBEq, Nat.reduceEqDiff, List.drop_succ_cons, List.drop_zero, List.take_succ_cons, List.take_zero, List.reverse_cons, List.reverse_nil, List.nil_append, List.cons_append, List.length_cons, List.length_nil, Nat.reduceAdd, Nat.reduceSub, Nat.reduceLeDiff, Bool.not_false, Bool.and_true, Bool.true_and, Nat.zero_add, true_and, and_true, Nat.le_refl, true_or, or_true, reduceCtorEq, Nat.add_zero, Nat.reduceLT, Bool.and_self, Bool.not_true, Fin.isValue, Nat.reduceLeDiff, List.take_nil, List.drop_nil, mm_i1, mm_i2, mm_i3, mm_i4, mm_i5, mm_i6, mm_i7, mm_i16, mm_i17, mm_i18, mm_i19, mm_i20, mm_i21, mm_i22, mm_i23, mm_l3, mm_l4, mm_l5, mm_l6, mm_l7, mm_l18, mm_l19, mm_l20, mm_l21, mm_l22, kdX1_comingTo, ct_X1_comingTo, flX1, sp_X1_toOf, sp_X1_fromOf]
    repeat' (first | assumption | apply And.intro | (intro _) | apply hq)
    all_goals (try simp only [InI, cm] at *)
    all_goals first | omega | ((repeat' split) <;> omega)
  · exact h.elim
theorem me_X1_comingTo {l : Launch} (hl : l.stackTraces = false) : mm_Met l yX1_comingTo cX1_comingTo 3 (some .int) [] 7 121 0 sp_X1_comingTo := mm_mt hl rn_X1_comingTo ⟨by decide, rfl⟩ kkX1_comingTo rfl ⟨by decide, by decide⟩ flkX1 (fun _ h => nomatch h) (⟨mm_pe (me_X1_toOf hl) mwX1_toOf (mm_t1 199 rfl rfl) (Nat.le_of_ble_eq_true rfl) (Nat.le_of_ble_eq_true rfl), mm_pe (me_X1_fromOf hl) mwX1_fromOf (mm_t1 203 rfl rfl) (Nat.le_of_ble_eq_true rfl) (Nat.le_of_ble_eq_true rfl), trivial⟩) (mm_xe0 _)
def sp_X1_between : mm_S := fun av M d Q => match av with
  | [.inr (.inr (.inl o)), .inl s, .inl a, .inl b] =>  o = 2 ∧ tW M ∧ (0 ≤ s ∧ s < M 2 4) ∧ InI a ∧ InI b ∧ ∀ r, r = bw M s a b ∧ -1 ≤ r ∧ r < 2 * M 2 4 ∧ (0 ≤ r → r / 2 = s) → Q (.inl (some (mm_I r))) M d
  | _ => False
def ct_X1_between : List (Nat × mm_Ca) := [(63, (0, 3, 11, sp_X1_leaving, 0)), (60, (0, 2, 11, sp_X1_goalOf, 0))]
abbrev rr_X1_between (Q : mm_Q) := mm_run (mm_look flX1) (mm_look ct_X1_between) mm_x0 (mm_look ([] : List (Nat × Int))) (fun _ => none) 1 0 (fun _ _ => none) Q kdX1_between
set_option maxRecDepth 20000 in
theorem rn_X1_between : mm_RN flX1 ct_X1_between mm_x0 [] 1 0 5 kdX1_between sp_X1_between := by
  intro av M d Q h
  unfold sp_X1_between at h
  split at h
  · rename_i o s a b
    obtain ⟨rfl, ht, hs, ha, hb, hq⟩ := h
    have h1 := ht.1
    refine ⟨Nat.le_of_ble_eq_true rfl, mm_run_at (stop := []) (S := mm_F0) kkX1_between 80 ?_ mm_F0h⟩
    simp only [mm_wp, mm_op, mm_nxt, mm_jmp, mm_at, mm_in, mm_nth, mm_set, mm_ok, mm_isL, mm_ret, mm_isRet, mm_bool, mm_call, mm_push, mm_rv, mm_cats, mm_cat, mm_look, mm_ft, mm_fv, mm_pf, mm_thr, mm_ent, mm_pad, mm_fl, beq_self_eq_true, cond_true, cond_false, Nat.reduceBEq, Nat.reduceEqDiff, List.drop_succ_cons, List.drop_zero, List.take_succ_cons, List.take_zero, List.reverse_cons, List.reverse_nil, List.nil_append, List.cons_append, List.length_cons, List.length_nil, Nat.reduceAdd, Nat.reduceSub, Nat.reduceLeDiff, Bool.not_false, Bool.and_true, Bool.true_and, Nat.zero_add, true_and, and_true, Nat.le_refl, true_or, or_true, reduceCtorEq, Nat.add_zero, Nat.reduceLT, Bool.and_self, Bool.not_true, Fin.isValue, Nat.reduceLeDiff, List.take_nil, List.drop_nil, mm_i1, mm_i2, mm_i3, mm_i4, mm_i5, mm_i6, mm_i7, mm_i16, mm_i17, mm_i18, mm_i19, mm_i20, mm_i21, mm_i22, mm_i23, mm_l3, mm_l4, mm_l5, mm_l6, mm_l7, mm_l18, mm_l19, mm_l20, mm_l21, mm_l22, kdX1_between, ct_X1_between, flX1, sp_X1_leaving, sp_X1_goalOf]
    repeat' (first | assumption | apply And.intro | (intro _) | apply hq)
    all_goals (try simp only [InI] at *)
    all_goals first | omega | (unfold bw; split <;> simp_all <;> omega)
  · exact h.elim
theorem me_X1_between {l : Launch} (hl : l.stackTraces = false) : mm_Met l yX1_between cX1_between 5 (some .int) [] 8 143 0 sp_X1_between := mm_mt hl rn_X1_between ⟨by decide, rfl⟩ kkX1_between rfl ⟨by decide, by decide⟩ flkX1 (fun _ h => nomatch h) (⟨mm_pe (me_X1_leaving hl) mwX1_leaving (mm_t2 133 rfl rfl) (Nat.le_of_ble_eq_true rfl) (Nat.le_of_ble_eq_true rfl), mm_pe (me_X1_goalOf hl) mwX1_goalOf (mm_t2 110 rfl rfl) (Nat.le_of_ble_eq_true rfl) (Nat.le_of_ble_eq_true rfl), trivial⟩) (mm_xe0 _)
def sp_X1_allStreets : mm_S := fun av M d Q => match av with
  | [.inr (.inr (.inl o))] =>  o = 2 ∧ tW M ∧ ∀ r, r = 2 ^ (M 2 4).toNat - 1 ∧ 0 ≤ r ∧ r < 1073741824 → Q (.inl (some (mm_I r))) M d
  | _ => False
def ct_X1_allStreets : List (Nat × mm_Ca) := []
abbrev rr_X1_allStreets (Q : mm_Q) := mm_run (mm_look flX1) (mm_look ct_X1_allStreets) mm_x0 (mm_look ([] : List (Nat × Int))) (fun _ => none) 1 0 (fun _ _ => none) Q kdX1_allStreets
set_option maxRecDepth 20000 in
theorem rn_X1_allStreets : mm_RN flX1 ct_X1_allStreets mm_x0 [] 1 0 1 kdX1_allStreets sp_X1_allStreets := by
  intro av M d Q h
  unfold sp_X1_allStreets at h
  split at h
  · rename_i o
    obtain ⟨rfl, ht, hq⟩ := h
    have h1 := ht.1
    refine ⟨Nat.le_of_ble_eq_true rfl, mm_run_at (stop := []) (S := mm_F0) kkX1_allStreets 80 ?_ mm_F0h⟩
    simp only [mm_wp, mm_op, mm_nxt, mm_jmp, mm_at, mm_in, mm_nth, mm_set, mm_ok, mm_isL, mm_ret, mm_isRet, mm_bool, mm_call, mm_push, mm_rv, mm_cats, mm_cat, mm_look, mm_ft, mm_fv, mm_pf, mm_thr, mm_ent, mm_pad, mm_fl, beq_self_eq_true, cond_true, cond_false, Nat.reduceBEq, Nat.reduceEqDiff, List.drop_succ_cons, List.drop_zero, List.take_succ_cons, List.take_zero, List.reverse_cons, List.reverse_nil, List.nil_append, List.cons_append, List.length_cons, List.length_nil, Nat.reduceAdd, Nat.reduceSub, Nat.reduceLeDiff, Bool.not_false, Bool.and_true, Bool.true_and, Nat.zero_add, true_and, and_true, Nat.le_refl, true_or, or_true, reduceCtorEq, Nat.add_zero, Nat.reduceLT, Bool.and_self, Bool.not_true, Fin.isValue, Nat.reduceLeDiff, List.take_nil, List.drop_nil, mm_i1, mm_i2, mm_i3, mm_i4, mm_i5, mm_i6, mm_i7, mm_i16, mm_i17, mm_i18, mm_i19, mm_i20, mm_i21, mm_i22, mm_i23, mm_l3, mm_l4, mm_l5, mm_l6, mm_l7, mm_l18, mm_l19, mm_l20, mm_l21, mm_l22, kdX1_allStreets, ct_X1_allStreets, flX1]
    have h2 := pw_le (k := (M 2 4).toNat) (n := 30) (by omega)
    have h3 := pw_lt (k := (M 2 4).toNat) (by omega)
    refine ⟨by omega, hq _ ⟨by omega, by omega, by omega⟩⟩
  · exact h.elim
theorem me_X1_allStreets {l : Launch} (hl : l.stackTraces = false) : mm_Met l yX1_allStreets cX1_allStreets 1 (some .int) [] 6 100 0 sp_X1_allStreets := mm_mt hl rn_X1_allStreets ⟨by decide, rfl⟩ kkX1_allStreets rfl ⟨by decide, by decide⟩ flkX1 (fun _ h => nomatch h) (trivial) (mm_xe0 _)

