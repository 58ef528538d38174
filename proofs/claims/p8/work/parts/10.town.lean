section
/-! the class's town -/
theorem tp1 (x : Int) : x / 2 ^ (1 : Int).toNat = x / 2 := by simp
theorem tp2 (x : Int) : x * 2 ^ (1 : Int).toNat = x * 2 := by simp
def sp_X1_isCorner : mm_S := fun av M d Q => match av with
  | [.inl a] =>  InI a ∧ ∀ r, (0 ≤ a ∧ a < 10 → r = 1) ∧ (¬ (0 ≤ a ∧ a < 10) → r = 0) → Q (.inl (some (mm_I r))) M d
  | _ => False
def ct_X1_isCorner : List (Nat × mm_Ca) := []
abbrev rr_X1_isCorner (Q : mm_Q) := mm_run (mm_look flX1) (mm_look ct_X1_isCorner) mm_x0 (mm_look ([] : List (Nat × Int))) (fun _ => none) 2 0 (fun _ _ => none) Q kdX1_isCorner
set_option maxRecDepth 20000 in
theorem rn_X1_isCorner : mm_RN flX1 ct_X1_isCorner mm_x0 [] 2 0 1 kdX1_isCorner sp_X1_isCorner := by
  intro av M d Q h
  unfold sp_X1_isCorner at h
  split at h
  · rename_i a
    obtain ⟨ha, hq⟩ := h
    refine ⟨Nat.le_of_ble_eq_true rfl, mm_run_at (stop := []) (S := mm_F0) kkX1_isCorner 80 ?_ mm_F0h⟩
    simp only [mm_wp, mm_op, mm_nxt, mm_jmp, mm_at, mm_in, mm_nth, mm_set, mm_ok, mm_isL, mm_ret, mm_isRet, mm_bool, mm_call, mm_push, mm_rv, mm_cats, mm_cat, mm_look, mm_ft, mm_fv, mm_pf, mm_thr, mm_ent, mm_pad, mm_fl, beq_self_eq_true, cond_true, cond_false, Nat.reduceBEq, Nat.reduceEqDiff, List.drop_succ_cons, List.drop_zero, List.take_succ_cons, List.take_zero, List.reverse_cons, List.reverse_nil, List.nil_append, List.cons_append, List.length_cons, List.length_nil, Nat.reduceAdd, Nat.reduceSub, Nat.reduceLeDiff, Bool.not_false, Bool.and_true, Bool.true_and, Nat.zero_add, true_and, and_true, Nat.le_refl, true_or, or_true, reduceCtorEq, Nat.add_zero, Nat.reduceLT, Bool.and_self, Bool.not_true, Fin.isValue, Nat.reduceLeDiff, List.take_nil, List.drop_nil, mm_i1, mm_i2, mm_i3, mm_i4, mm_i5, mm_i6, mm_i7, mm_i16, mm_i17, mm_i18, mm_i19, mm_i20, mm_i21, mm_i22, mm_i23, mm_l3, mm_l4, mm_l5, mm_l6, mm_l7, mm_l18, mm_l19, mm_l20, mm_l21, mm_l22, kdX1_isCorner, ct_X1_isCorner, flX1]
    repeat' (first | assumption | apply And.intro | (intro _) | apply hq)
    all_goals (try simp only [InI] at *)
    all_goals first | omega | ((repeat' split) <;> omega)
  · exact h.elim
theorem me_X1_isCorner {l : Launch} (hl : l.stackTraces = false) : mm_Met l yX1_isCorner cX1_isCorner 1 (some .boolean) [] 6 100 0 sp_X1_isCorner := mm_mt hl rn_X1_isCorner ⟨by decide, rfl⟩ kkX1_isCorner rfl ⟨by decide, by decide⟩ flkX1 (fun _ h => nomatch h) (trivial) (mm_xe0 _)
def sp_X1_size : mm_S := fun av M d Q => match av with
  | [.inr (.inr (.inl o))] =>  o = 2 ∧ Q (.inl (some (mm_I (M 2 4)))) M d
  | _ => False
def ct_X1_size : List (Nat × mm_Ca) := []
abbrev rr_X1_size (Q : mm_Q) := mm_run (mm_look flX1) (mm_look ct_X1_size) mm_x0 (mm_look ([] : List (Nat × Int))) (fun _ => none) 1 0 (fun _ _ => none) Q kdX1_size
set_option maxRecDepth 20000 in
theorem rn_X1_size : mm_RN flX1 ct_X1_size mm_x0 [] 1 0 1 kdX1_size sp_X1_size := by
  intro av M d Q h
  unfold sp_X1_size at h
  split at h
  · rename_i o
    obtain ⟨rfl, hq⟩ := h
    refine ⟨Nat.le_of_ble_eq_true rfl, mm_run_at (stop := []) (S := mm_F0) kkX1_size 80 ?_ mm_F0h⟩
    simp only [mm_wp, mm_op, mm_nxt, mm_jmp, mm_at, mm_in, mm_nth, mm_set, mm_ok, mm_isL, mm_ret, mm_isRet, mm_bool, mm_call, mm_push, mm_rv, mm_cats, mm_cat, mm_look, mm_ft, mm_fv, mm_pf, mm_thr, mm_ent, mm_pad, mm_fl, beq_self_eq_true, cond_true, cond_false, Nat.reduceBEq, Nat.reduceEqDiff, List.drop_succ_cons, List.drop_zero, List.take_succ_cons, List.take_zero, List.reverse_cons, List.reverse_nil, List.nil_append, List.cons_append, List.length_cons, List.length_nil, Nat.reduceAdd, Nat.reduceSub, Nat.reduceLeDiff, Bool.not_false, Bool.and_true, Bool.true_and, Nat.zero_add, true_and, and_true, Nat.le_refl, true_or, or_true, reduceCtorEq, Nat.add_zero, Nat.reduceLT, Bool.and_self, Bool.not_true, Fin.isValue, Nat.reduceLeDiff, List.take_nil, List.drop_nil, mm_i1, mm_i2, mm_i3, mm_i4, mm_i5, mm_i6, mm_i7, mm_i16, mm_i17, mm_i18, mm_i19, mm_i20, mm_i21, mm_i22, mm_i23, mm_l3, mm_l4, mm_l5, mm_l6, mm_l7, mm_l18, mm_l19, mm_l20, mm_l21, mm_l22, kdX1_size, ct_X1_size, flX1]
    repeat' (first | assumption | apply And.intro | (intro _) | apply hq)
    all_goals (try simp only [InI] at *)
    all_goals first | omega | ((repeat' split) <;> omega)
  · exact h.elim
theorem me_X1_size {l : Launch} (hl : l.stackTraces = false) : mm_Met l yX1_size cX1_size 1 (some .int) [] 6 100 0 sp_X1_size := mm_mt hl rn_X1_size ⟨by decide, rfl⟩ kkX1_size rfl ⟨by decide, by decide⟩ flkX1 (fun _ h => nomatch h) (trivial) (mm_xe0 _)
def sp_X1_hasRoomFor : mm_S := fun av M d Q => match av with
  | [.inr (.inr (.inl o)), .inl a] =>  o = 2 ∧ tW M ∧ (-100 ≤ a ∧ a ≤ 100) ∧ ∀ r, (M 2 4 + a ≤ 30 → r = 1) ∧ (30 < M 2 4 + a → r = 0) → Q (.inl (some (mm_I r))) M d
  | _ => False
def ct_X1_hasRoomFor : List (Nat × mm_Ca) := []
abbrev rr_X1_hasRoomFor (Q : mm_Q) := mm_run (mm_look flX1) (mm_look ct_X1_hasRoomFor) mm_x0 (mm_look ([] : List (Nat × Int))) (fun _ => none) 2 0 (fun _ _ => none) Q kdX1_hasRoomFor
set_option maxRecDepth 20000 in
theorem rn_X1_hasRoomFor : mm_RN flX1 ct_X1_hasRoomFor mm_x0 [] 2 0 2 kdX1_hasRoomFor sp_X1_hasRoomFor := by
  intro av M d Q h
  unfold sp_X1_hasRoomFor at h
  split at h
  · rename_i o a
    obtain ⟨rfl, ht, ha, hq⟩ := h
    have h1 := ht.1
    refine ⟨Nat.le_of_ble_eq_true rfl, mm_run_at (stop := []) (S := mm_F0) kkX1_hasRoomFor 80 ?_ mm_F0h⟩
    simp only [mm_wp, mm_op, mm_nxt, mm_jmp, mm_at, mm_in, mm_nth, mm_set, mm_ok, mm_isL, mm_ret, mm_isRet, mm_bool, mm_call, mm_push, mm_rv, mm_cats, mm_cat, mm_look, mm_ft, mm_fv, mm_pf, mm_thr, mm_ent, mm_pad, mm_fl, beq_self_eq_true, cond_true, cond_false, Nat.reduceBEq, Nat.reduceEqDiff, List.drop_succ_cons, List.drop_zero, List.take_succ_cons, List.take_zero, List.reverse_cons, List.reverse_nil, List.nil_append, List.cons_append, List.length_cons, List.length_nil, Nat.reduceAdd, Nat.reduceSub, Nat.reduceLeDiff, Bool.not_false, Bool.and_true, Bool.true_and, Nat.zero_add, true_and, and_true, Nat.le_refl, true_or, or_true, reduceCtorEq, Nat.add_zero, Nat.reduceLT, Bool.and_self, Bool.not_true, Fin.isValue, Nat.reduceLeDiff, List.take_nil, List.drop_nil, mm_i1, mm_i2, mm_i3, mm_i4, mm_i5, mm_i6, mm_i7, mm_i16, mm_i17, mm_i18, mm_i19, mm_i20, mm_i21, mm_i22, mm_i23, mm_l3, mm_l4, mm_l5, mm_l6, mm_l7, mm_l18, mm_l19, mm_l20, mm_l21, mm_l22, kdX1_hasRoomFor, ct_X1_hasRoomFor, flX1]
    repeat' (first | assumption | apply And.intro | (intro _) | apply hq)
    all_goals (try simp only [InI] at *)
    all_goals first | omega | ((repeat' split) <;> omega)
  · exact h.elim
theorem me_X1_hasRoomFor {l : Launch} (hl : l.stackTraces = false) : mm_Met l yX1_hasRoomFor cX1_hasRoomFor 2 (some .boolean) [] 6 100 0 sp_X1_hasRoomFor := mm_mt hl rn_X1_hasRoomFor ⟨by decide, rfl⟩ kkX1_hasRoomFor rfl ⟨by decide, by decide⟩ flkX1 (fun _ h => nomatch h) (trivial) (mm_xe0 _)
def sp_X1_isOneWay : mm_S := fun av M d Q => match av with
  | [.inr (.inr (.inl o))] =>  o = 2 ∧ tW M ∧ Q (.inl (some (mm_I (M 2 5)))) M d
  | _ => False
def ct_X1_isOneWay : List (Nat × mm_Ca) := []
abbrev rr_X1_isOneWay (Q : mm_Q) := mm_run (mm_look flX1) (mm_look ct_X1_isOneWay) mm_x0 (mm_look ([] : List (Nat × Int))) (fun _ => none) 2 0 (fun _ _ => none) Q kdX1_isOneWay
set_option maxRecDepth 20000 in
theorem rn_X1_isOneWay : mm_RN flX1 ct_X1_isOneWay mm_x0 [] 2 0 1 kdX1_isOneWay sp_X1_isOneWay := by
  intro av M d Q h
  unfold sp_X1_isOneWay at h
  split at h
  · rename_i o
    obtain ⟨rfl, ht, hq⟩ := h
    have h1 := ht.2.2.1
    refine ⟨Nat.le_of_ble_eq_true rfl, mm_run_at (stop := []) (S := mm_F0) kkX1_isOneWay 80 ?_ mm_F0h⟩
    simp only [mm_wp, mm_op, mm_nxt, mm_jmp, mm_at, mm_in, mm_nth, mm_set, mm_ok, mm_isL, mm_ret, mm_isRet, mm_bool, mm_call, mm_push, mm_rv, mm_cats, mm_cat, mm_look, mm_ft, mm_fv, mm_pf, mm_thr, mm_ent, mm_pad, mm_fl, beq_self_eq_true, cond_true, cond_false, Nat.reduceBEq, Nat.reduceEqDiff, List.drop_succ_cons, List.drop_zero, List.take_succ_cons, List.take_zero, List.reverse_cons, List.reverse_nil, List.nil_append, List.cons_append, List.length_cons, List.length_nil, Nat.reduceAdd, Nat.reduceSub, Nat.reduceLeDiff, Bool.not_false, Bool.and_true, Bool.true_and, Nat.zero_add, true_and, and_true, Nat.le_refl, true_or, or_true, reduceCtorEq, Nat.add_zero, Nat.reduceLT, Bool.and_self, Bool.not_true, Fin.isValue, Nat.reduceLeDiff, List.take_nil, List.drop_nil, mm_i1, mm_i2, mm_i3, mm_i4, mm_i5, mm_i6, mm_i7, mm_i16, mm_i17, mm_i18, mm_i19, mm_i20, mm_i21, mm_i22, mm_i23, mm_l3, mm_l4, mm_l5, mm_l6, mm_l7, mm_l18, mm_l19, mm_l20, mm_l21, mm_l22, kdX1_isOneWay, ct_X1_isOneWay, flX1]
    repeat' (first | assumption | apply And.intro | (intro _) | apply hq)
    all_goals (try simp only [InI] at *)
    all_goals first | omega | ((repeat' split) <;> omega)
  · exact h.elim
theorem me_X1_isOneWay {l : Launch} (hl : l.stackTraces = false) : mm_Met l yX1_isOneWay cX1_isOneWay 1 (some .boolean) [] 6 100 0 sp_X1_isOneWay := mm_mt hl rn_X1_isOneWay ⟨by decide, rfl⟩ kkX1_isOneWay rfl ⟨by decide, by decide⟩ flkX1 (fun _ h => nomatch h) (trivial) (mm_xe0 _)
def sp_X1_setOneWay : mm_S := fun av M d Q => match av with
  | [.inr (.inr (.inl o)), .inl a] =>  o = 2 ∧ (a = 0 ∨ a = 1) ∧ Q (.inl none) (mm_up M 2 5 a) d
  | _ => False
def ct_X1_setOneWay : List (Nat × mm_Ca) := []
abbrev rr_X1_setOneWay (Q : mm_Q) := mm_run (mm_look flX1) (mm_look ct_X1_setOneWay) mm_x0 (mm_look ([] : List (Nat × Int))) (fun _ => none) 0 0 (fun _ _ => none) Q kdX1_setOneWay
set_option maxRecDepth 20000 in
theorem rn_X1_setOneWay : mm_RN flX1 ct_X1_setOneWay mm_x0 [] 0 0 2 kdX1_setOneWay sp_X1_setOneWay := by
  intro av M d Q h
  unfold sp_X1_setOneWay at h
  split at h
  · rename_i o a
    obtain ⟨rfl, ha, hq⟩ := h
    refine ⟨Nat.le_of_ble_eq_true rfl, mm_run_at (stop := []) (S := mm_F0) kkX1_setOneWay 80 ?_ mm_F0h⟩
    simp only [mm_wp, mm_op, mm_nxt, mm_jmp, mm_at, mm_in, mm_nth, mm_set, mm_ok, mm_isL, mm_ret, mm_isRet, mm_bool, mm_call, mm_push, mm_rv, mm_cats, mm_cat, mm_look, mm_ft, mm_fv, mm_pf, mm_thr, mm_ent, mm_pad, mm_fl, beq_self_eq_true, cond_true, cond_false, Nat.reduceBEq, Nat.reduceEqDiff, List.drop_succ_cons, List.drop_zero, List.take_succ_cons, List.take_zero, List.reverse_cons, List.reverse_nil, List.nil_append, List.cons_append, List.length_cons, List.length_nil, Nat.reduceAdd, Nat.reduceSub, Nat.reduceLeDiff, Bool.not_false, Bool.and_true, Bool.true_and, Nat.zero_add, true_and, and_true, Nat.le_refl, true_or, or_true, reduceCtorEq, Nat.add_zero, Nat.reduceLT, Bool.and_self, Bool.not_true, Fin.isValue, Nat.reduceLeDiff, List.take_nil, List.drop_nil, mm_i1, mm_i2, mm_i3, mm_i4, mm_i5, mm_i6, mm_i7, mm_i16, mm_i17, mm_i18, mm_i19, mm_i20, mm_i21, mm_i22, mm_i23, mm_l3, mm_l4, mm_l5, mm_l6, mm_l7, mm_l18, mm_l19, mm_l20, mm_l21, mm_l22, kdX1_setOneWay, ct_X1_setOneWay, flX1]
    repeat' (first | assumption | apply And.intro | (intro _) | apply hq)
    all_goals (try simp only [InI] at *)
    all_goals first | omega | ((repeat' split) <;> omega)
  · exact h.elim
theorem me_X1_setOneWay {l : Launch} (hl : l.stackTraces = false) : mm_Met l yX1_setOneWay cX1_setOneWay 2 none [] 6 100 0 sp_X1_setOneWay := mm_mt hl rn_X1_setOneWay ⟨by decide, rfl⟩ kkX1_setOneWay rfl ⟨by decide, by decide⟩ flkX1 (fun _ h => nomatch h) (trivial) (mm_xe0 _)
def sp_X1_isOfWords : mm_S := fun av M d Q => match av with
  | [.inr (.inr (.inl o))] =>  o = 2 ∧ tW M ∧ ∀ r, (0 < M 2 6 → r = 1) ∧ (M 2 6 ≤ 0 → r = 0) → Q (.inl (some (mm_I r))) M d
  | _ => False
def ct_X1_isOfWords : List (Nat × mm_Ca) := []
abbrev rr_X1_isOfWords (Q : mm_Q) := mm_run (mm_look flX1) (mm_look ct_X1_isOfWords) mm_x0 (mm_look ([] : List (Nat × Int))) (fun _ => none) 2 0 (fun _ _ => none) Q kdX1_isOfWords
set_option maxRecDepth 20000 in
theorem rn_X1_isOfWords : mm_RN flX1 ct_X1_isOfWords mm_x0 [] 2 0 1 kdX1_isOfWords sp_X1_isOfWords := by
  intro av M d Q h
  unfold sp_X1_isOfWords at h
  split at h
  · rename_i o
    obtain ⟨rfl, ht, hq⟩ := h
    have h1 := ht.2.2.2
    refine ⟨Nat.le_of_ble_eq_true rfl, mm_run_at (stop := []) (S := mm_F0) kkX1_isOfWords 80 ?_ mm_F0h⟩
    simp only [mm_wp, mm_op, mm_nxt, mm_jmp, mm_at, mm_in, mm_nth, mm_set, mm_ok, mm_isL, mm_ret, mm_isRet, mm_bool, mm_call, mm_push, mm_rv, mm_cats, mm_cat, mm_look, mm_ft, mm_fv, mm_pf, mm_thr, mm_ent, mm_pad, mm_fl, beq_self_eq_true, cond_true, cond_false, Nat.reduceBEq, Nat.reduceEqDiff, List.drop_succ_cons, List.drop_zero, List.take_succ_cons, List.take_zero, List.reverse_cons, List.reverse_nil, List.nil_append, List.cons_append, List.length_cons, List.length_nil, Nat.reduceAdd, Nat.reduceSub, Nat.reduceLeDiff, Bool.not_false, Bool.and_true, Bool.true_and, Nat.zero_add, true_and, and_true, Nat.le_refl, true_or, or_true, reduceCtorEq, Nat.add_zero, Nat.reduceLT, Bool.and_self, Bool.not_true, Fin.isValue, Nat.reduceLeDiff, List.take_nil, List.drop_nil, mm_i1, mm_i2, mm_i3, mm_i4, mm_i5, mm_i6, mm_i7, mm_i16, mm_i17, mm_i18, mm_i19, mm_i20, mm_i21, mm_i22, mm_i23, mm_l3, mm_l4, mm_l5, mm_l6, mm_l7, mm_l18, mm_l19, mm_l20, mm_l21, mm_l22, kdX1_isOfWords, ct_X1_isOfWords, flX1]
    repeat' (first | assumption | apply And.intro | (intro _) | apply hq)
    all_goals (try simp only [InI] at *)
    all_goals first | omega | ((repeat' split) <;> omega)
  · exact h.elim
theorem me_X1_isOfWords {l : Launch} (hl : l.stackTraces = false) : mm_Met l yX1_isOfWords cX1_isOfWords 1 (some .boolean) [] 6 100 0 sp_X1_isOfWords := mm_mt hl rn_X1_isOfWords ⟨by decide, rfl⟩ kkX1_isOfWords rfl ⟨by decide, by decide⟩ flkX1 (fun _ h => nomatch h) (trivial) (mm_xe0 _)
def sp_X1_signCount : mm_S := fun av M d Q => match av with
  | [.inr (.inr (.inl o))] =>  o = 2 ∧ Q (.inl (some (mm_I (M 2 6)))) M d
  | _ => False
def ct_X1_signCount : List (Nat × mm_Ca) := []
abbrev rr_X1_signCount (Q : mm_Q) := mm_run (mm_look flX1) (mm_look ct_X1_signCount) mm_x0 (mm_look ([] : List (Nat × Int))) (fun _ => none) 1 0 (fun _ _ => none) Q kdX1_signCount
set_option maxRecDepth 20000 in
theorem rn_X1_signCount : mm_RN flX1 ct_X1_signCount mm_x0 [] 1 0 1 kdX1_signCount sp_X1_signCount := by
  intro av M d Q h
  unfold sp_X1_signCount at h
  split at h
  · rename_i o
    obtain ⟨rfl, hq⟩ := h
    refine ⟨Nat.le_of_ble_eq_true rfl, mm_run_at (stop := []) (S := mm_F0) kkX1_signCount 80 ?_ mm_F0h⟩
    simp only [mm_wp, mm_op, mm_nxt, mm_jmp, mm_at, mm_in, mm_nth, mm_set, mm_ok, mm_isL, mm_ret, mm_isRet, mm_bool, mm_call, mm_push, mm_rv, mm_cats, mm_cat, mm_look, mm_ft, mm_fv, mm_pf, mm_thr, mm_ent, mm_pad, mm_fl, beq_self_eq_true, cond_true, cond_false, Nat.reduceBEq, Nat.reduceEqDiff, List.drop_succ_cons, List.drop_zero, List.take_succ_cons, List.take_zero, List.reverse_cons, List.reverse_nil, List.nil_append, List.cons_append, List.length_cons, List.length_nil, Nat.reduceAdd, Nat.reduceSub, Nat.reduceLeDiff, Bool.not_false, Bool.and_true, Bool.true_and, Nat.zero_add, true_and, and_true, Nat.le_refl, true_or, or_true, reduceCtorEq, Nat.add_zero, Nat.reduceLT, Bool.and_self, Bool.not_true, Fin.isValue, Nat.reduceLeDiff, List.take_nil, List.drop_nil, mm_i1, mm_i2, mm_i3, mm_i4, mm_i5, mm_i6, mm_i7, mm_i16, mm_i17, mm_i18, mm_i19, mm_i20, mm_i21, mm_i22, mm_i23, mm_l3, mm_l4, mm_l5, mm_l6, mm_l7, mm_l18, mm_l19, mm_l20, mm_l21, mm_l22, kdX1_signCount, ct_X1_signCount, flX1]
    repeat' (first | assumption | apply And.intro | (intro _) | apply hq)
    all_goals (try simp only [InI] at *)
    all_goals first | omega | ((repeat' split) <;> omega)
  · exact h.elim
theorem me_X1_signCount {l : Launch} (hl : l.stackTraces = false) : mm_Met l yX1_signCount cX1_signCount 1 (some .int) [] 6 100 0 sp_X1_signCount := mm_mt hl rn_X1_signCount ⟨by decide, rfl⟩ kkX1_signCount rfl ⟨by decide, by decide⟩ flkX1 (fun _ h => nomatch h) (trivial) (mm_xe0 _)
def sp_X1_wordSize : mm_S := fun av M d Q => match av with
  | [.inr (.inr (.inl o))] =>  o = 2 ∧ Q (.inl (some (mm_I (M 2 7)))) M d
  | _ => False
def ct_X1_wordSize : List (Nat × mm_Ca) := []
abbrev rr_X1_wordSize (Q : mm_Q) := mm_run (mm_look flX1) (mm_look ct_X1_wordSize) mm_x0 (mm_look ([] : List (Nat × Int))) (fun _ => none) 1 0 (fun _ _ => none) Q kdX1_wordSize
set_option maxRecDepth 20000 in
theorem rn_X1_wordSize : mm_RN flX1 ct_X1_wordSize mm_x0 [] 1 0 1 kdX1_wordSize sp_X1_wordSize := by
  intro av M d Q h
  unfold sp_X1_wordSize at h
  split at h
  · rename_i o
    obtain ⟨rfl, hq⟩ := h
    refine ⟨Nat.le_of_ble_eq_true rfl, mm_run_at (stop := []) (S := mm_F0) kkX1_wordSize 80 ?_ mm_F0h⟩
    simp only [mm_wp, mm_op, mm_nxt, mm_jmp, mm_at, mm_in, mm_nth, mm_set, mm_ok, mm_isL, mm_ret, mm_isRet, mm_bool, mm_call, mm_push, mm_rv, mm_cats, mm_cat, mm_look, mm_ft, mm_fv, mm_pf, mm_thr, mm_ent, mm_pad, mm_fl, beq_self_eq_true, cond_true, cond_false, Nat.reduceBEq, Nat.reduceEqDiff, List.drop_succ_cons, List.drop_zero, List.take_succ_cons, List.take_zero, List.reverse_cons, List.reverse_nil, List.nil_append, List.cons_append, List.length_cons, List.length_nil, Nat.reduceAdd, Nat.reduceSub, Nat.reduceLeDiff, Bool.not_false, Bool.and_true, Bool.true_and, Nat.zero_add, true_and, and_true, Nat.le_refl, true_or, or_true, reduceCtorEq, Nat.add_zero, Nat.reduceLT, Bool.and_self, Bool.not_true, Fin.isValue, Nat.reduceLeDiff, List.take_nil, List.drop_nil, mm_i1, mm_i2, mm_i3, mm_i4, mm_i5, mm_i6, mm_i7, mm_i16, mm_i17, mm_i18, mm_i19, mm_i20, mm_i21, mm_i22, mm_i23, mm_l3, mm_l4, mm_l5, mm_l6, mm_l7, mm_l18, mm_l19, mm_l20, mm_l21, mm_l22, kdX1_wordSize, ct_X1_wordSize, flX1]
    repeat' (first | assumption | apply And.intro | (intro _) | apply hq)
    all_goals (try simp only [InI] at *)
    all_goals first | omega | ((repeat' split) <;> omega)
  · exact h.elim
theorem me_X1_wordSize {l : Launch} (hl : l.stackTraces = false) : mm_Met l yX1_wordSize cX1_wordSize 1 (some .int) [] 6 100 0 sp_X1_wordSize := mm_mt hl rn_X1_wordSize ⟨by decide, rfl⟩ kkX1_wordSize rfl ⟨by decide, by decide⟩ flkX1 (fun _ h => nomatch h) (trivial) (mm_xe0 _)
def sp_X1_signOf : mm_S := fun av M d Q => match av with
  | [.inr (.inr (.inl o)), .inl a] =>  o = 2 ∧ tW M ∧ (0 ≤ a ∧ a < 100) ∧ ∀ r, (0 < M 2 6 → r = a % M 2 6 ∧ 0 ≤ r ∧ r < M 2 6) ∧ (M 2 6 ≤ 0 → r = 0) → Q (.inl (some (mm_I r))) M d
  | _ => False
def ct_X1_signOf : List (Nat × mm_Ca) := []
abbrev rr_X1_signOf (Q : mm_Q) := mm_run (mm_look flX1) (mm_look ct_X1_signOf) mm_x0 (mm_look ([] : List (Nat × Int))) (fun _ => none) 1 0 (fun _ _ => none) Q kdX1_signOf
set_option maxRecDepth 20000 in
theorem rn_X1_signOf : mm_RN flX1 ct_X1_signOf mm_x0 [] 1 0 2 kdX1_signOf sp_X1_signOf := by
  intro av M d Q h
  unfold sp_X1_signOf at h
  split at h
  · rename_i o a
    obtain ⟨rfl, ht, ha, hq⟩ := h
    have h1 := ht.2.2.2
    refine ⟨Nat.le_of_ble_eq_true rfl, mm_run_at (stop := []) (S := mm_F0) kkX1_signOf 80 ?_ mm_F0h⟩
    simp only [mm_wp, mm_op, mm_nxt, mm_jmp, mm_at, mm_in, mm_nth, mm_set, mm_ok, mm_isL, mm_ret, mm_isRet, mm_bool, mm_call, mm_push, mm_rv, mm_cats, mm_cat, mm_look, mm_ft, mm_fv, mm_pf, mm_thr, mm_ent, mm_pad, mm_fl, beq_self_eq_true, cond_true, cond_false, Nat.reduceBEq, Nat.reduceEqDiff, List.drop_succ_cons, List.drop_zero, List.take_succ_cons, List.take_zero, List.reverse_cons, List.reverse_nil, List.nil_append, List.cons_append, List.length_cons, List.length_nil, Nat.reduceAdd, Nat.reduceSub, Nat.reduceLeDiff, Bool.not_false, Bool.and_true, Bool.true_and, Nat.zero_add, true_and, and_true, Nat.le_refl, true_or, or_true, reduceCtorEq, Nat.add_zero, Nat.reduceLT, Bool.and_self, Bool.not_true, Fin.isValue, Nat.reduceLeDiff, List.take_nil, List.drop_nil, mm_i1, mm_i2, mm_i3, mm_i4, mm_i5, mm_i6, mm_i7, mm_i16, mm_i17, mm_i18, mm_i19, mm_i20, mm_i21, mm_i22, mm_i23, mm_l3, mm_l4, mm_l5, mm_l6, mm_l7, mm_l18, mm_l19, mm_l20, mm_l21, mm_l22, kdX1_signOf, ct_X1_signOf, flX1]
    rw [Int.tmod_eq_emod_of_nonneg ha.1]
    have h2 : 0 < M 2 6 → 0 ≤ a % M 2 6 ∧ a % M 2 6 < M 2 6 := fun h => ⟨Int.emod_nonneg _ (by omega), Int.emod_lt_of_pos _ h⟩
    repeat' (first | assumption | apply And.intro | (intro _) | apply hq)
    all_goals (try simp only [InI] at *)
    all_goals first | omega | ((repeat' split) <;> omega)
  · exact h.elim
theorem me_X1_signOf {l : Launch} (hl : l.stackTraces = false) : mm_Met l yX1_signOf cX1_signOf 2 (some .int) [] 6 100 0 sp_X1_signOf := mm_mt hl rn_X1_signOf ⟨by decide, rfl⟩ kkX1_signOf rfl ⟨by decide, by decide⟩ flkX1 (fun _ h => nomatch h) (trivial) (mm_xe0 _)
def sp_X1_addStreet : mm_S := fun av M d Q => match av with
  | [.inr (.inr (.inl o)), .inl a, .inl b] =>  o = 2 ∧ tW M ∧ M 2 4 < 30 ∧ (0 ≤ a ∧ a < 10) ∧ (0 ≤ b ∧ b < 10) ∧ Q (.inl none) (mm_up (mm_up (mm_up M 3 (M 2 4).toNat a) 4 (M 2 4).toNat b) 2 4 (M 2 4 + 1)) d
  | _ => False
def ct_X1_addStreet : List (Nat × mm_Ca) := [(38, (1, 1, 0, sp_X1_isCorner, 0))]
abbrev rr_X1_addStreet (Q : mm_Q) := mm_run (mm_look flX1) (mm_look ct_X1_addStreet) mm_x0 (mm_look ([] : List (Nat × Int))) (fun _ => none) 0 0 (fun _ _ => none) Q kdX1_addStreet
set_option maxRecDepth 20000 in
theorem rn_X1_addStreet : mm_RN flX1 ct_X1_addStreet mm_x0 [] 0 0 3 kdX1_addStreet sp_X1_addStreet := by
  intro av M d Q h
  unfold sp_X1_addStreet at h
  split at h
  · rename_i o a b
    obtain ⟨rfl, ht, hn, ha, hb, hq⟩ := h
    have h1 := ht.1
    refine ⟨Nat.le_of_ble_eq_true rfl, mm_run_at (stop := []) (S := mm_F0) kkX1_addStreet 80 ?_ mm_F0h⟩
    simp only [mm_wp, mm_op, mm_nxt, mm_jmp, mm_at, mm_in, mm_nth, mm_set, mm_ok, mm_isL, mm_ret, mm_isRet, mm_bool, mm_call, mm_push, mm_rv, mm_cats, mm_cat, mm_look, mm_ft, mm_fv, mm_pf, mm_thr, mm_ent, mm_pad, mm_fl, beq_self_eq_true, cond_true, cond_false, Nat.reduceBEq, Nat.reduceEqDiff, List.drop_succ_cons, List.drop_zero, List.take_succ_cons, List.take_zero, List.reverse_cons, List.reverse_nil, List.nil_append, List.cons_append, List.length_cons, List.length_nil, Nat.reduceAdd, Nat.reduceSub, Nat.reduceLeDiff, Bool.not_false, Bool.and_true, Bool.true_and, Nat.zero_add, true_and, and_true, Nat.le_refl, true_or, or_true, reduceCtorEq, Nat.add_zero, Nat.reduceLT, Bool.and_self, Bool.not_true, Fin.isValue, Nat.reduceLeDiff, List.take_nil, List.drop_nil, mm_i1, mm_i2, mm_i3, mm_i4, mm_i5, mm_i6, mm_i7, mm_i16, mm_i17, mm_i18, mm_i19, mm_i20, mm_i21, mm_i22, mm_i23, mm_l3, mm_l4, mm_l5, mm_l6, mm_l7, mm_l18, mm_l19, mm_l20, mm_l21, mm_l22, kdX1_addStreet, ct_X1_addStreet, flX1, sp_X1_isCorner]
    have e1 : ∀ x y z : Int, mm_up (mm_up M 3 x.toNat y) 4 x.toNat z 2 4 = M 2 4 := fun x y z => by simp [mm_up]
    have e2 : ∀ x y : Int, mm_up M 3 x.toNat y 2 4 = M 2 4 := fun x y => by simp [mm_up]
    simp only [e1, e2]
    repeat' (first | assumption | apply And.intro | (intro _) | apply hq)
    all_goals (try simp only [InI] at *)
    all_goals first | omega | ((repeat' split) <;> omega)
  · exact h.elim
theorem me_X1_addStreet {l : Launch} (hl : l.stackTraces = false) : mm_Met l yX1_addStreet cX1_addStreet 3 none [] 7 120 0 sp_X1_addStreet := mm_mt hl rn_X1_addStreet ⟨by decide, rfl⟩ kkX1_addStreet rfl ⟨by decide, by decide⟩ flkX1 (fun _ h => nomatch h) (⟨mm_pe (me_X1_isCorner hl) mwX1_isCorner (mm_t1 236 rfl rfl) (Nat.le_of_ble_eq_true rfl) (Nat.le_of_ble_eq_true rfl), trivial⟩) (mm_xe0 _)
def sp_X1_endWords : mm_S := fun av M d Q => match av with
  | [.inr (.inr (.inl o))] =>  o = 2 ∧ Q (.inl none) (mm_up (mm_up M 2 6 0) 2 7 0) d
  | _ => False
def ct_X1_endWords : List (Nat × mm_Ca) := []
abbrev rr_X1_endWords (Q : mm_Q) := mm_run (mm_look flX1) (mm_look ct_X1_endWords) mm_x0 (mm_look ([] : List (Nat × Int))) (fun _ => none) 0 0 (fun _ _ => none) Q kdX1_endWords
set_option maxRecDepth 20000 in
theorem rn_X1_endWords : mm_RN flX1 ct_X1_endWords mm_x0 [] 0 0 1 kdX1_endWords sp_X1_endWords := by
  intro av M d Q h
  unfold sp_X1_endWords at h
  split at h
  · rename_i o
    obtain ⟨rfl, hq⟩ := h
    refine ⟨Nat.le_of_ble_eq_true rfl, mm_run_at (stop := []) (S := mm_F0) kkX1_endWords 80 ?_ mm_F0h⟩
    simp only [mm_wp, mm_op, mm_nxt, mm_jmp, mm_at, mm_in, mm_nth, mm_set, mm_ok, mm_isL, mm_ret, mm_isRet, mm_bool, mm_call, mm_push, mm_rv, mm_cats, mm_cat, mm_look, mm_ft, mm_fv, mm_pf, mm_thr, mm_ent, mm_pad, mm_fl, beq_self_eq_true, cond_true, cond_false, Nat.reduceBEq, Nat.reduceEqDiff, List.drop_succ_cons, List.drop_zero, List.take_succ_cons, List.take_zero, List.reverse_cons, List.reverse_nil, List.nil_append, List.cons_append, List.length_cons, List.length_nil, Nat.reduceAdd, Nat.reduceSub, Nat.reduceLeDiff, Bool.not_false, Bool.and_true, Bool.true_and, Nat.zero_add, true_and, and_true, Nat.le_refl, true_or, or_true, reduceCtorEq, Nat.add_zero, Nat.reduceLT, Bool.and_self, Bool.not_true, Fin.isValue, Nat.reduceLeDiff, List.take_nil, List.drop_nil, mm_i1, mm_i2, mm_i3, mm_i4, mm_i5, mm_i6, mm_i7, mm_i16, mm_i17, mm_i18, mm_i19, mm_i20, mm_i21, mm_i22, mm_i23, mm_l3, mm_l4, mm_l5, mm_l6, mm_l7, mm_l18, mm_l19, mm_l20, mm_l21, mm_l22, kdX1_endWords, ct_X1_endWords, flX1]
    repeat' (first | assumption | apply And.intro | (intro _) | apply hq)
    all_goals (try simp only [InI] at *)
    all_goals first | omega | ((repeat' split) <;> omega)
  · exact h.elim
theorem me_X1_endWords {l : Launch} (hl : l.stackTraces = false) : mm_Met l yX1_endWords cX1_endWords 1 none [] 6 100 0 sp_X1_endWords := mm_mt hl rn_X1_endWords ⟨by decide, rfl⟩ kkX1_endWords rfl ⟨by decide, by decide⟩ flkX1 (fun _ h => nomatch h) (trivial) (mm_xe0 _)
def sp_X1_fromOf : mm_S := fun av M d Q => match av with
  | [.inr (.inr (.inl o)), .inl s] =>  o = 2 ∧ tW M ∧ (0 ≤ s ∧ s < M 2 4) ∧ ∀ r, r = M 3 s.toNat ∧ 0 ≤ r ∧ r < 10 → Q (.inl (some (mm_I r))) M d
  | _ => False
def ct_X1_fromOf : List (Nat × mm_Ca) := []
abbrev rr_X1_fromOf (Q : mm_Q) := mm_run (mm_look flX1) (mm_look ct_X1_fromOf) mm_x0 (mm_look ([] : List (Nat × Int))) (fun _ => none) 1 0 (fun _ _ => none) Q kdX1_fromOf
set_option maxRecDepth 20000 in
theorem rn_X1_fromOf : mm_RN flX1 ct_X1_fromOf mm_x0 [] 1 0 2 kdX1_fromOf sp_X1_fromOf := by
  intro av M d Q h
  unfold sp_X1_fromOf at h
  split at h
  · rename_i o s
    obtain ⟨rfl, ht, hs, hq⟩ := h
    have h1 := ht.1
    have h2 := ht.2.1 s.toNat (by omega)
    refine ⟨Nat.le_of_ble_eq_true rfl, mm_run_at (stop := []) (S := mm_F0) kkX1_fromOf 80 ?_ mm_F0h⟩
    simp only [mm_wp, mm_op, mm_nxt, mm_jmp, mm_at, mm_in, mm_nth, mm_set, mm_ok, mm_isL, mm_ret, mm_isRet, mm_bool, mm_call, mm_push, mm_rv, mm_cats, mm_cat, mm_look, mm_ft, mm_fv, mm_pf, mm_thr, mm_ent, mm_pad, mm_fl, beq_self_eq_true, cond_true, cond_false, Nat.reduceBEq, Nat.reduceEqDiff, List.drop_succ_cons, List.drop_zero, List.take_succ_cons, List.take_zero, List.reverse_cons, List.reverse_nil, List.nil_append, List.cons_append, List.length_cons, List.length_nil, Nat.reduceAdd, Nat.reduceSub, Nat.reduceLeDiff, Bool.not_false, Bool.and_true, Bool.true_and, Nat.zero_add, true_and, and_true, Nat.le_refl, true_or, or_true, reduceCtorEq, Nat.add_zero, Nat.reduceLT, Bool.and_self, Bool.not_true, Fin.isValue, Nat.reduceLeDiff, List.take_nil, List.drop_nil, mm_i1, mm_i2, mm_i3, mm_i4, mm_i5, mm_i6, mm_i7, mm_i16, mm_i17, mm_i18, mm_i19, mm_i20, mm_i21, mm_i22, mm_i23, mm_l3, mm_l4, mm_l5, mm_l6, mm_l7, mm_l18, mm_l19, mm_l20, mm_l21, mm_l22, kdX1_fromOf, ct_X1_fromOf, flX1]
    repeat' (first | assumption | apply And.intro | (intro _) | apply hq)
    all_goals (try simp only [InI] at *)
    all_goals first | omega | ((repeat' split) <;> omega)
  · exact h.elim
theorem me_X1_fromOf {l : Launch} (hl : l.stackTraces = false) : mm_Met l yX1_fromOf cX1_fromOf 2 (some .int) [] 6 100 0 sp_X1_fromOf := mm_mt hl rn_X1_fromOf ⟨by decide, rfl⟩ kkX1_fromOf rfl ⟨by decide, by decide⟩ flkX1 (fun _ h => nomatch h) (trivial) (mm_xe0 _)
def sp_X1_toOf : mm_S := fun av M d Q => match av with
  | [.inr (.inr (.inl o)), .inl s] =>  o = 2 ∧ tW M ∧ (0 ≤ s ∧ s < M 2 4) ∧ ∀ r, r = M 4 s.toNat ∧ 0 ≤ r ∧ r < 10 → Q (.inl (some (mm_I r))) M d
  | _ => False
def ct_X1_toOf : List (Nat × mm_Ca) := []
abbrev rr_X1_toOf (Q : mm_Q) := mm_run (mm_look flX1) (mm_look ct_X1_toOf) mm_x0 (mm_look ([] : List (Nat × Int))) (fun _ => none) 1 0 (fun _ _ => none) Q kdX1_toOf
set_option maxRecDepth 20000 in
theorem rn_X1_toOf : mm_RN flX1 ct_X1_toOf mm_x0 [] 1 0 2 kdX1_toOf sp_X1_toOf := by
  intro av M d Q h
  unfold sp_X1_toOf at h
  split at h
  · rename_i o s
    obtain ⟨rfl, ht, hs, hq⟩ := h
    have h1 := ht.1
    have h2 := ht.2.1 s.toNat (by omega)
    refine ⟨Nat.le_of_ble_eq_true rfl, mm_run_at (stop := []) (S := mm_F0) kkX1_toOf 80 ?_ mm_F0h⟩
    simp only [mm_wp, mm_op, mm_nxt, mm_jmp, mm_at, mm_in, mm_nth, mm_set, mm_ok, mm_isL, mm_ret, mm_isRet, mm_bool, mm_call, mm_push, mm_rv, mm_cats, mm_cat, mm_look, mm_ft, mm_fv, mm_pf, mm_thr, mm_ent, mm_pad, mm_fl, beq_self_eq_true, cond_true, cond_false, Nat.reduceBEq, Nat.reduceEqDiff, List.drop_succ_cons, List.drop_zero, List.take_succ_cons, List.take_zero, List.reverse_cons, List.reverse_nil, List.nil_append, List.cons_append, List.length_cons, List.length_nil, Nat.reduceAdd, Nat.reduceSub, Nat.reduceLeDiff, Bool.not_false, Bool.and_true, Bool.true_and, Nat.zero_add, true_and, and_true, Nat.le_refl, true_or, or_true, reduceCtorEq, Nat.add_zero, Nat.reduceLT, Bool.and_self, Bool.not_true, Fin.isValue, Nat.reduceLeDiff, List.take_nil, List.drop_nil, mm_i1, mm_i2, mm_i3, mm_i4, mm_i5, mm_i6, mm_i7, mm_i16, mm_i17, mm_i18, mm_i19, mm_i20, mm_i21, mm_i22, mm_i23, mm_l3, mm_l4, mm_l5, mm_l6, mm_l7, mm_l18, mm_l19, mm_l20, mm_l21, mm_l22, kdX1_toOf, ct_X1_toOf, flX1]
    repeat' (first | assumption | apply And.intro | (intro _) | apply hq)
    all_goals (try simp only [InI] at *)
    all_goals first | omega | ((repeat' split) <;> omega)
  · exact h.elim
theorem me_X1_toOf {l : Launch} (hl : l.stackTraces = false) : mm_Met l yX1_toOf cX1_toOf 2 (some .int) [] 6 100 0 sp_X1_toOf := mm_mt hl rn_X1_toOf ⟨by decide, rfl⟩ kkX1_toOf rfl ⟨by decide, by decide⟩ flkX1 (fun _ h => nomatch h) (trivial) (mm_xe0 _)
def sp_X1_isLoop : mm_S := fun av M d Q => match av with
  | [.inr (.inr (.inl o)), .inl s] =>  o = 2 ∧ tW M ∧ (0 ≤ s ∧ s < M 2 4) ∧ ∀ r, (M 3 s.toNat = M 4 s.toNat → r = 1) ∧ (M 3 s.toNat ≠ M 4 s.toNat → r = 0) → Q (.inl (some (mm_I r))) M d
  | _ => False
def ct_X1_isLoop : List (Nat × mm_Ca) := [(53, (0, 2, 11, sp_X1_fromOf, 0)), (57, (0, 2, 11, sp_X1_toOf, 0))]
abbrev rr_X1_isLoop (Q : mm_Q) := mm_run (mm_look flX1) (mm_look ct_X1_isLoop) mm_x0 (mm_look ([] : List (Nat × Int))) (fun _ => none) 2 0 (fun _ _ => none) Q kdX1_isLoop
set_option maxRecDepth 20000 in
theorem rn_X1_isLoop : mm_RN flX1 ct_X1_isLoop mm_x0 [] 2 0 2 kdX1_isLoop sp_X1_isLoop := by
  intro av M d Q h
  unfold sp_X1_isLoop at h
  split at h
  · rename_i o s
    obtain ⟨rfl, ht, hs, hq⟩ := h
    refine ⟨Nat.le_of_ble_eq_true rfl, mm_run_at (stop := []) (S := mm_F0) kkX1_isLoop 80 ?_ mm_F0h⟩
    simp only [mm_wp, mm_op, mm_nxt, mm_jmp, mm_at, mm_in, mm_nth, mm_set, mm_ok, mm_isL, mm_ret, mm_isRet, mm_bool, mm_call, mm_push, mm_rv, mm_cats, mm_cat, mm_look, mm_ft, mm_fv, mm_pf, mm_thr, mm_ent, mm_pad, mm_fl, beq_self_eq_true, cond_true, cond_false, Nat.reduceBEq, Nat.reduceEqDiff, List.drop_succ_cons, List.drop_zero, List.take_succ_cons, List.take_zero, List.reverse_cons, List.reverse_nil, List.nil_append, List.cons_append, List.length_cons, List.length_nil, Nat.reduceAdd, Nat.reduceSub, Nat.reduceLeDiff, Bool.not_false, Bool.and_true, Bool.true_and, Nat.zero_add, true_and, and_true, Nat.le_refl, true_or, or_true, reduceCtorEq, Nat.add_zero, Nat.reduceLT, Bool.and_self, Bool.not_true, Fin.isValue, Nat.reduceLeDiff, List.take_nil, List.drop_nil, mm_i1, mm_i2, mm_i3, mm_i4, mm_i5, mm_i6, mm_i7, mm_i16, mm_i17, mm_i18, mm_i19, mm_i20, mm_i21, mm_i22, mm_i23, mm_l3, mm_l4, mm_l5, mm_l6, mm_l7, mm_l18, mm_l19, mm_l20, mm_l21, mm_l22, kdX1_isLoop, ct_X1_isLoop, flX1, sp_X1_fromOf, sp_X1_toOf]
    repeat' (first | assumption | apply And.intro | (intro _) | apply hq)
    all_goals (try simp only [InI] at *)
    all_goals first | omega | ((repeat' split) <;> omega)
  · exact h.elim
theorem me_X1_isLoop {l : Launch} (hl : l.stackTraces = false) : mm_Met l yX1_isLoop cX1_isLoop 2 (some .boolean) [] 7 121 0 sp_X1_isLoop := mm_mt hl rn_X1_isLoop ⟨by decide, rfl⟩ kkX1_isLoop rfl ⟨by decide, by decide⟩ flkX1 (fun _ h => nomatch h) (⟨mm_pe (me_X1_fromOf hl) mwX1_fromOf (mm_t1 203 rfl rfl) (Nat.le_of_ble_eq_true rfl) (Nat.le_of_ble_eq_true rfl), mm_pe (me_X1_toOf hl) mwX1_toOf (mm_t1 199 rfl rfl) (Nat.le_of_ble_eq_true rfl) (Nat.le_of_ble_eq_true rfl), trivial⟩) (mm_xe0 _)
def sp_X1_goalOf : mm_S := fun av M d Q => match av with
  | [.inr (.inr (.inl o)), .inl s] =>  o = 2 ∧ tW M ∧ (0 ≤ s ∧ s < 2 * M 2 4) ∧ ∀ r, r = gl M s ∧ 0 ≤ r ∧ r < 10 → Q (.inl (some (mm_I r))) M d
  | _ => False
def ct_X1_goalOf : List (Nat × mm_Ca) := [(57, (0, 2, 11, sp_X1_toOf, 0)), (53, (0, 2, 11, sp_X1_fromOf, 0))]
abbrev rr_X1_goalOf (Q : mm_Q) := mm_run (mm_look flX1) (mm_look ct_X1_goalOf) mm_x0 (mm_look ([] : List (Nat × Int))) (fun _ => none) 1 0 (fun _ _ => none) Q kdX1_goalOf
set_option maxRecDepth 20000 in
theorem rn_X1_goalOf : mm_RN flX1 ct_X1_goalOf mm_x0 [] 1 0 3 kdX1_goalOf sp_X1_goalOf := by
  intro av M d Q h
  unfold sp_X1_goalOf at h
  split at h
  · rename_i o s
    obtain ⟨rfl, ht, hs, hq⟩ := h
    have h1 := ht.1
    have hi : InI s := ⟨by omega, by omega⟩
    refine ⟨Nat.le_of_ble_eq_true rfl, mm_run_at (stop := []) (S := mm_F0) kkX1_goalOf 80 ?_ mm_F0h⟩
    simp only [mm_wp, mm_op, mm_nxt, mm_jmp, mm_at, mm_in, mm_nth, mm_set, mm_ok, mm_isL, mm_ret, mm_isRet, mm_bool, mm_call, mm_push, mm_rv, mm_cats, mm_cat, mm_look, mm_ft, mm_fv, mm_pf, mm_thr, mm_ent, mm_pad, mm_fl, beq_self_eq_true, cond_true, cond_false, Nat.reduceBEq, Nat.reduceEqDiff, List.drop_succ_cons, List.drop_zero, List.take_succ_cons, List.take_zero, List.reverse_cons, List.reverse_nil, List.nil_append, List.cons_append, List.length_cons, List.length_nil, Nat.reduceAdd, Nat.reduceSub, Nat.reduceLeDiff, Bool.not_false, Bool.and_true, Bool.true_and, Nat.zero_add, true_and, and_true, Nat.le_refl, true_or, or_true, reduceCtorEq, Nat.add_zero, Nat.reduceLT, Bool.and_self, Bool.not_true, Fin.isValue, Nat.reduceLeDiff, List.take_nil, List.drop_nil, mm_i1, mm_i2, mm_i3, mm_i4, mm_i5, mm_i6, mm_i7, mm_i16, mm_i17, mm_i18, mm_i19, mm_i20, mm_i21, mm_i22, mm_i23, mm_l3, mm_l4, mm_l5, mm_l6, mm_l7, mm_l18, mm_l19, mm_l20, mm_l21, mm_l22, kdX1_goalOf, ct_X1_goalOf, flX1, sp_X1_toOf, sp_X1_fromOf, tp1, mm_and1 hi]
    repeat' (first | assumption | apply And.intro | (intro _) | apply hq)
    all_goals (try simp only [InI, gl] at *)
    all_goals first | omega | ((repeat' split) <;> omega)
  · exact h.elim
theorem me_X1_goalOf {l : Launch} (hl : l.stackTraces = false) : mm_Met l yX1_goalOf cX1_goalOf 3 (some .int) [] 7 121 0 sp_X1_goalOf := mm_mt hl rn_X1_goalOf ⟨by decide, rfl⟩ kkX1_goalOf rfl ⟨by decide, by decide⟩ flkX1 (fun _ h => nomatch h) (⟨mm_pe (me_X1_toOf hl) mwX1_toOf (mm_t1 199 rfl rfl) (Nat.le_of_ble_eq_true rfl) (Nat.le_of_ble_eq_true rfl), mm_pe (me_X1_fromOf hl) mwX1_fromOf (mm_t1 203 rfl rfl) (Nat.le_of_ble_eq_true rfl) (Nat.le_of_ble_eq_true rfl), trivial⟩) (mm_xe0 _)
def sp_X1_sourceOf : mm_S := fun av M d Q => match av with
  | [.inr (.inr (.inl o)), .inl s] =>  o = 2 ∧ tW M ∧ (0 ≤ s ∧ s < 2 * M 2 4) ∧ ∀ r, r = sr M s ∧ 0 ≤ r ∧ r < 10 → Q (.inl (some (mm_I r))) M d
  | _ => False
def ct_X1_sourceOf : List (Nat × mm_Ca) := [(60, (0, 2, 11, sp_X1_goalOf, 0))]
abbrev rr_X1_sourceOf (Q : mm_Q) := mm_run (mm_look flX1) (mm_look ct_X1_sourceOf) mm_x0 (mm_look ([] : List (Nat × Int))) (fun _ => none) 1 0 (fun _ _ => none) Q kdX1_sourceOf
set_option maxRecDepth 20000 in
theorem rn_X1_sourceOf : mm_RN flX1 ct_X1_sourceOf mm_x0 [] 1 0 2 kdX1_sourceOf sp_X1_sourceOf := by
  intro av M d Q h
  unfold sp_X1_sourceOf at h
  split at h
  · rename_i o s
    obtain ⟨rfl, ht, hs, hq⟩ := h
    have h1 := ht.1
    refine ⟨Nat.le_of_ble_eq_true rfl, mm_run_at (stop := []) (S := mm_F0) kkX1_sourceOf 80 ?_ mm_F0h⟩
    simp only [mm_wp, mm_op, mm_nxt, mm_jmp, mm_at, mm_in, mm_nth, mm_set, mm_ok, mm_isL, mm_ret, mm_isRet, mm_bool, mm_call, mm_push, mm_rv, mm_cats, mm_cat, mm_look, mm_ft, mm_fv, mm_pf, mm_thr, mm_ent, mm_pad, mm_fl, beq_self_eq_true, cond_true, cond_false, Nat.reduceBEq, Nat.reduceEqDiff, List.drop_succ_cons, List.drop_zero, List.take_succ_cons, List.take_zero, List.reverse_cons, List.reverse_nil, List.nil_append, List.cons_append, List.length_cons, List.length_nil, Nat.reduceAdd, Nat.reduceSub, Nat.reduceLeDiff, Bool.not_false, Bool.and_true, Bool.true_and, Nat.zero_add, true_and, and_true, Nat.le_refl, true_or, or_true, reduceCtorEq, Nat.add_zero, Nat.reduceLT, Bool.and_self, Bool.not_true, Fin.isValue, Nat.reduceLeDiff, List.take_nil, List.drop_nil, mm_i1, mm_i2, mm_i3, mm_i4, mm_i5, mm_i6, mm_i7, mm_i16, mm_i17, mm_i18, mm_i19, mm_i20, mm_i21, mm_i22, mm_i23, mm_l3, mm_l4, mm_l5, mm_l6, mm_l7, mm_l18, mm_l19, mm_l20, mm_l21, mm_l22, kdX1_sourceOf, ct_X1_sourceOf, flX1, sp_X1_goalOf, mm_xor1 (show 0 ≤ s ∧ s < 2147483647 by omega)]
    have e : gl M (if s % 2 = 0 then s + 1 else s - 1) = sr M s := by
      unfold gl sr
      by_cases h2 : s % 2 = 0
      · rw [if_pos h2, if_neg (by omega), if_pos h2, show (s + 1) / 2 = s / 2 by omega]
      · rw [if_neg h2, if_pos (by omega), if_neg h2, show (s - 1) / 2 = s / 2 by omega]
    rw [e]
    refine ⟨ht, ?_, fun r hr => hq r hr⟩
    split <;> omega
  · exact h.elim
theorem me_X1_sourceOf {l : Launch} (hl : l.stackTraces = false) : mm_Met l yX1_sourceOf cX1_sourceOf 2 (some .int) [] 8 143 0 sp_X1_sourceOf := mm_mt hl rn_X1_sourceOf ⟨by decide, rfl⟩ kkX1_sourceOf rfl ⟨by decide, by decide⟩ flkX1 (fun _ h => nomatch h) (⟨mm_pe (me_X1_goalOf hl) mwX1_goalOf (mm_t2 110 rfl rfl) (Nat.le_of_ble_eq_true rfl) (Nat.le_of_ble_eq_true rfl), trivial⟩) (mm_xe0 _)
def sp_X1_leaving : mm_S := fun av M d Q => match av with
  | [.inr (.inr (.inl o)), .inl s, .inl c] =>  o = 2 ∧ tW M ∧ (0 ≤ s ∧ s < M 2 4) ∧ InI c ∧ ∀ r, r = lv M s c ∧ -1 ≤ r ∧ r < 2 * M 2 4 ∧ (0 ≤ r → r / 2 = s) → Q (.inl (some (mm_I r))) M d
  | _ => False
def ct_X1_leaving : List (Nat × mm_Ca) := [(53, (0, 2, 11, sp_X1_fromOf, 0)), (57, (0, 2, 11, sp_X1_toOf, 0))]
abbrev rr_X1_leaving (Q : mm_Q) := mm_run (mm_look flX1) (mm_look ct_X1_leaving) mm_x0 (mm_look ([] : List (Nat × Int))) (fun _ => none) 1 0 (fun _ _ => none) Q kdX1_leaving
set_option maxRecDepth 20000 in
theorem rn_X1_leaving : mm_RN flX1 ct_X1_leaving mm_x0 [] 1 0 3 kdX1_leaving sp_X1_leaving := by
  intro av M d Q h
  unfold sp_X1_leaving at h
  split at h
  · rename_i o s c
    obtain ⟨rfl, ht, hs, hc, hq⟩ := h
    have h1 := ht.1
    have h3 := ht.2.2.1
    refine ⟨Nat.le_of_ble_eq_true rfl, mm_run_at (stop := []) (S := mm_F0) kkX1_leaving 80 ?_ mm_F0h⟩
    simp only [mm_wp, mm_op, mm_nxt, mm_jmp, mm_at, mm_in, mm_nth, mm_set, mm_ok, mm_isL, mm_ret, mm_isRet, mm_bool, mm_call, mm_push, mm_rv, mm_cats, mm_cat, mm_look, mm_ft, mm_fv, mm_pf, mm_thr, mm_ent, mm_pad, mm_fl, beq_self_eq_true, cond_true, cond_false, Nat.reduceBEq, Nat.reduceEqDiff, List.drop_succ_cons, List.drop_zero, List.take_succ_cons, List.take_zero, List.reverse_cons, List.reverse_nil, List.nil_append, List.cons_append, List.length_cons, List.length_nil, Nat.reduceAdd, Nat.reduceSub, Nat.reduceLeDiff, Bool.not_false, Bool.and_true, Bool.true_and, Nat.zero_add, true_and, and_true, Nat.le_refl, true_or, or_true, reduceCtorEq, Nat.add_zero, Nat.reduceLT, Bool.and_self, Bool.not_true, Fin.isValue, Nat.reduceLeDiff, List.take_nil, List.drop_nil, mm_i1, mm_i2, mm_i3, mm_i4, mm_i5, mm_i6, mm_i7, mm_i16, mm_i17, mm_i18, mm_i19, mm_i20, mm_i21, mm_i22, mm_i23, mm_l3, mm_l4, mm_l5, mm_l6, mm_l7, mm_l18, mm_l19, mm_l20, mm_l21, mm_l22, kdX1_leaving, ct_X1_leaving, flX1, sp_X1_fromOf, sp_X1_toOf]
    repeat' (first | assumption | apply And.intro | (intro _) | apply hq)
    all_goals (try simp only [InI, lv] at *)
    all_goals first | omega | ((repeat' split) <;> omega)
  · exact h.elim
theorem me_X1_leaving {l : Launch} (hl : l.stackTraces = false) : mm_Met l yX1_leaving cX1_leaving 3 (some .int) [] 7 121 0 sp_X1_leaving := mm_mt hl rn_X1_leaving ⟨by decide, rfl⟩ kkX1_leaving rfl ⟨by decide, by decide⟩ flkX1 (fun _ h => nomatch h) (⟨mm_pe (me_X1_fromOf hl) mwX1_fromOf (mm_t1 203 rfl rfl) (Nat.le_of_ble_eq_true rfl) (Nat.le_of_ble_eq_true rfl), mm_pe (me_X1_toOf hl) mwX1_toOf (mm_t1 199 rfl rfl) (Nat.le_of_ble_eq_true rfl) (Nat.le_of_ble_eq_true rfl), trivial⟩) (mm_xe0 _)
def sp_X1_comingTo : mm_S := fun av M d Q => match av with
  | [.inr (.inr (.inl o)), .inl s, .inl c] =>  o = 2 ∧ tW M ∧ (0 ≤ s ∧ s < M 2 4) ∧ InI c ∧ ∀ r, r = cm M s c ∧ -1 ≤ r ∧ r < 2 * M 2 4 ∧ (0 ≤ r → r / 2 = s) → Q (.inl (some (mm_I r))) M d
  | _ => False
def ct_X1_comingTo : List (Nat × mm_Ca) := [(57, (0, 2, 11, sp_X1_toOf, 0)), (53, (0, 2, 11, sp_X1_fromOf, 0))]
abbrev rr_X1_comingTo (Q : mm_Q) := mm_run (mm_look flX1) (mm_look ct_X1_comingTo) mm_x0 (mm_look ([] : List (Nat × Int))) (fun _ => none) 1 0 (fun _ _ => none) Q kdX1_comingTo
set_option maxRecDepth 20000 in
theorem rn_X1_comingTo : mm_RN flX1 ct_X1_comingTo mm_x0 [] 1 0 3 kdX1_comingTo sp_X1_comingTo := by
  intro av M d Q h
  unfold sp_X1_comingTo at h
  split at h
  · rename_i o s c
    obtain ⟨rfl, ht, hs, hc, hq⟩ := h
    have h1 := ht.1
    have h3 := ht.2.2.1
    refine ⟨Nat.le_of_ble_eq_true rfl, mm_run_at (stop := []) (S := mm_F0) kkX1_comingTo 80 ?_ mm_F0h⟩
    simp only [mm_wp, mm_op, mm_nxt, mm_jmp, mm_at, mm_in, mm_nth, mm_set, mm_ok, mm_isL, mm_ret, mm_isRet, mm_bool, mm_call, mm_push, mm_rv, mm_cats, mm_cat, mm_look, mm_ft, mm_fv, mm_pf, mm_thr, mm_ent, mm_pad, mm_fl, beq_self_eq_true, cond_true, cond_false, Nat.reduceBEq, Nat.reduceEqDiff, List.drop_succ_cons, List.drop_zero, List.take_succ_cons, List.take_zero, List.reverse_cons, List.reverse_nil, List.nil_append, List.cons_append, List.length_cons, List.length_nil, Nat.reduceAdd, Nat.reduceSub, Nat.reduceLeDiff, Bool.not_false, Bool.and_true, Bool.true_and, Nat.zero_add, true_and, and_true, Nat.le_refl, true_or, or_true, reduceCtorEq, Nat.add_zero, Nat.reduceLT, Bool.and_self, Bool.not_true, Fin.isValue, Nat.reduceLeDiff, List.take_nil, List.drop_nil, mm_i1, mm_i2, mm_i3, mm_i4, mm_i5, mm_i6, mm_i7, mm_i16, mm_i17, mm_i18, mm_i19, mm_i20, mm_i21, mm_i22, mm_i23, mm_l3, mm_l4, mm_l5, mm_l6, mm_l7, mm_l18, mm_l19, mm_l20, mm_l21, mm_l22, kdX1_comingTo, ct_X1_comingTo, flX1, sp_X1_toOf, sp_X1_fromOf]
    repeat' (first | assumption | apply And.intro | (intro _) | apply hq)
    all_goals (try simp only [InI, cm] at *)
    all_goals first | omega | ((repeat' split) <;> omega)
  · exact h.elim
theorem me_X1_comingTo {l : Launch} (hl : l.stackTraces = false) : mm_Met l yX1_comingTo cX1_comingTo 3 (some .int) [] 7 121 0 sp_X1_comingTo := mm_mt hl rn_X1_comingTo ⟨by decide, rfl⟩ kkX1_comingTo rfl ⟨by decide, by decide⟩ flkX1 (fun _ h => nomatch h) (⟨mm_pe (me_X1_toOf hl) mwX1_toOf (mm_t1 199 rfl rfl) (Nat.le_of_ble_eq_true rfl) (Nat.le_of_ble_eq_true rfl), mm_pe (me_X1_fromOf hl) mwX1_fromOf (mm_t1 203 rfl rfl) (Nat.le_of_ble_eq_true rfl) (Nat.le_of_ble_eq_true rfl), trivial⟩) (mm_xe0 _)
def sp_X1_between : mm_S := fun av M d Q => match av with
  | [.inr (.inr (.inl o)), .inl s, .inl a, .inl b] =>  o = 2 ∧ tW M ∧ (0 ≤ s ∧ s < M 2 4) ∧ InI a ∧ InI b ∧ ∀ r, r = bw M s a b ∧ -1 ≤ r ∧ r < 2 * M 2 4 ∧ (0 ≤ r → r / 2 = s) → Q (.inl (some (mm_I r))) M d
  | _ => False
def ct_X1_between : List (Nat × mm_Ca) := [(63, (0, 3, 11, sp_X1_leaving, 0)), (60, (0, 2, 11, sp_X1_goalOf, 0))]
abbrev rr_X1_between (Q : mm_Q) := mm_run (mm_look flX1) (mm_look ct_X1_between) mm_x0 (mm_look ([] : List (Nat × Int))) (fun _ => none) 1 0 (fun _ _ => none) Q kdX1_between
set_option maxRecDepth 20000 in
theorem rn_X1_between : mm_RN flX1 ct_X1_between mm_x0 [] 1 0 5 kdX1_between sp_X1_between := by
  intro av M d Q h
  unfold sp_X1_between at h
  split at h
  · rename_i o s a b
    obtain ⟨rfl, ht, hs, ha, hb, hq⟩ := h
    have h1 := ht.1
    refine ⟨Nat.le_of_ble_eq_true rfl, mm_run_at (stop := []) (S := mm_F0) kkX1_between 80 ?_ mm_F0h⟩
    simp only [mm_wp, mm_op, mm_nxt, mm_jmp, mm_at, mm_in, mm_nth, mm_set, mm_ok, mm_isL, mm_ret, mm_isRet, mm_bool, mm_call, mm_push, mm_rv, mm_cats, mm_cat, mm_look, mm_ft, mm_fv, mm_pf, mm_thr, mm_ent, mm_pad, mm_fl, beq_self_eq_true, cond_true, cond_false, Nat.reduceBEq, Nat.reduceEqDiff, List.drop_succ_cons, List.drop_zero, List.take_succ_cons, List.take_zero, List.reverse_cons, List.reverse_nil, List.nil_append, List.cons_append, List.length_cons, List.length_nil, Nat.reduceAdd, Nat.reduceSub, Nat.reduceLeDiff, Bool.not_false, Bool.and_true, Bool.true_and, Nat.zero_add, true_and, and_true, Nat.le_refl, true_or, or_true, reduceCtorEq, Nat.add_zero, Nat.reduceLT, Bool.and_self, Bool.not_true, Fin.isValue, Nat.reduceLeDiff, List.take_nil, List.drop_nil, mm_i1, mm_i2, mm_i3, mm_i4, mm_i5, mm_i6, mm_i7, mm_i16, mm_i17, mm_i18, mm_i19, mm_i20, mm_i21, mm_i22, mm_i23, mm_l3, mm_l4, mm_l5, mm_l6, mm_l7, mm_l18, mm_l19, mm_l20, mm_l21, mm_l22, kdX1_between, ct_X1_between, flX1, sp_X1_leaving, sp_X1_goalOf]
    repeat' (first | assumption | apply And.intro | (intro _) | apply hq)
    all_goals (try simp only [InI] at *)
    all_goals first | omega | (unfold bw; split <;> simp_all <;> omega)
  · exact h.elim
theorem me_X1_between {l : Launch} (hl : l.stackTraces = false) : mm_Met l yX1_between cX1_between 5 (some .int) [] 8 143 0 sp_X1_between := mm_mt hl rn_X1_between ⟨by decide, rfl⟩ kkX1_between rfl ⟨by decide, by decide⟩ flkX1 (fun _ h => nomatch h) (⟨mm_pe (me_X1_leaving hl) mwX1_leaving (mm_t2 133 rfl rfl) (Nat.le_of_ble_eq_true rfl) (Nat.le_of_ble_eq_true rfl), mm_pe (me_X1_goalOf hl) mwX1_goalOf (mm_t2 110 rfl rfl) (Nat.le_of_ble_eq_true rfl) (Nat.le_of_ble_eq_true rfl), trivial⟩) (mm_xe0 _)
def sp_X1_allStreets : mm_S := fun av M d Q => match av with
  | [.inr (.inr (.inl o))] =>  o = 2 ∧ tW M ∧ ∀ r, r = 2 ^ (M 2 4).toNat - 1 ∧ 0 ≤ r ∧ r < 1073741824 → Q (.inl (some (mm_I r))) M d
  | _ => False
def ct_X1_allStreets : List (Nat × mm_Ca) := []
abbrev rr_X1_allStreets (Q : mm_Q) := mm_run (mm_look flX1) (mm_look ct_X1_allStreets) mm_x0 (mm_look ([] : List (Nat × Int))) (fun _ => none) 1 0 (fun _ _ => none) Q kdX1_allStreets
set_option maxRecDepth 20000 in
theorem rn_X1_allStreets : mm_RN flX1 ct_X1_allStreets mm_x0 [] 1 0 1 kdX1_allStreets sp_X1_allStreets := by
  intro av M d Q h
  unfold sp_X1_allStreets at h
  split at h
  · rename_i o
    obtain ⟨rfl, ht, hq⟩ := h
    have h1 := ht.1
    refine ⟨Nat.le_of_ble_eq_true rfl, mm_run_at (stop := []) (S := mm_F0) kkX1_allStreets 80 ?_ mm_F0h⟩
    simp only [mm_wp, mm_op, mm_nxt, mm_jmp, mm_at, mm_in, mm_nth, mm_set, mm_ok, mm_isL, mm_ret, mm_isRet, mm_bool, mm_call, mm_push, mm_rv, mm_cats, mm_cat, mm_look, mm_ft, mm_fv, mm_pf, mm_thr, mm_ent, mm_pad, mm_fl, beq_self_eq_true, cond_true, cond_false, Nat.reduceBEq, Nat.reduceEqDiff, List.drop_succ_cons, List.drop_zero, List.take_succ_cons, List.take_zero, List.reverse_cons, List.reverse_nil, List.nil_append, List.cons_append, List.length_cons, List.length_nil, Nat.reduceAdd, Nat.reduceSub, Nat.reduceLeDiff, Bool.not_false, Bool.and_true, Bool.true_and, Nat.zero_add, true_and, and_true, Nat.le_refl, true_or, or_true, reduceCtorEq, Nat.add_zero, Nat.reduceLT, Bool.and_self, Bool.not_true, Fin.isValue, Nat.reduceLeDiff, List.take_nil, List.drop_nil, mm_i1, mm_i2, mm_i3, mm_i4, mm_i5, mm_i6, mm_i7, mm_i16, mm_i17, mm_i18, mm_i19, mm_i20, mm_i21, mm_i22, mm_i23, mm_l3, mm_l4, mm_l5, mm_l6, mm_l7, mm_l18, mm_l19, mm_l20, mm_l21, mm_l22, kdX1_allStreets, ct_X1_allStreets, flX1]
    have h2 := pw_le (k := (M 2 4).toNat) (n := 30) (by omega)
    have h3 := pw_lt (k := (M 2 4).toNat) (by omega)
    refine ⟨by omega, hq _ ⟨by omega, by omega, by omega⟩⟩
  · exact h.elim
theorem me_X1_allStreets {l : Launch} (hl : l.stackTraces = false) : mm_Met l yX1_allStreets cX1_allStreets 1 (some .int) [] 6 100 0 sp_X1_allStreets := mm_mt hl rn_X1_allStreets ⟨by decide, rfl⟩ kkX1_allStreets rfl ⟨by decide, by decide⟩ flkX1 (fun _ h => nomatch h) (trivial) (mm_xe0 _)
end
section
/-! the class's town: loops -/
def sp_X3_powerOf : mm_S := fun av M d Q => match av with
  | [.inl a, .inl b] =>  (2 ≤ a ∧ a ≤ 5) ∧ (0 ≤ b ∧ b ≤ 4) ∧ Q (.inl (some (mm_I (a ^ b.toNat)))) M d
  | _ => False
def ct_X3_powerOf : List (Nat × mm_Ca) := []
abbrev rr_X3_powerOf (Q : mm_Q) := mm_run (mm_look flX3) (mm_look ct_X3_powerOf) mm_x0 (mm_look ([] : List (Nat × Int))) (fun _ => none) 1 0 (fun _ _ => none) Q kdX3_powerOf
set_option maxRecDepth 20000 in
theorem lp_X3_powerOf {M : mm_M} {d : List Nat} {Q : mm_Q} {a : Int} {b : Nat} (ha : 2 ≤ a ∧ a ≤ 5) (hb : b ≤ 4) (hq : Q (.inl (some (mm_I (a ^ b)))) M d) : ∀ (k i : Nat), i + k = b → rr_X3_powerOf Q 4 [some (mm_I a), some (mm_I b), some (mm_I (a ^ i)), some (mm_I i)] [] M d 0 := by
  intro k
  induction k with
  | zero =>
    intro i hi
    refine mm_run_at (stop := [4]) (S := rr_X3_powerOf Q) kkX3_powerOf 60 ?_ (fun _ _ _ _ _ _ _ h => h)
    simp only [mm_wp, mm_op, mm_nxt, mm_jmp, mm_at, mm_in, mm_nth, mm_set, mm_ok, mm_isL, mm_ret, mm_isRet, mm_bool, mm_call, mm_push, mm_rv, mm_cats, mm_cat, mm_look, mm_ft, mm_fv, mm_pf, mm_thr, mm_ent, mm_pad, mm_fl, beq_self_eq_true, cond_true, cond_false, Nat.reduceBEq, Nat.reduceEqDiff, List.drop_succ_cons, List.drop_zero, List.take_succ_cons, List.take_zero, List.reverse_cons, List.reverse_nil, List.nil_append, List.cons_append, List.length_cons, List.length_nil, Nat.reduceAdd, Nat.reduceSub, Nat.reduceLeDiff, Bool.not_false, Bool.and_true, Bool.true_and, Nat.zero_add, true_and, and_true, Nat.le_refl, true_or, or_true, reduceCtorEq, Nat.add_zero, Nat.reduceLT, Bool.and_self, Bool.not_true, Fin.isValue, Nat.reduceLeDiff, List.take_nil, List.drop_nil, mm_i1, mm_i2, mm_i3, mm_i4, mm_i5, mm_i6, mm_i7, mm_i16, mm_i17, mm_i18, mm_i19, mm_i20, mm_i21, mm_i22, mm_i23, mm_l3, mm_l4, mm_l5, mm_l6, mm_l7, mm_l18, mm_l19, mm_l20, mm_l21, mm_l22, kdX3_powerOf, ct_X3_powerOf, flX3]
    have e : i = b := by omega
    subst e
    exact ⟨⟨by omega, by omega⟩, ⟨by omega, by omega⟩, fun _ => hq, fun h => by omega⟩
  | succ k ih =>
    intro i hi
    refine mm_run_at (stop := [4]) (S := rr_X3_powerOf Q) kkX3_powerOf 60 ?_ (fun _ _ _ _ _ _ _ h => h)
    simp only [mm_wp, mm_op, mm_nxt, mm_jmp, mm_at, mm_in, mm_nth, mm_set, mm_ok, mm_isL, mm_ret, mm_isRet, mm_bool, mm_call, mm_push, mm_rv, mm_cats, mm_cat, mm_look, mm_ft, mm_fv, mm_pf, mm_thr, mm_ent, mm_pad, mm_fl, beq_self_eq_true, cond_true, cond_false, Nat.reduceBEq, Nat.reduceEqDiff, List.drop_succ_cons, List.drop_zero, List.take_succ_cons, List.take_zero, List.reverse_cons, List.reverse_nil, List.nil_append, List.cons_append, List.length_cons, List.length_nil, Nat.reduceAdd, Nat.reduceSub, Nat.reduceLeDiff, Bool.not_false, Bool.and_true, Bool.true_and, Nat.zero_add, true_and, and_true, Nat.le_refl, true_or, or_true, reduceCtorEq, Nat.add_zero, Nat.reduceLT, Bool.and_self, Bool.not_true, Fin.isValue, Nat.reduceLeDiff, List.take_nil, List.drop_nil, mm_i1, mm_i2, mm_i3, mm_i4, mm_i5, mm_i6, mm_i7, mm_i16, mm_i17, mm_i18, mm_i19, mm_i20, mm_i21, mm_i22, mm_i23, mm_l3, mm_l4, mm_l5, mm_l6, mm_l7, mm_l18, mm_l19, mm_l20, mm_l21, mm_l22, kdX3_powerOf, ct_X3_powerOf, flX3]
    exact ⟨⟨by omega, by omega⟩, ⟨by omega, by omega⟩, fun h => by omega, fun h => by rw [← Int.pow_succ]; exact ih (i + 1) (by omega)⟩
set_option maxRecDepth 20000 in
theorem rn_X3_powerOf : mm_RN flX3 ct_X3_powerOf mm_x0 [] 1 0 4 kdX3_powerOf sp_X3_powerOf := by
  intro av M d Q h
  unfold sp_X3_powerOf at h
  split at h
  · rename_i a b
    obtain ⟨ha, hb, hq⟩ := h
    obtain ⟨b, rfl⟩ := Int.eq_ofNat_of_zero_le hb.1
    refine ⟨Nat.le_of_ble_eq_true rfl, mm_run_at (stop := [4]) (S := rr_X3_powerOf Q) kkX3_powerOf 80 ?_ (fun _ _ _ _ _ _ _ h => h)⟩
    simp only [mm_wp, mm_op, mm_nxt, mm_jmp, mm_at, mm_in, mm_nth, mm_set, mm_ok, mm_isL, mm_ret, mm_isRet, mm_bool, mm_call, mm_push, mm_rv, mm_cats, mm_cat, mm_look, mm_ft, mm_fv, mm_pf, mm_thr, mm_ent, mm_pad, mm_fl, beq_self_eq_true, cond_true, cond_false, Nat.reduceBEq, Nat.reduceEqDiff, List.drop_succ_cons, List.drop_zero, List.take_succ_cons, List.take_zero, List.reverse_cons, List.reverse_nil, List.nil_append, List.cons_append, List.length_cons, List.length_nil, Nat.reduceAdd, Nat.reduceSub, Nat.reduceLeDiff, Bool.not_false, Bool.and_true, Bool.true_and, Nat.zero_add, true_and, and_true, Nat.le_refl, true_or, or_true, reduceCtorEq, Nat.add_zero, Nat.reduceLT, Bool.and_self, Bool.not_true, Fin.isValue, Nat.reduceLeDiff, List.take_nil, List.drop_nil, mm_i1, mm_i2, mm_i3, mm_i4, mm_i5, mm_i6, mm_i7, mm_i16, mm_i17, mm_i18, mm_i19, mm_i20, mm_i21, mm_i22, mm_i23, mm_l3, mm_l4, mm_l5, mm_l6, mm_l7, mm_l18, mm_l19, mm_l20, mm_l21, mm_l22, kdX3_powerOf, ct_X3_powerOf, flX3]
    have h1 := lp_X3_powerOf ha (b := b) (by omega) hq b 0 (by omega)
    simpa using h1
  · exact h.elim
theorem me_X3_powerOf {l : Launch} (hl : l.stackTraces = false) : mm_Met l yX3_powerOf cX3_powerOf 4 (some .int) [] 6 100 0 sp_X3_powerOf := mm_mt hl rn_X3_powerOf ⟨by decide, rfl⟩ kkX3_powerOf rfl ⟨by decide, by decide⟩ flkX3 (fun _ h => nomatch h) (trivial) (mm_xe0 _)
def sp_X1_addRing : mm_S := fun av M d Q => match av with
  | [.inr (.inr (.inl o)), .inl many, .inl b] =>  o = 2 ∧ tW M ∧ (1 ≤ many ∧ many ≤ 10) ∧ (0 ≤ b ∧ b ≤ 9) ∧ M 2 4 + many ≤ 30 ∧ ∀ M', ringI M M' many b (M 2 4).toNat many.toNat → Q (.inl none) M' d
  | _ => False
def ct_X1_addRing : List (Nat × mm_Ca) := [(42, (0, 3, 11, sp_X1_addStreet, 0))]
abbrev rr_X1_addRing (Q : mm_Q) := mm_run (mm_look flX1) (mm_look ct_X1_addRing) mm_x0 (mm_look ([] : List (Nat × Int))) (fun _ => none) 0 0 (fun _ _ => none) Q kdX1_addRing
set_option maxRecDepth 20000 in
theorem lp_X1_addRing {M0 : mm_M} {d : List Nat} {Q : mm_Q} {many b : Int} {c : Nat} (hm : 1 ≤ many ∧ many ≤ 10) (hb : 0 ≤ b ∧ b ≤ 9) (hc : c + many ≤ 30) (hq : ∀ M', ringI M0 M' many b c many.toNat → Q (.inl none) M' d) : ∀ (k i : Nat) (M : mm_M), i + k = many.toNat → ringI M0 M many b c i → rr_X1_addRing Q 2 [some (mm_R 2), some (mm_I many), some (mm_I b), some (mm_I i)] [] M d 0 := by
  intro k
  induction k with
  | zero =>
    intro i M hi hI
    refine mm_run_at (stop := [2]) (S := rr_X1_addRing Q) kkX1_addRing 60 ?_ (fun _ _ _ _ _ _ _ h => h)
    simp only [mm_wp, mm_op, mm_nxt, mm_jmp, mm_at, mm_in, mm_nth, mm_set, mm_ok, mm_isL, mm_ret, mm_isRet, mm_bool, mm_call, mm_push, mm_rv, mm_cats, mm_cat, mm_look, mm_ft, mm_fv, mm_pf, mm_thr, mm_ent, mm_pad, mm_fl, beq_self_eq_true, cond_true, cond_false, Nat.reduceBEq, Nat.reduceEqDiff, List.drop_succ_cons, List.drop_zero, List.take_succ_cons, List.take_zero, List.reverse_cons, List.reverse_nil, List.nil_append, List.cons_append, List.length_cons, List.length_nil, Nat.reduceAdd, Nat.reduceSub, Nat.reduceLeDiff, Bool.not_false, Bool.and_true, Bool.true_and, Nat.zero_add, true_and, and_true, Nat.le_refl, true_or, or_true, reduceCtorEq, Nat.add_zero, Nat.reduceLT, Bool.and_self, Bool.not_true, Fin.isValue, Nat.reduceLeDiff, List.take_nil, List.drop_nil, mm_i1, mm_i2, mm_i3, mm_i4, mm_i5, mm_i6, mm_i7, mm_i16, mm_i17, mm_i18, mm_i19, mm_i20, mm_i21, mm_i22, mm_i23, mm_l3, mm_l4, mm_l5, mm_l6, mm_l7, mm_l18, mm_l19, mm_l20, mm_l21, mm_l22, kdX1_addRing, ct_X1_addRing, flX1, sp_X1_addStreet]
    have e : i = many.toNat := by omega
    subst e
    exact ⟨⟨by omega, by omega⟩, ⟨by omega, by omega⟩, fun _ => hq M hI, fun h => by omega⟩
  | succ k ih =>
    intro i M hi hI
    refine mm_run_at (stop := [2]) (S := rr_X1_addRing Q) kkX1_addRing 60 ?_ (fun _ _ _ _ _ _ _ h => h)
    simp only [mm_wp, mm_op, mm_nxt, mm_jmp, mm_at, mm_in, mm_nth, mm_set, mm_ok, mm_isL, mm_ret, mm_isRet, mm_bool, mm_call, mm_push, mm_rv, mm_cats, mm_cat, mm_look, mm_ft, mm_fv, mm_pf, mm_thr, mm_ent, mm_pad, mm_fl, beq_self_eq_true, cond_true, cond_false, Nat.reduceBEq, Nat.reduceEqDiff, List.drop_succ_cons, List.drop_zero, List.take_succ_cons, List.take_zero, List.reverse_cons, List.reverse_nil, List.nil_append, List.cons_append, List.length_cons, List.length_nil, Nat.reduceAdd, Nat.reduceSub, Nat.reduceLeDiff, Bool.not_false, Bool.and_true, Bool.true_and, Nat.zero_add, true_and, and_true, Nat.le_refl, true_or, or_true, reduceCtorEq, Nat.add_zero, Nat.reduceLT, Bool.and_self, Bool.not_true, Fin.isValue, Nat.reduceLeDiff, List.take_nil, List.drop_nil, mm_i1, mm_i2, mm_i3, mm_i4, mm_i5, mm_i6, mm_i7, mm_i16, mm_i17, mm_i18, mm_i19, mm_i20, mm_i21, mm_i22, mm_i23, mm_l3, mm_l4, mm_l5, mm_l6, mm_l7, mm_l18, mm_l19, mm_l20, mm_l21, mm_l22, kdX1_addRing, ct_X1_addRing, flX1, sp_X1_addStreet]
    obtain ⟨t1, t2, t3, t4, t5, t6⟩ := id hI
    rw [Int.tmod_eq_emod_of_nonneg (show 0 ≤ (i : Int) + b by omega)]
    have hr := Int.emod_nonneg ((i : Int) + b) (show many ≠ 0 by omega)
    have hr2 := Int.emod_lt_of_pos ((i : Int) + b) (show 0 < many by omega)
    have ha := addS_spec (a := i) (b := ((i : Int) + b) % many) (n := c + i) t1 (by omega) (by omega) (by omega) (by omega)
    refine ⟨⟨by omega, by omega⟩, ⟨by omega, by omega⟩, fun h => by omega, fun h => ⟨⟨by omega, by omega⟩, ⟨by omega, by omega⟩, by omega, t1, by omega, by omega, by omega, ?_⟩⟩
    refine ih (i + 1) (addS M i (((i : Int) + b) % many)) (by omega) ⟨ha.1, t2.tr ha.2.1, fun j hj => (ha.2.2.1 j hj).trans (t3 j hj), by rw [ha.2.2.2.1]; omega, fun j hj => ?_, fun k hk => ?_⟩
    · have := ha.2.2.2.2.1 j (by omega)
      rw [this.1, this.2]
      exact t5 j hj
    · by_cases hk2 : k = i
      · subst hk2
        exact ha.2.2.2.2.2
      · have := ha.2.2.2.2.1 (c + k) (by omega)
        rw [this.1, this.2]
        exact t6 k (by omega)
set_option maxRecDepth 20000 in
theorem rn_X1_addRing : mm_RN flX1 ct_X1_addRing mm_x0 [] 0 0 4 kdX1_addRing sp_X1_addRing := by
  intro av M d Q h
  unfold sp_X1_addRing at h
  split at h
  · rename_i o many b
    obtain ⟨rfl, ht, hm, hb, hc, hq⟩ := h
    have h1 := ht.1
    refine ⟨Nat.le_of_ble_eq_true rfl, mm_run_at (stop := [2]) (S := rr_X1_addRing Q) kkX1_addRing 80 ?_ (fun _ _ _ _ _ _ _ h => h)⟩
    simp only [mm_wp, mm_op, mm_nxt, mm_jmp, mm_at, mm_in, mm_nth, mm_set, mm_ok, mm_isL, mm_ret, mm_isRet, mm_bool, mm_call, mm_push, mm_rv, mm_cats, mm_cat, mm_look, mm_ft, mm_fv, mm_pf, mm_thr, mm_ent, mm_pad, mm_fl, beq_self_eq_true, cond_true, cond_false, Nat.reduceBEq, Nat.reduceEqDiff, List.drop_succ_cons, List.drop_zero, List.take_succ_cons, List.take_zero, List.reverse_cons, List.reverse_nil, List.nil_append, List.cons_append, List.length_cons, List.length_nil, Nat.reduceAdd, Nat.reduceSub, Nat.reduceLeDiff, Bool.not_false, Bool.and_true, Bool.true_and, Nat.zero_add, true_and, and_true, Nat.le_refl, true_or, or_true, reduceCtorEq, Nat.add_zero, Nat.reduceLT, Bool.and_self, Bool.not_true, Fin.isValue, Nat.reduceLeDiff, List.take_nil, List.drop_nil, mm_i1, mm_i2, mm_i3, mm_i4, mm_i5, mm_i6, mm_i7, mm_i16, mm_i17, mm_i18, mm_i19, mm_i20, mm_i21, mm_i22, mm_i23, mm_l3, mm_l4, mm_l5, mm_l6, mm_l7, mm_l18, mm_l19, mm_l20, mm_l21, mm_l22, kdX1_addRing, ct_X1_addRing, flX1, sp_X1_addStreet]
    exact lp_X1_addRing (c := (M 2 4).toNat) hm hb (by omega) hq many.toNat 0 M (by omega) ⟨ht, fr.rf, fun _ _ => rfl, by omega, fun _ _ => ⟨rfl, rfl⟩, fun k hk => by omega⟩
  · exact h.elim
theorem me_X1_addRing {l : Launch} (hl : l.stackTraces = false) : mm_Met l yX1_addRing cX1_addRing 4 none [] 8 142 0 sp_X1_addRing := mm_mt hl rn_X1_addRing ⟨by decide, rfl⟩ kkX1_addRing rfl ⟨by decide, by decide⟩ flkX1 (fun _ h => nomatch h) (⟨mm_pe (me_X1_addStreet hl) mwX1_addStreet (mm_t3 125 rfl rfl) (Nat.le_of_ble_eq_true rfl) (Nat.le_of_ble_eq_true rfl), trivial⟩) (mm_xe0 _)
def sp_X1_becomeWords : mm_S := fun av M d Q => match av with
  | [.inr (.inr (.inl o)), .inl a, .inl b] =>  o = 2 ∧ tW M ∧ M 2 4 = 0 ∧ (2 ≤ a ∧ a ≤ 5) ∧ (1 ≤ b ∧ b ≤ 4) ∧ a ^ b.toNat ≤ 30 ∧ ∀ M', wordI (mm_up (mm_up (mm_up M 2 6 a) 2 7 b) 2 5 1) M' a (a ^ (b.toNat - 1)) (a ^ b.toNat).toNat → Q (.inl none) M' d
  | _ => False
def ct_X1_becomeWords : List (Nat × mm_Ca) := [(46, (1, 2, 0, sp_X3_powerOf, 0)), (42, (0, 3, 11, sp_X1_addStreet, 0))]
abbrev rr_X1_becomeWords (Q : mm_Q) := mm_run (mm_look flX1) (mm_look ct_X1_becomeWords) mm_x0 (mm_look ([] : List (Nat × Int))) (fun _ => none) 0 0 (fun _ _ => none) Q kdX1_becomeWords
set_option maxRecDepth 20000 in
theorem lp_X1_becomeWords {M0 : mm_M} {d : List Nat} {Q : mm_Q} {a b hd : Int} {n : Nat} (ha : 2 ≤ a ∧ a ≤ 5) (hh : 1 ≤ hd ∧ hd ≤ 10) (hn : hd * a = n) (h30 : n ≤ 30) (hda : n ≤ 10 * a) (hq : ∀ M', wordI M0 M' a hd n → Q (.inl none) M' d) : ∀ (k i : Nat) (M : mm_M), i + k = n → wordI M0 M a hd i → rr_X1_becomeWords Q 37 [some (mm_R 2), some (mm_I a), some (mm_I b), some (mm_I hd), some (mm_I i)] [] M d 0 := by
  intro k
  induction k with
  | zero =>
    intro i M hi hI
    refine mm_run_at (stop := [37]) (S := rr_X1_becomeWords Q) kkX1_becomeWords 60 ?_ (fun _ _ _ _ _ _ _ h => h)
    simp only [mm_wp, mm_op, mm_nxt, mm_jmp, mm_at, mm_in, mm_nth, mm_set, mm_ok, mm_isL, mm_ret, mm_isRet, mm_bool, mm_call, mm_push, mm_rv, mm_cats, mm_cat, mm_look, mm_ft, mm_fv, mm_pf, mm_thr, mm_ent, mm_pad, mm_fl, beq_self_eq_true, cond_true, cond_false, Nat.reduceBEq, Nat.reduceEqDiff, List.drop_succ_cons, List.drop_zero, List.take_succ_cons, List.take_zero, List.reverse_cons, List.reverse_nil, List.nil_append, List.cons_append, List.length_cons, List.length_nil, Nat.reduceAdd, Nat.reduceSub, Nat.reduceLeDiff, Bool.not_false, Bool.and_true, Bool.true_and, Nat.zero_add, true_and, and_true, Nat.le_refl, true_or, or_true, reduceCtorEq, Nat.add_zero, Nat.reduceLT, Bool.and_self, Bool.not_true, Fin.isValue, Nat.reduceLeDiff, List.take_nil, List.drop_nil, mm_i1, mm_i2, mm_i3, mm_i4, mm_i5, mm_i6, mm_i7, mm_i16, mm_i17, mm_i18, mm_i19, mm_i20, mm_i21, mm_i22, mm_i23, mm_l3, mm_l4, mm_l5, mm_l6, mm_l7, mm_l18, mm_l19, mm_l20, mm_l21, mm_l22, kdX1_becomeWords, ct_X1_becomeWords, flX1, sp_X3_powerOf, sp_X1_addStreet]
    rw [hn]
    have e : i = n := by omega
    subst e
    exact ⟨⟨by omega, by omega⟩, ⟨by omega, by omega⟩, fun _ => hq M hI, fun h => by omega⟩
  | succ k ih =>
    intro i M hi hI
    refine mm_run_at (stop := [37]) (S := rr_X1_becomeWords Q) kkX1_becomeWords 60 ?_ (fun _ _ _ _ _ _ _ h => h)
    simp only [mm_wp, mm_op, mm_nxt, mm_jmp, mm_at, mm_in, mm_nth, mm_set, mm_ok, mm_isL, mm_ret, mm_isRet, mm_bool, mm_call, mm_push, mm_rv, mm_cats, mm_cat, mm_look, mm_ft, mm_fv, mm_pf, mm_thr, mm_ent, mm_pad, mm_fl, beq_self_eq_true, cond_true, cond_false, Nat.reduceBEq, Nat.reduceEqDiff, List.drop_succ_cons, List.drop_zero, List.take_succ_cons, List.take_zero, List.reverse_cons, List.reverse_nil, List.nil_append, List.cons_append, List.length_cons, List.length_nil, Nat.reduceAdd, Nat.reduceSub, Nat.reduceLeDiff, Bool.not_false, Bool.and_true, Bool.true_and, Nat.zero_add, true_and, and_true, Nat.le_refl, true_or, or_true, reduceCtorEq, Nat.add_zero, Nat.reduceLT, Bool.and_self, Bool.not_true, Fin.isValue, Nat.reduceLeDiff, List.take_nil, List.drop_nil, mm_i1, mm_i2, mm_i3, mm_i4, mm_i5, mm_i6, mm_i7, mm_i16, mm_i17, mm_i18, mm_i19, mm_i20, mm_i21, mm_i22, mm_i23, mm_l3, mm_l4, mm_l5, mm_l6, mm_l7, mm_l18, mm_l19, mm_l20, mm_l21, mm_l22, kdX1_becomeWords, ct_X1_becomeWords, flX1, sp_X3_powerOf, sp_X1_addStreet]
    rw [hn]
    obtain ⟨t1, t2, t3, t4, t6⟩ := id hI
    rw [Int.tmod_eq_emod_of_nonneg (show 0 ≤ (i : Int) by omega), Int.tdiv_eq_ediv_of_nonneg (show 0 ≤ (i : Int) by omega)]
    have hr := Int.emod_nonneg (i : Int) (show hd ≠ 0 by omega)
    have hr2 := Int.emod_lt_of_pos (i : Int) (show 0 < hd by omega)
    have hr3 := Int.ediv_nonneg (show 0 ≤ (i : Int) by omega) (show 0 ≤ a by omega)
    have hr4 : (i : Int) / a < 10 := Int.ediv_lt_of_lt_mul (by omega) (by omega)
    have ha := addS_spec (a := (i : Int) / a) (b := (i : Int) % hd) (n := i) t1 (by omega) (by omega) (by omega) (by omega)
    refine ⟨⟨by omega, by omega⟩, ⟨by omega, by omega⟩, fun h => by omega, fun h => ⟨⟨by omega, by omega⟩, ⟨by omega, by omega⟩, by omega, ⟨by omega, by omega⟩, ⟨by omega, by omega⟩, by omega, t1, by omega, by omega, by omega, ?_⟩⟩
    refine ih (i + 1) (addS M (i / a) (i % hd)) (by omega) ⟨ha.1, t2.tr ha.2.1, fun j hj => (ha.2.2.1 j hj).trans (t3 j hj), by rw [ha.2.2.2.1]; omega, fun k hk => ?_⟩
    by_cases hk2 : k = i
    · subst hk2
      exact ha.2.2.2.2.2
    · have := ha.2.2.2.2.1 k (by omega)
      rw [this.1, this.2]
      exact t6 k (by omega)
set_option maxRecDepth 20000 in
theorem rn_X1_becomeWords : mm_RN flX1 ct_X1_becomeWords mm_x0 [] 0 0 5 kdX1_becomeWords sp_X1_becomeWords := by
  intro av M d Q h
  unfold sp_X1_becomeWords at h
  split at h
  · rename_i o a b
    obtain ⟨rfl, ht, h0, ha, hb, hn, hq⟩ := h
    refine ⟨Nat.le_of_ble_eq_true rfl, mm_run_at (stop := [37]) (S := rr_X1_becomeWords Q) kkX1_becomeWords 80 ?_ (fun _ _ _ _ _ _ _ h => h)⟩
    simp only [mm_wp, mm_op, mm_nxt, mm_jmp, mm_at, mm_in, mm_nth, mm_set, mm_ok, mm_isL, mm_ret, mm_isRet, mm_bool, mm_call, mm_push, mm_rv, mm_cats, mm_cat, mm_look, mm_ft, mm_fv, mm_pf, mm_thr, mm_ent, mm_pad, mm_fl, beq_self_eq_true, cond_true, cond_false, Nat.reduceBEq, Nat.reduceEqDiff, List.drop_succ_cons, List.drop_zero, List.take_succ_cons, List.take_zero, List.reverse_cons, List.reverse_nil, List.nil_append, List.cons_append, List.length_cons, List.length_nil, Nat.reduceAdd, Nat.reduceSub, Nat.reduceLeDiff, Bool.not_false, Bool.and_true, Bool.true_and, Nat.zero_add, true_and, and_true, Nat.le_refl, true_or, or_true, reduceCtorEq, Nat.add_zero, Nat.reduceLT, Bool.and_self, Bool.not_true, Fin.isValue, Nat.reduceLeDiff, List.take_nil, List.drop_nil, mm_i1, mm_i2, mm_i3, mm_i4, mm_i5, mm_i6, mm_i7, mm_i16, mm_i17, mm_i18, mm_i19, mm_i20, mm_i21, mm_i22, mm_i23, mm_l3, mm_l4, mm_l5, mm_l6, mm_l7, mm_l18, mm_l19, mm_l20, mm_l21, mm_l22, kdX1_becomeWords, ct_X1_becomeWords, flX1, sp_X3_powerOf, sp_X1_addStreet]
    obtain ⟨b, rfl⟩ := Int.eq_ofNat_of_zero_le (show 0 ≤ b by omega)
    obtain ⟨b, rfl⟩ : ∃ k, b = k + 1 := ⟨b - 1, by omega⟩
    have e : (((b + 1 : Nat) : Int) - 1).toNat = b := by omega
    have hp : a ^ (b + 1) = a ^ b * a := Int.pow_succ ..
    have hp1 : 1 ≤ a ^ b := Int.pow_pos (by omega)
    have hn' : a ^ b * a ≤ 30 := by rw [← hp]; exact hn
    have hd10 : a ^ b ≤ 15 := by
      have : a ^ b * 2 ≤ a ^ b * a := Int.mul_le_mul_of_nonneg_left (by omega) (by omega)
      omega
    have hd9 : a ^ b ≤ 10 := by
      have hb4 : b ≤ 3 := by omega
      have hb5 : b = 0 ∨ b = 1 ∨ b = 2 ∨ b = 3 := by omega
      have ha5 : a = 2 ∨ a = 3 ∨ a = 4 ∨ a = 5 := by omega
      rcases hb5 with rfl | rfl | rfl | rfl <;> rcases ha5 with rfl | rfl | rfl | rfl <;> omega
    have hg0 : 0 ≤ a ^ b * a := Int.mul_nonneg (by omega) (by omega)
    have hda : a ^ b * a ≤ 10 * a := Int.mul_le_mul_of_nonneg_right hd9 (by omega)
    refine ⟨ha, ⟨by omega, by omega⟩, ?_⟩
    rw [e]
    refine ⟨⟨by omega, by omega⟩, ⟨by omega, by omega⟩, fun h => by omega, fun _ => ⟨⟨by omega, by omega⟩, ⟨by omega, by omega⟩, fun _ => ?_, fun h => by omega⟩⟩
    refine lp_X1_becomeWords (hd := a ^ b) (n := (a ^ b * a).toNat) ha ⟨by omega, by omega⟩ (by omega) (by omega) (by omega) (fun M' h => hq M' (by rw [show ((b + 1 : Nat) : Int).toNat = b + 1 by omega, hp]; exact h)) (a ^ b * a).toNat 0 _ (by omega) ⟨?_, fr.rf, fun _ _ => rfl, by simp [mm_up, h0], fun k hk => by omega⟩
    obtain ⟨t1, t2, t3, t4, t5⟩ := ht
    exact ⟨by simp [mm_up, h0], by simpa [mm_up] using t2, by simp [mm_up], by simp [mm_up]; omega, by simp [mm_up]; omega⟩
  · exact h.elim
theorem me_X1_becomeWords {l : Launch} (hl : l.stackTraces = false) : mm_Met l yX1_becomeWords cX1_becomeWords 5 none [] 8 142 0 sp_X1_becomeWords := mm_mt hl rn_X1_becomeWords ⟨by decide, rfl⟩ kkX1_becomeWords rfl ⟨by decide, by decide⟩ flkX1 (fun _ h => nomatch h) (⟨mm_peN (host := RX3) (me_X3_powerOf hl) mwX3_powerOf (by decide +kernel) (Nat.le_of_ble_eq_true rfl) (Nat.le_of_ble_eq_true rfl), mm_pe (me_X1_addStreet hl) mwX1_addStreet (mm_t3 125 rfl rfl) (Nat.le_of_ble_eq_true rfl) (Nat.le_of_ble_eq_true rfl), trivial⟩) (mm_xe0 _)
def sp_X1_dropAll : mm_S := fun av M d Q => match av with
  | [.inr (.inr (.inl o))] =>  o = 2 ∧ Q (.inl none) (mm_up (mm_up (mm_up (mm_up M 2 4 0) 2 5 0) 2 6 0) 2 7 0) d
  | _ => False
def ct_X1_dropAll : List (Nat × mm_Ca) := [(50, (0, 1, 11, sp_X1_endWords, 0))]
abbrev rr_X1_dropAll (Q : mm_Q) := mm_run (mm_look flX1) (mm_look ct_X1_dropAll) mm_x0 (mm_look ([] : List (Nat × Int))) (fun _ => none) 0 0 (fun _ _ => none) Q kdX1_dropAll
set_option maxRecDepth 20000 in
theorem rn_X1_dropAll : mm_RN flX1 ct_X1_dropAll mm_x0 [] 0 0 1 kdX1_dropAll sp_X1_dropAll := by
  intro av M d Q h
  unfold sp_X1_dropAll at h
  split at h
  · rename_i o
    obtain ⟨rfl, hq⟩ := h
    refine ⟨Nat.le_of_ble_eq_true rfl, mm_run_at (stop := []) (S := mm_F0) kkX1_dropAll 80 ?_ mm_F0h⟩
    simp only [mm_wp, mm_op, mm_nxt, mm_jmp, mm_at, mm_in, mm_nth, mm_set, mm_ok, mm_isL, mm_ret, mm_isRet, mm_bool, mm_call, mm_push, mm_rv, mm_cats, mm_cat, mm_look, mm_ft, mm_fv, mm_pf, mm_thr, mm_ent, mm_pad, mm_fl, beq_self_eq_true, cond_true, cond_false, Nat.reduceBEq, Nat.reduceEqDiff, List.drop_succ_cons, List.drop_zero, List.take_succ_cons, List.take_zero, List.reverse_cons, List.reverse_nil, List.nil_append, List.cons_append, List.length_cons, List.length_nil, Nat.reduceAdd, Nat.reduceSub, Nat.reduceLeDiff, Bool.not_false, Bool.and_true, Bool.true_and, Nat.zero_add, true_and, and_true, Nat.le_refl, true_or, or_true, reduceCtorEq, Nat.add_zero, Nat.reduceLT, Bool.and_self, Bool.not_true, Fin.isValue, Nat.reduceLeDiff, List.take_nil, List.drop_nil, mm_i1, mm_i2, mm_i3, mm_i4, mm_i5, mm_i6, mm_i7, mm_i16, mm_i17, mm_i18, mm_i19, mm_i20, mm_i21, mm_i22, mm_i23, mm_l3, mm_l4, mm_l5, mm_l6, mm_l7, mm_l18, mm_l19, mm_l20, mm_l21, mm_l22, kdX1_dropAll, ct_X1_dropAll, flX1, sp_X1_endWords]
    repeat' (first | assumption | apply And.intro | (intro _) | apply hq)
    all_goals (try simp only [InI] at *)
    all_goals first | omega | ((repeat' split) <;> omega)
  · exact h.elim
theorem me_X1_dropAll {l : Launch} (hl : l.stackTraces = false) : mm_Met l yX1_dropAll cX1_dropAll 1 none [] 7 120 0 sp_X1_dropAll := mm_mt hl rn_X1_dropAll ⟨by decide, rfl⟩ kkX1_dropAll rfl ⟨by decide, by decide⟩ flkX1 (fun _ h => nomatch h) (⟨mm_pe (me_X1_endWords hl) mwX1_endWords (mm_t1 143 rfl rfl) (Nat.le_of_ble_eq_true rfl) (Nat.le_of_ble_eq_true rfl), trivial⟩) (mm_xe0 _)
def sp_X1_dropStreet : mm_S := fun av M d Q => match av with
  | [.inr (.inr (.inl o)), .inl s] =>  o = 2 ∧ tW M ∧ (0 ≤ s ∧ s < M 2 4) ∧ ∀ M', tW M' ∧ fr [2, 3, 4] M M' ∧ (∀ j, j ≠ 4 → M' 2 j = M 2 j) ∧ M' 2 4 = M 2 4 - 1 ∧ (∀ i : Nat, i < s → M' 3 i = M 3 i ∧ M' 4 i = M 4 i) ∧ (∀ i : Nat, s ≤ i → i + 1 < M 2 4 → M' 3 i = M 3 (i + 1) ∧ M' 4 i = M 4 (i + 1)) → Q (.inl none) M' d
  | _ => False
def ct_X1_dropStreet : List (Nat × mm_Ca) := []
abbrev rr_X1_dropStreet (Q : mm_Q) := mm_run (mm_look flX1) (mm_look ct_X1_dropStreet) mm_x0 (mm_look ([] : List (Nat × Int))) (fun _ => none) 0 0 (fun _ _ => none) Q kdX1_dropStreet
set_option maxRecDepth 20000 in
theorem lp_X1_dropStreet {M0 : mm_M} {d : List Nat} {Q : mm_Q} {s n : Nat} {x2 : Int} (hs : s < n) (h30 : n ≤ 30) (hn : M0 2 4 = n) (hq : ∀ M', tW M' ∧ fr [3, 4] M0 M' ∧ (∀ i : Nat, i < s → M' 3 i = M0 3 i ∧ M' 4 i = M0 4 i) ∧ (∀ i : Nat, s ≤ i → i + 1 < n → M' 3 i = M0 3 (i + 1) ∧ M' 4 i = M0 4 (i + 1)) → Q (.inl none) (mm_up M' 2 4 (n - 1)) d) : ∀ (k i : Nat) (M : mm_M), i + k + 1 = n → s ≤ i → tW M → fr [3, 4] M0 M → (∀ j : Nat, j < s → M 3 j = M0 3 j ∧ M 4 j = M0 4 j) → (∀ j : Nat, s ≤ j → j < i → M 3 j = M0 3 (j + 1) ∧ M 4 j = M0 4 (j + 1)) → (∀ j : Nat, i ≤ j → M 3 j = M0 3 j ∧ M 4 j = M0 4 j) → rr_X1_dropStreet Q 15 [some (mm_R 2), some (mm_I s), some (mm_I i)] [] M d 0 := by
  intro k
  induction k with
  | zero =>
    intro i M hi hsi ht hf h1 h2 h3
    refine mm_run_at (stop := [15]) (S := rr_X1_dropStreet Q) kkX1_dropStreet 60 ?_ (fun _ _ _ _ _ _ _ h => h)
    simp only [mm_wp, mm_op, mm_nxt, mm_jmp, mm_at, mm_in, mm_nth, mm_set, mm_ok, mm_isL, mm_ret, mm_isRet, mm_bool, mm_call, mm_push, mm_rv, mm_cats, mm_cat, mm_look, mm_ft, mm_fv, mm_pf, mm_thr, mm_ent, mm_pad, mm_fl, beq_self_eq_true, cond_true, cond_false, Nat.reduceBEq, Nat.reduceEqDiff, List.drop_succ_cons, List.drop_zero, List.take_succ_cons, List.take_zero, List.reverse_cons, List.reverse_nil, List.nil_append, List.cons_append, List.length_cons, List.length_nil, Nat.reduceAdd, Nat.reduceSub, Nat.reduceLeDiff, Bool.not_false, Bool.and_true, Bool.true_and, Nat.zero_add, true_and, and_true, Nat.le_refl, true_or, or_true, reduceCtorEq, Nat.add_zero, Nat.reduceLT, Bool.and_self, Bool.not_true, Fin.isValue, Nat.reduceLeDiff, List.take_nil, List.drop_nil, mm_i1, mm_i2, mm_i3, mm_i4, mm_i5, mm_i6, mm_i7, mm_i16, mm_i17, mm_i18, mm_i19, mm_i20, mm_i21, mm_i22, mm_i23, mm_l3, mm_l4, mm_l5, mm_l6, mm_l7, mm_l18, mm_l19, mm_l20, mm_l21, mm_l22, kdX1_dropStreet, ct_X1_dropStreet, flX1]
    have e4 : M 2 4 = n := by rw [hf 2 (by simp)]; exact hn
    rw [e4]
    exact ⟨⟨by omega, by omega⟩, ⟨by omega, by omega⟩, fun _ => hq M ⟨ht, hf, h1, fun j hj hj2 => h2 j hj (by omega)⟩, fun h => by omega⟩
  | succ k ih =>
    intro i M hi hsi ht hf h1 h2 h3
    refine mm_run_at (stop := [15]) (S := rr_X1_dropStreet Q) kkX1_dropStreet 60 ?_ (fun _ _ _ _ _ _ _ h => h)
    simp only [mm_wp, mm_op, mm_nxt, mm_jmp, mm_at, mm_in, mm_nth, mm_set, mm_ok, mm_isL, mm_ret, mm_isRet, mm_bool, mm_call, mm_push, mm_rv, mm_cats, mm_cat, mm_look, mm_ft, mm_fv, mm_pf, mm_thr, mm_ent, mm_pad, mm_fl, beq_self_eq_true, cond_true, cond_false, Nat.reduceBEq, Nat.reduceEqDiff, List.drop_succ_cons, List.drop_zero, List.take_succ_cons, List.take_zero, List.reverse_cons, List.reverse_nil, List.nil_append, List.cons_append, List.length_cons, List.length_nil, Nat.reduceAdd, Nat.reduceSub, Nat.reduceLeDiff, Bool.not_false, Bool.and_true, Bool.true_and, Nat.zero_add, true_and, and_true, Nat.le_refl, true_or, or_true, reduceCtorEq, Nat.add_zero, Nat.reduceLT, Bool.and_self, Bool.not_true, Fin.isValue, Nat.reduceLeDiff, List.take_nil, List.drop_nil, mm_i1, mm_i2, mm_i3, mm_i4, mm_i5, mm_i6, mm_i7, mm_i16, mm_i17, mm_i18, mm_i19, mm_i20, mm_i21, mm_i22, mm_i23, mm_l3, mm_l4, mm_l5, mm_l6, mm_l7, mm_l18, mm_l19, mm_l20, mm_l21, mm_l22, kdX1_dropStreet, ct_X1_dropStreet, flX1]
    have e4 : M 2 4 = n := by rw [hf 2 (by simp)]; exact hn
    have e5 : ((i : Int) + 1).toNat = i + 1 := by omega
    have e6 : ∀ v : Int, mm_up M 3 i v 4 = M 4 := fun v => by funext k; simp [mm_up]
    simp only [e4, e5, Int.toNat_natCast, e6]
    obtain ⟨t1, t2, t3, t4, t5⟩ := id ht
    have b1 := t2 (i + 1) (by omega)
    refine ⟨⟨by omega, by omega⟩, ⟨by omega, by omega⟩, fun h => by omega, fun _ => ⟨by omega, by omega, by omega, by omega, ?_⟩⟩
    refine ih (i + 1) (mm_up (mm_up M 3 i (M 3 (i + 1))) 4 i (M 4 (i + 1))) (by omega) (by omega) ⟨by simpa [mm_up] using t1, fun j hj => ?_, by simpa [mm_up] using t3, by simpa [mm_up] using t4, by simpa [mm_up] using t5⟩ ((hf.up (by simp)).up (by simp)) (fun j hj => ?_) (fun j hj hj2 => ?_) (fun j hj => ?_)
    · have b2 := t2 j hj
      simp only [mm_up]
      constructor <;> split <;> first | omega | simp_all
    · have := h1 j hj
      simp [mm_up, show j ≠ i by omega, this]
    · by_cases e : j = i
      · subst e
        have := h3 (j + 1) (by omega)
        simp [mm_up, this]
      · have := h2 j hj (by omega)
        simp [mm_up, e, this]
    · have := h3 j (by omega)
      simp [mm_up, show j ≠ i by omega, this]
set_option maxRecDepth 20000 in
theorem rn_X1_dropStreet : mm_RN flX1 ct_X1_dropStreet mm_x0 [] 0 0 3 kdX1_dropStreet sp_X1_dropStreet := by
  intro av M d Q h
  unfold sp_X1_dropStreet at h
  split at h
  · rename_i o s
    obtain ⟨rfl, ht, hs, hq⟩ := h
    obtain ⟨s, rfl⟩ := Int.eq_ofNat_of_zero_le hs.1
    have h1 := ht.1
    obtain ⟨n, hn⟩ := Int.eq_ofNat_of_zero_le h1.1
    refine ⟨Nat.le_of_ble_eq_true rfl, mm_run_at (stop := [15]) (S := rr_X1_dropStreet Q) kkX1_dropStreet 80 ?_ (fun _ _ _ _ _ _ _ h => h)⟩
    simp only [mm_wp, mm_op, mm_nxt, mm_jmp, mm_at, mm_in, mm_nth, mm_set, mm_ok, mm_isL, mm_ret, mm_isRet, mm_bool, mm_call, mm_push, mm_rv, mm_cats, mm_cat, mm_look, mm_ft, mm_fv, mm_pf, mm_thr, mm_ent, mm_pad, mm_fl, beq_self_eq_true, cond_true, cond_false, Nat.reduceBEq, Nat.reduceEqDiff, List.drop_succ_cons, List.drop_zero, List.take_succ_cons, List.take_zero, List.reverse_cons, List.reverse_nil, List.nil_append, List.cons_append, List.length_cons, List.length_nil, Nat.reduceAdd, Nat.reduceSub, Nat.reduceLeDiff, Bool.not_false, Bool.and_true, Bool.true_and, Nat.zero_add, true_and, and_true, Nat.le_refl, true_or, or_true, reduceCtorEq, Nat.add_zero, Nat.reduceLT, Bool.and_self, Bool.not_true, Fin.isValue, Nat.reduceLeDiff, List.take_nil, List.drop_nil, mm_i1, mm_i2, mm_i3, mm_i4, mm_i5, mm_i6, mm_i7, mm_i16, mm_i17, mm_i18, mm_i19, mm_i20, mm_i21, mm_i22, mm_i23, mm_l3, mm_l4, mm_l5, mm_l6, mm_l7, mm_l18, mm_l19, mm_l20, mm_l21, mm_l22, kdX1_dropStreet, ct_X1_dropStreet, flX1]
    rw [hn] at hs h1 ⊢
    refine ⟨⟨by omega, by omega⟩, fun h => by omega, fun _ => ⟨⟨by omega, by omega⟩, ⟨by omega, by omega⟩, fun _ => ?_, fun h => by omega⟩⟩
    refine lp_X1_dropStreet (n := n) (x2 := 0) (by omega) (by omega) hn (fun M' hM => hq _ ?_) (n - s - 1) s M (by omega) (Nat.le_refl _) ht fr.rf (fun _ _ => ⟨rfl, rfl⟩) (fun j a b => by omega) (fun _ _ => ⟨rfl, rfl⟩)
    obtain ⟨⟨t1, t2, t3, t4, t5⟩, q2, q3, q4⟩ := hM
    have e2 := q2 2 (by simp)
    refine ⟨⟨by simp [mm_up]; omega, by simpa [mm_up] using t2, by simpa [mm_up] using t3, by simpa [mm_up] using t4, by simpa [mm_up] using t5⟩, (q2.mono (by simp)).up (by simp), fun j hj => by simp [mm_up, hj, e2], by simp [mm_up, hn], fun i hi => by simpa [mm_up] using q3 i (by omega), fun i hi hi2 => by simpa [mm_up] using q4 i (by omega) (by omega)⟩
  · exact h.elim
theorem me_X1_dropStreet {l : Launch} (hl : l.stackTraces = false) : mm_Met l yX1_dropStreet cX1_dropStreet 3 none [] 6 100 0 sp_X1_dropStreet := mm_mt hl rn_X1_dropStreet ⟨by decide, rfl⟩ kkX1_dropStreet rfl ⟨by decide, by decide⟩ flkX1 (fun _ h => nomatch h) (trivial) (mm_xe0 _)
def sp_X1_swapEnds : mm_S := fun av M d Q => match av with
  | [.inr (.inr (.inl o))] =>  o = 2 ∧ tW M ∧ ∀ M', tW M' ∧ fr [3, 4] M M' ∧ (∀ i : Nat, i < M 2 4 → M' 3 i = M 4 i ∧ M' 4 i = M 3 i) → Q (.inl none) M' d
  | _ => False
def ct_X1_swapEnds : List (Nat × mm_Ca) := []
abbrev rr_X1_swapEnds (Q : mm_Q) := mm_run (mm_look flX1) (mm_look ct_X1_swapEnds) mm_x0 (mm_look ([] : List (Nat × Int))) (fun _ => none) 0 0 (fun _ _ => none) Q kdX1_swapEnds
set_option maxRecDepth 20000 in
theorem lp_X1_swapEnds {M0 : mm_M} {d : List Nat} {Q : mm_Q} {n : Nat} (h30 : n ≤ 30) (hn : M0 2 4 = n) (hq : ∀ M', tW M' ∧ fr [3, 4] M0 M' ∧ (∀ i : Nat, i < n → M' 3 i = M0 4 i ∧ M' 4 i = M0 3 i) → Q (.inl none) M' d) : ∀ (k i : Nat) (M : mm_M) (x2 : Option mm_V), i + k = n → tW M → fr [3, 4] M0 M → (∀ j : Nat, j < i → M 3 j = M0 4 j ∧ M 4 j = M0 3 j) → (∀ j : Nat, i ≤ j → M 3 j = M0 3 j ∧ M 4 j = M0 4 j) → rr_X1_swapEnds Q 2 [some (mm_R 2), some (mm_I i), x2] [] M d 0 := by
  intro k
  induction k with
  | zero =>
    intro i M x2 hi ht hf h1 h3
    refine mm_run_at (stop := [2]) (S := rr_X1_swapEnds Q) kkX1_swapEnds 60 ?_ (fun _ _ _ _ _ _ _ h => h)
    simp only [mm_wp, mm_op, mm_nxt, mm_jmp, mm_at, mm_in, mm_nth, mm_set, mm_ok, mm_isL, mm_ret, mm_isRet, mm_bool, mm_call, mm_push, mm_rv, mm_cats, mm_cat, mm_look, mm_ft, mm_fv, mm_pf, mm_thr, mm_ent, mm_pad, mm_fl, beq_self_eq_true, cond_true, cond_false, Nat.reduceBEq, Nat.reduceEqDiff, List.drop_succ_cons, List.drop_zero, List.take_succ_cons, List.take_zero, List.reverse_cons, List.reverse_nil, List.nil_append, List.cons_append, List.length_cons, List.length_nil, Nat.reduceAdd, Nat.reduceSub, Nat.reduceLeDiff, Bool.not_false, Bool.and_true, Bool.true_and, Nat.zero_add, true_and, and_true, Nat.le_refl, true_or, or_true, reduceCtorEq, Nat.add_zero, Nat.reduceLT, Bool.and_self, Bool.not_true, Fin.isValue, Nat.reduceLeDiff, List.take_nil, List.drop_nil, mm_i1, mm_i2, mm_i3, mm_i4, mm_i5, mm_i6, mm_i7, mm_i16, mm_i17, mm_i18, mm_i19, mm_i20, mm_i21, mm_i22, mm_i23, mm_l3, mm_l4, mm_l5, mm_l6, mm_l7, mm_l18, mm_l19, mm_l20, mm_l21, mm_l22, kdX1_swapEnds, ct_X1_swapEnds, flX1]
    have e4 : M 2 4 = n := by rw [hf 2 (by simp)]; exact hn
    rw [e4]
    exact ⟨⟨by omega, by omega⟩, ⟨by omega, by omega⟩, fun _ => hq M ⟨ht, hf, fun j hj => h1 j (by omega)⟩, fun h => by omega⟩
  | succ k ih =>
    intro i M x2 hi ht hf h1 h3
    refine mm_run_at (stop := [2]) (S := rr_X1_swapEnds Q) kkX1_swapEnds 60 ?_ (fun _ _ _ _ _ _ _ h => h)
    simp only [mm_wp, mm_op, mm_nxt, mm_jmp, mm_at, mm_in, mm_nth, mm_set, mm_ok, mm_isL, mm_ret, mm_isRet, mm_bool, mm_call, mm_push, mm_rv, mm_cats, mm_cat, mm_look, mm_ft, mm_fv, mm_pf, mm_thr, mm_ent, mm_pad, mm_fl, beq_self_eq_true, cond_true, cond_false, Nat.reduceBEq, Nat.reduceEqDiff, List.drop_succ_cons, List.drop_zero, List.take_succ_cons, List.take_zero, List.reverse_cons, List.reverse_nil, List.nil_append, List.cons_append, List.length_cons, List.length_nil, Nat.reduceAdd, Nat.reduceSub, Nat.reduceLeDiff, Bool.not_false, Bool.and_true, Bool.true_and, Nat.zero_add, true_and, and_true, Nat.le_refl, true_or, or_true, reduceCtorEq, Nat.add_zero, Nat.reduceLT, Bool.and_self, Bool.not_true, Fin.isValue, Nat.reduceLeDiff, List.take_nil, List.drop_nil, mm_i1, mm_i2, mm_i3, mm_i4, mm_i5, mm_i6, mm_i7, mm_i16, mm_i17, mm_i18, mm_i19, mm_i20, mm_i21, mm_i22, mm_i23, mm_l3, mm_l4, mm_l5, mm_l6, mm_l7, mm_l18, mm_l19, mm_l20, mm_l21, mm_l22, kdX1_swapEnds, ct_X1_swapEnds, flX1]
    have e4 : M 2 4 = n := by rw [hf 2 (by simp)]; exact hn
    have e6 : ∀ v : Int, mm_up M 3 i v 4 = M 4 := fun v => by funext k; simp [mm_up]
    simp only [e4, Int.toNat_natCast, e6]
    obtain ⟨t1, t2, t3, t4, t5⟩ := id ht
    have b1 := t2 i (by omega)
    refine ⟨⟨by omega, by omega⟩, ⟨by omega, by omega⟩, fun h => by omega, fun _ => ⟨by omega, by omega, by omega, by omega, ?_⟩⟩
    refine ih (i + 1) (mm_up (mm_up M 3 i (M 4 i)) 4 i (M 3 i)) _ (by omega) ⟨by simpa [mm_up] using t1, fun j hj => ?_, by simpa [mm_up] using t3, by simpa [mm_up] using t4, by simpa [mm_up] using t5⟩ ((hf.up (by simp)).up (by simp)) (fun j hj => ?_) (fun j hj => ?_)
    · have b2 := t2 j hj
      simp only [mm_up]
      constructor <;> split <;> first | omega | simp_all
    · by_cases e : j = i
      · subst e
        have := h3 j (by omega)
        simp [mm_up, this]
      · have := h1 j (by omega)
        simp [mm_up, e, this]
    · have := h3 j (by omega)
      simp [mm_up, show j ≠ i by omega, this]
set_option maxRecDepth 20000 in
theorem rn_X1_swapEnds : mm_RN flX1 ct_X1_swapEnds mm_x0 [] 0 0 3 kdX1_swapEnds sp_X1_swapEnds := by
  intro av M d Q h
  unfold sp_X1_swapEnds at h
  split at h
  · rename_i o
    obtain ⟨rfl, ht, hq⟩ := h
    have h1 := ht.1
    obtain ⟨n, hn⟩ := Int.eq_ofNat_of_zero_le h1.1
    refine ⟨Nat.le_of_ble_eq_true rfl, mm_run_at (stop := [2]) (S := rr_X1_swapEnds Q) kkX1_swapEnds 80 ?_ (fun _ _ _ _ _ _ _ h => h)⟩
    simp only [mm_wp, mm_op, mm_nxt, mm_jmp, mm_at, mm_in, mm_nth, mm_set, mm_ok, mm_isL, mm_ret, mm_isRet, mm_bool, mm_call, mm_push, mm_rv, mm_cats, mm_cat, mm_look, mm_ft, mm_fv, mm_pf, mm_thr, mm_ent, mm_pad, mm_fl, beq_self_eq_true, cond_true, cond_false, Nat.reduceBEq, Nat.reduceEqDiff, List.drop_succ_cons, List.drop_zero, List.take_succ_cons, List.take_zero, List.reverse_cons, List.reverse_nil, List.nil_append, List.cons_append, List.length_cons, List.length_nil, Nat.reduceAdd, Nat.reduceSub, Nat.reduceLeDiff, Bool.not_false, Bool.and_true, Bool.true_and, Nat.zero_add, true_and, and_true, Nat.le_refl, true_or, or_true, reduceCtorEq, Nat.add_zero, Nat.reduceLT, Bool.and_self, Bool.not_true, Fin.isValue, Nat.reduceLeDiff, List.take_nil, List.drop_nil, mm_i1, mm_i2, mm_i3, mm_i4, mm_i5, mm_i6, mm_i7, mm_i16, mm_i17, mm_i18, mm_i19, mm_i20, mm_i21, mm_i22, mm_i23, mm_l3, mm_l4, mm_l5, mm_l6, mm_l7, mm_l18, mm_l19, mm_l20, mm_l21, mm_l22, kdX1_swapEnds, ct_X1_swapEnds, flX1]
    exact lp_X1_swapEnds (n := n) (by omega) hn (fun M' h => hq M' ⟨h.1, h.2.1, fun i hi => h.2.2 i (by omega)⟩) n 0 M none (by omega) ht fr.rf (fun j hj => by omega) (fun _ _ => ⟨rfl, rfl⟩)
  · exact h.elim
theorem me_X1_swapEnds {l : Launch} (hl : l.stackTraces = false) : mm_Met l yX1_swapEnds cX1_swapEnds 3 none [] 6 100 0 sp_X1_swapEnds := mm_mt hl rn_X1_swapEnds ⟨by decide, rfl⟩ kkX1_swapEnds rfl ⟨by decide, by decide⟩ flkX1 (fun _ h => nomatch h) (trivial) (mm_xe0 _)
end
section
/-! the class's town: sets of streets -/
theorem sh_in {a : Int} {k : Nat} (h : 0 ≤ a ∧ a < 2147483648) : InI (a / 2 ^ k) := by
  have hp : (0 : Int) < 2 ^ k := Int.pow_pos (by decide)
  have h1 := Int.ediv_nonneg h.1 (Int.le_of_lt hp)
  have h2 := Int.ediv_le_self (2 ^ k) h.1
  exact ⟨by omega, by omega⟩
def sp_X1_isIn : mm_S := fun av M d Q => match av with
  | [.inl a, .inl s] =>  (0 ≤ a ∧ a < 2147483648) ∧ (0 ≤ s ∧ s < 31) ∧ ∀ r, (bt a s.toNat = 1 → r = 1) ∧ (bt a s.toNat = 0 → r = 0) → Q (.inl (some (mm_I r))) M d
  | _ => False
def ct_X1_isIn : List (Nat × mm_Ca) := []
abbrev rr_X1_isIn (Q : mm_Q) := mm_run (mm_look flX1) (mm_look ct_X1_isIn) mm_x0 (mm_look ([] : List (Nat × Int))) (fun _ => none) 2 0 (fun _ _ => none) Q kdX1_isIn
set_option maxRecDepth 20000 in
theorem rn_X1_isIn : mm_RN flX1 ct_X1_isIn mm_x0 [] 2 0 2 kdX1_isIn sp_X1_isIn := by
  intro av M d Q h
  unfold sp_X1_isIn at h
  split at h
  · rename_i a s
    obtain ⟨ha, hs, hq⟩ := h
    have hi : InI (a / 2 ^ s.toNat) := sh_in ha
    refine ⟨Nat.le_of_ble_eq_true rfl, mm_run_at (stop := []) (S := mm_F0) kkX1_isIn 80 ?_ mm_F0h⟩
    simp only [mm_wp, mm_op, mm_nxt, mm_jmp, mm_at, mm_in, mm_nth, mm_set, mm_ok, mm_isL, mm_ret, mm_isRet, mm_bool, mm_call, mm_push, mm_rv, mm_cats, mm_cat, mm_look, mm_ft, mm_fv, mm_pf, mm_thr, mm_ent, mm_pad, mm_fl, beq_self_eq_true, cond_true, cond_false, Nat.reduceBEq, Nat.reduceEqDiff, List.drop_succ_cons, List.drop_zero, List.take_succ_cons, List.take_zero, List.reverse_cons, List.reverse_nil, List.nil_append, List.cons_append, List.length_cons, List.length_nil, Nat.reduceAdd, Nat.reduceSub, Nat.reduceLeDiff, Bool.not_false, Bool.and_true, Bool.true_and, Nat.zero_add, true_and, and_true, Nat.le_refl, true_or, or_true, reduceCtorEq, Nat.add_zero, Nat.reduceLT, Bool.and_self, Bool.not_true, Fin.isValue, Nat.reduceLeDiff, List.take_nil, List.drop_nil, mm_i1, mm_i2, mm_i3, mm_i4, mm_i5, mm_i6, mm_i7, mm_i16, mm_i17, mm_i18, mm_i19, mm_i20, mm_i21, mm_i22, mm_i23, mm_l3, mm_l4, mm_l5, mm_l6, mm_l7, mm_l18, mm_l19, mm_l20, mm_l21, mm_l22, kdX1_isIn, ct_X1_isIn, flX1, mm_and1 hi]
    have hb := bt_01 a s.toNat
    rw [show a / 2 ^ s.toNat % 2 = bt a s.toNat from rfl]
    repeat' (first | assumption | apply And.intro | (intro _) | apply hq)
    all_goals (try simp only [InI] at *)
    all_goals first | omega | ((repeat' split) <;> omega)
  · exact h.elim
theorem me_X1_isIn {l : Launch} (hl : l.stackTraces = false) : mm_Met l yX1_isIn cX1_isIn 2 (some .boolean) [] 6 100 0 sp_X1_isIn := mm_mt hl rn_X1_isIn ⟨by decide, rfl⟩ kkX1_isIn rfl ⟨by decide, by decide⟩ flkX1 (fun _ h => nomatch h) (trivial) (mm_xe0 _)
def sp_X1_countWays : mm_S := fun av M d Q => match av with
  | [.inr (.inr (.inl o)), .inl S] =>  o = 2 ∧ tW M ∧ (0 ≤ S ∧ S < 1073741824) ∧ ∀ M', fr [5, 6] M M' ∧ (∀ c : Nat, c < 10 → M' 5 c = oc (M 3) S c (M 2 4).toNat ∧ M' 6 c = oc (M 4) S c (M 2 4).toNat) → Q (.inl none) M' d
  | _ => False
def ct_X1_countWays : List (Nat × mm_Ca) := []
abbrev rr_X1_countWays (Q : mm_Q) := mm_run (mm_look flX1) (mm_look ct_X1_countWays) mm_x0 (mm_look ([] : List (Nat × Int))) (fun _ => none) 0 0 (fun _ _ => none) Q kdX1_countWays
set_option maxRecDepth 20000 in
theorem lp2_X1_countWays {M0 : mm_M} {d : List Nat} {Q : mm_Q} {S : Int} {n : Nat} (ht : tW M0) (hS : 0 ≤ S ∧ S < 1073741824) (hn : M0 2 4 = n) (hq : ∀ M', fr [5, 6] M0 M' ∧ (∀ c : Nat, c < 10 → M' 5 c = oc (M0 3) S c n ∧ M' 6 c = oc (M0 4) S c n) → Q (.inl none) M' d) : ∀ (k i : Nat) (M : mm_M) (x3 : Option mm_V), i + k = n → fr [5, 6] M0 M → (∀ c : Nat, c < 10 → M 5 c = oc (M0 3) S c i ∧ M 6 c = oc (M0 4) S c i) → rr_X1_countWays Q 30 [some (mm_R 2), some (mm_I S), some (mm_I i), x3] [] M d 0 := by
  obtain ⟨t1, t2, t3, t4, t5⟩ := id ht
  intro k
  induction k with
  | zero =>
    intro i M x3 hi hf h1
    refine mm_run_at (stop := [30]) (S := rr_X1_countWays Q) kkX1_countWays 60 ?_ (fun _ _ _ _ _ _ _ h => h)
    simp only [mm_wp, mm_op, mm_nxt, mm_jmp, mm_at, mm_in, mm_nth, mm_set, mm_ok, mm_isL, mm_ret, mm_isRet, mm_bool, mm_call, mm_push, mm_rv, mm_cats, mm_cat, mm_look, mm_ft, mm_fv, mm_pf, mm_thr, mm_ent, mm_pad, mm_fl, beq_self_eq_true, cond_true, cond_false, Nat.reduceBEq, Nat.reduceEqDiff, List.drop_succ_cons, List.drop_zero, List.take_succ_cons, List.take_zero, List.reverse_cons, List.reverse_nil, List.nil_append, List.cons_append, List.length_cons, List.length_nil, Nat.reduceAdd, Nat.reduceSub, Nat.reduceLeDiff, Bool.not_false, Bool.and_true, Bool.true_and, Nat.zero_add, true_and, and_true, Nat.le_refl, true_or, or_true, reduceCtorEq, Nat.add_zero, Nat.reduceLT, Bool.and_self, Bool.not_true, Fin.isValue, Nat.reduceLeDiff, List.take_nil, List.drop_nil, mm_i1, mm_i2, mm_i3, mm_i4, mm_i5, mm_i6, mm_i7, mm_i16, mm_i17, mm_i18, mm_i19, mm_i20, mm_i21, mm_i22, mm_i23, mm_l3, mm_l4, mm_l5, mm_l6, mm_l7, mm_l18, mm_l19, mm_l20, mm_l21, mm_l22, kdX1_countWays, ct_X1_countWays, flX1]
    have e4 : M 2 4 = n := by rw [hf 2 (by simp)]; exact hn
    rw [e4]
    have e : i = n := by omega
    subst e
    exact ⟨⟨by omega, by omega⟩, ⟨by omega, by omega⟩, fun _ => hq M ⟨hf, h1⟩, fun h => by omega⟩
  | succ k ih =>
    intro i M x3 hi hf h1
    have hi2 : InI (S / 2 ^ (i : Int).toNat) := sh_in ⟨hS.1, by omega⟩
    refine mm_run_at (stop := [30]) (S := rr_X1_countWays Q) kkX1_countWays 60 ?_ (fun _ _ _ _ _ _ _ h => h)
    simp only [mm_wp, mm_op, mm_nxt, mm_jmp, mm_at, mm_in, mm_nth, mm_set, mm_ok, mm_isL, mm_ret, mm_isRet, mm_bool, mm_call, mm_push, mm_rv, mm_cats, mm_cat, mm_look, mm_ft, mm_fv, mm_pf, mm_thr, mm_ent, mm_pad, mm_fl, beq_self_eq_true, cond_true, cond_false, Nat.reduceBEq, Nat.reduceEqDiff, List.drop_succ_cons, List.drop_zero, List.take_succ_cons, List.take_zero, List.reverse_cons, List.reverse_nil, List.nil_append, List.cons_append, List.length_cons, List.length_nil, Nat.reduceAdd, Nat.reduceSub, Nat.reduceLeDiff, Bool.not_false, Bool.and_true, Bool.true_and, Nat.zero_add, true_and, and_true, Nat.le_refl, true_or, or_true, reduceCtorEq, Nat.add_zero, Nat.reduceLT, Bool.and_self, Bool.not_true, Fin.isValue, Nat.reduceLeDiff, List.take_nil, List.drop_nil, mm_i1, mm_i2, mm_i3, mm_i4, mm_i5, mm_i6, mm_i7, mm_i16, mm_i17, mm_i18, mm_i19, mm_i20, mm_i21, mm_i22, mm_i23, mm_l3, mm_l4, mm_l5, mm_l6, mm_l7, mm_l18, mm_l19, mm_l20, mm_l21, mm_l22, kdX1_countWays, ct_X1_countWays, flX1, mm_and1 hi2]
    have e2 : M 2 = M0 2 := hf 2 (by simp)
    have e3 : M 3 = M0 3 := hf 3 (by simp)
    have e4 : M 4 = M0 4 := hf 4 (by simp)
    have e6 : ∀ k v, mm_up M 5 k v 4 = M 4 := fun k v => by funext j; simp [mm_up]
    have e7 : ∀ k v, mm_up M 5 k v 6 = M 6 := fun k v => by funext j; simp [mm_up]
    simp only [e6, e7, e2, e3, e4, hn, Int.toNat_natCast]
    have b1 := t2 i (by omega)
    rw [show S / 2 ^ i % 2 = bt S i from rfl]
    have hb := bt_01 S i
    refine ⟨⟨by omega, by omega⟩, ⟨by omega, by omega⟩, fun h => by omega, fun _ => ⟨⟨by omega, by omega⟩, by omega, by omega, by omega, by omega, by omega, by omega, by omega, ?_⟩⟩
    refine ih (i + 1) _ _ (by omega) ((hf.up (by simp)).up (by simp)) (fun c hc => ?_)
    have h2 := h1 c hc
    have h3 := h1 (M0 3 i).toNat (by omega)
    have h4 := h1 (M0 4 i).toNat (by omega)
    constructor
    · simp only [mm_up, oc]
      by_cases e : M0 3 i = c
      · have e' : c = (M0 3 i).toNat := by omega
        rw [if_pos e]
        simp [e', h3.1]
      · have e' : ¬ c = (M0 3 i).toNat := by omega
        rw [if_neg e]
        simp [e', h2.1]
    · simp only [mm_up, oc]
      by_cases e : M0 4 i = c
      · have e' : c = (M0 4 i).toNat := by omega
        rw [if_pos e]
        simp [e', h4.2]
      · have e' : ¬ c = (M0 4 i).toNat := by omega
        rw [if_neg e]
        simp [e', h2.2]
set_option maxRecDepth 20000 in
theorem lp_X1_countWays {M0 : mm_M} {d : List Nat} {Q : mm_Q} {S : Int} {n : Nat} (ht : tW M0) (hS : 0 ≤ S ∧ S < 1073741824) (hn : M0 2 4 = n) (hq : ∀ M', fr [5, 6] M0 M' ∧ (∀ c : Nat, c < 10 → M' 5 c = oc (M0 3) S c n ∧ M' 6 c = oc (M0 4) S c n) → Q (.inl none) M' d) : ∀ (k i : Nat) (M : mm_M), i + k = 10 → fr [5, 6] M0 M → (∀ c : Nat, c < i → M 5 c = 0 ∧ M 6 c = 0) → rr_X1_countWays Q 2 [some (mm_R 2), some (mm_I S), some (mm_I i), none] [] M d 0 := by
  intro k
  induction k with
  | zero =>
    intro i M hi hf h1
    refine mm_run_at (stop := [2, 30]) (S := rr_X1_countWays Q) kkX1_countWays 60 ?_ (fun _ _ _ _ _ _ _ h => h)
    simp only [mm_wp, mm_op, mm_nxt, mm_jmp, mm_at, mm_in, mm_nth, mm_set, mm_ok, mm_isL, mm_ret, mm_isRet, mm_bool, mm_call, mm_push, mm_rv, mm_cats, mm_cat, mm_look, mm_ft, mm_fv, mm_pf, mm_thr, mm_ent, mm_pad, mm_fl, beq_self_eq_true, cond_true, cond_false, Nat.reduceBEq, Nat.reduceEqDiff, List.drop_succ_cons, List.drop_zero, List.take_succ_cons, List.take_zero, List.reverse_cons, List.reverse_nil, List.nil_append, List.cons_append, List.length_cons, List.length_nil, Nat.reduceAdd, Nat.reduceSub, Nat.reduceLeDiff, Bool.not_false, Bool.and_true, Bool.true_and, Nat.zero_add, true_and, and_true, Nat.le_refl, true_or, or_true, reduceCtorEq, Nat.add_zero, Nat.reduceLT, Bool.and_self, Bool.not_true, Fin.isValue, Nat.reduceLeDiff, List.take_nil, List.drop_nil, mm_i1, mm_i2, mm_i3, mm_i4, mm_i5, mm_i6, mm_i7, mm_i16, mm_i17, mm_i18, mm_i19, mm_i20, mm_i21, mm_i22, mm_i23, mm_l3, mm_l4, mm_l5, mm_l6, mm_l7, mm_l18, mm_l19, mm_l20, mm_l21, mm_l22, kdX1_countWays, ct_X1_countWays, flX1]
    refine ⟨by omega, ⟨by omega, by omega⟩, ⟨by omega, by omega⟩, fun _ => ?_, fun h => by omega⟩
    exact lp2_X1_countWays ht hS hn hq n 0 M none (by omega) hf (fun c hc => by simpa [oc] using h1 c (by omega))
  | succ k ih =>
    intro i M hi hf h1
    refine mm_run_at (stop := [2, 30]) (S := rr_X1_countWays Q) kkX1_countWays 60 ?_ (fun _ _ _ _ _ _ _ h => h)
    simp only [mm_wp, mm_op, mm_nxt, mm_jmp, mm_at, mm_in, mm_nth, mm_set, mm_ok, mm_isL, mm_ret, mm_isRet, mm_bool, mm_call, mm_push, mm_rv, mm_cats, mm_cat, mm_look, mm_ft, mm_fv, mm_pf, mm_thr, mm_ent, mm_pad, mm_fl, beq_self_eq_true, cond_true, cond_false, Nat.reduceBEq, Nat.reduceEqDiff, List.drop_succ_cons, List.drop_zero, List.take_succ_cons, List.take_zero, List.reverse_cons, List.reverse_nil, List.nil_append, List.cons_append, List.length_cons, List.length_nil, Nat.reduceAdd, Nat.reduceSub, Nat.reduceLeDiff, Bool.not_false, Bool.and_true, Bool.true_and, Nat.zero_add, true_and, and_true, Nat.le_refl, true_or, or_true, reduceCtorEq, Nat.add_zero, Nat.reduceLT, Bool.and_self, Bool.not_true, Fin.isValue, Nat.reduceLeDiff, List.take_nil, List.drop_nil, mm_i1, mm_i2, mm_i3, mm_i4, mm_i5, mm_i6, mm_i7, mm_i16, mm_i17, mm_i18, mm_i19, mm_i20, mm_i21, mm_i22, mm_i23, mm_l3, mm_l4, mm_l5, mm_l6, mm_l7, mm_l18, mm_l19, mm_l20, mm_l21, mm_l22, kdX1_countWays, ct_X1_countWays, flX1]
    simp only [Int.toNat_natCast]
    refine ⟨by omega, ⟨by omega, by omega⟩, ⟨by omega, by omega⟩, fun h => by omega, fun _ => ⟨by omega, by omega, ?_⟩⟩
    refine ih (i + 1) _ (by omega) ((hf.up (by simp)).up (by simp)) (fun c hc => ?_)
    by_cases e : c = i
    · simp [mm_up, e]
    · have := h1 c (by omega)
      simp [mm_up, e, this]
set_option maxRecDepth 20000 in
theorem rn_X1_countWays : mm_RN flX1 ct_X1_countWays mm_x0 [] 0 0 4 kdX1_countWays sp_X1_countWays := by
  intro av M d Q h
  unfold sp_X1_countWays at h
  split at h
  · rename_i o S
    obtain ⟨rfl, ht, hS, hq⟩ := h
    have h1 := ht.1
    obtain ⟨n, hn⟩ := Int.eq_ofNat_of_zero_le h1.1
    refine ⟨Nat.le_of_ble_eq_true rfl, mm_run_at (stop := [2]) (S := rr_X1_countWays Q) kkX1_countWays 80 ?_ (fun _ _ _ _ _ _ _ h => h)⟩
    simp only [mm_wp, mm_op, mm_nxt, mm_jmp, mm_at, mm_in, mm_nth, mm_set, mm_ok, mm_isL, mm_ret, mm_isRet, mm_bool, mm_call, mm_push, mm_rv, mm_cats, mm_cat, mm_look, mm_ft, mm_fv, mm_pf, mm_thr, mm_ent, mm_pad, mm_fl, beq_self_eq_true, cond_true, cond_false, Nat.reduceBEq, Nat.reduceEqDiff, List.drop_succ_cons, List.drop_zero, List.take_succ_cons, List.take_zero, List.reverse_cons, List.reverse_nil, List.nil_append, List.cons_append, List.length_cons, List.length_nil, Nat.reduceAdd, Nat.reduceSub, Nat.reduceLeDiff, Bool.not_false, Bool.and_true, Bool.true_and, Nat.zero_add, true_and, and_true, Nat.le_refl, true_or, or_true, reduceCtorEq, Nat.add_zero, Nat.reduceLT, Bool.and_self, Bool.not_true, Fin.isValue, Nat.reduceLeDiff, List.take_nil, List.drop_nil, mm_i1, mm_i2, mm_i3, mm_i4, mm_i5, mm_i6, mm_i7, mm_i16, mm_i17, mm_i18, mm_i19, mm_i20, mm_i21, mm_i22, mm_i23, mm_l3, mm_l4, mm_l5, mm_l6, mm_l7, mm_l18, mm_l19, mm_l20, mm_l21, mm_l22, kdX1_countWays, ct_X1_countWays, flX1]
    exact lp_X1_countWays ht hS hn (fun M' h => hq M' (by rw [hn]; exact h)) 10 0 M (by omega) fr.rf (fun c hc => by omega)
  · exact h.elim
theorem me_X1_countWays {l : Launch} (hl : l.stackTraces = false) : mm_Met l yX1_countWays cX1_countWays 4 none [] 6 100 0 sp_X1_countWays := mm_mt hl rn_X1_countWays ⟨by decide, rfl⟩ kkX1_countWays rfl ⟨by decide, by decide⟩ flkX1 (fun _ h => nomatch h) (trivial) (mm_xe0 _)
def sp_X1_outOf : mm_S := fun av M d Q => match av with
  | [.inr (.inr (.inl o)), .inl c] =>  o = 2 ∧ tW M ∧ (0 ≤ c ∧ c < 10) ∧ ∀ M' r, fr [5, 6] M M' ∧ r = oc (M 3) (2 ^ (M 2 4).toNat - 1) c (M 2 4).toNat ∧ 0 ≤ r ∧ r ≤ 30 → Q (.inl (some (mm_I r))) M' d
  | _ => False
def ct_X1_outOf : List (Nat × mm_Ca) := [(66, (0, 1, 11, sp_X1_allStreets, 0)), (70, (0, 2, 11, sp_X1_countWays, 0)), (38, (1, 1, 0, sp_X1_isCorner, 0))]
abbrev rr_X1_outOf (Q : mm_Q) := mm_run (mm_look flX1) (mm_look ct_X1_outOf) mm_x0 (mm_look ([] : List (Nat × Int))) (fun _ => none) 1 0 (fun _ _ => none) Q kdX1_outOf
set_option maxRecDepth 20000 in
theorem rn_X1_outOf : mm_RN flX1 ct_X1_outOf mm_x0 [] 1 0 2 kdX1_outOf sp_X1_outOf := by
  intro av M d Q h
  unfold sp_X1_outOf at h
  split at h
  · rename_i o c
    obtain ⟨rfl, ht, hc, hq⟩ := h
    have h1 := ht.1
    have ho := oc_le (M 3) (2 ^ (M 2 4).toNat - 1) c (M 2 4).toNat
    refine ⟨Nat.le_of_ble_eq_true rfl, mm_run_at (stop := []) (S := mm_F0) kkX1_outOf 80 ?_ mm_F0h⟩
    simp only [mm_wp, mm_op, mm_nxt, mm_jmp, mm_at, mm_in, mm_nth, mm_set, mm_ok, mm_isL, mm_ret, mm_isRet, mm_bool, mm_call, mm_push, mm_rv, mm_cats, mm_cat, mm_look, mm_ft, mm_fv, mm_pf, mm_thr, mm_ent, mm_pad, mm_fl, beq_self_eq_true, cond_true, cond_false, Nat.reduceBEq, Nat.reduceEqDiff, List.drop_succ_cons, List.drop_zero, List.take_succ_cons, List.take_zero, List.reverse_cons, List.reverse_nil, List.nil_append, List.cons_append, List.length_cons, List.length_nil, Nat.reduceAdd, Nat.reduceSub, Nat.reduceLeDiff, Bool.not_false, Bool.and_true, Bool.true_and, Nat.zero_add, true_and, and_true, Nat.le_refl, true_or, or_true, reduceCtorEq, Nat.add_zero, Nat.reduceLT, Bool.and_self, Bool.not_true, Fin.isValue, Nat.reduceLeDiff, List.take_nil, List.drop_nil, mm_i1, mm_i2, mm_i3, mm_i4, mm_i5, mm_i6, mm_i7, mm_i16, mm_i17, mm_i18, mm_i19, mm_i20, mm_i21, mm_i22, mm_i23, mm_l3, mm_l4, mm_l5, mm_l6, mm_l7, mm_l18, mm_l19, mm_l20, mm_l21, mm_l22, kdX1_outOf, ct_X1_outOf, flX1, sp_X1_allStreets, sp_X1_countWays, sp_X1_isCorner]
    refine ⟨ht, fun r hr => ⟨ht, by omega, fun M' h => ⟨⟨by omega, by omega⟩, fun r2 hr2 => ⟨⟨by omega, by omega⟩, fun _ => by omega, fun _ => ⟨by omega, ?_⟩⟩⟩⟩⟩
    have h5 := (h.2 c.toNat (by omega)).1
    rw [hr.1, show ((c.toNat : Nat) : Int) = c by omega] at h5
    exact hq M' _ ⟨h.1, h5, by omega, by omega⟩
  · exact h.elim
theorem me_X1_outOf {l : Launch} (hl : l.stackTraces = false) : mm_Met l yX1_outOf cX1_outOf 2 (some .int) [] 7 123 0 sp_X1_outOf := mm_mt hl rn_X1_outOf ⟨by decide, rfl⟩ kkX1_outOf rfl ⟨by decide, by decide⟩ flkX1 (fun _ h => nomatch h) (⟨mm_pe (me_X1_allStreets hl) mwX1_allStreets (mm_t2 24 rfl rfl) (Nat.le_of_ble_eq_true rfl) (Nat.le_of_ble_eq_true rfl), mm_pe (me_X1_countWays hl) mwX1_countWays (mm_t1 228 rfl rfl) (Nat.le_of_ble_eq_true rfl) (Nat.le_of_ble_eq_true rfl), mm_pe (me_X1_isCorner hl) mwX1_isCorner (mm_t1 236 rfl rfl) (Nat.le_of_ble_eq_true rfl) (Nat.le_of_ble_eq_true rfl), trivial⟩) (mm_xe0 _)
def sp_X1_inOf : mm_S := fun av M d Q => match av with
  | [.inr (.inr (.inl o)), .inl c] =>  o = 2 ∧ tW M ∧ (0 ≤ c ∧ c < 10) ∧ ∀ M' r, fr [5, 6] M M' ∧ r = oc (M 4) (2 ^ (M 2 4).toNat - 1) c (M 2 4).toNat ∧ 0 ≤ r ∧ r ≤ 30 → Q (.inl (some (mm_I r))) M' d
  | _ => False
def ct_X1_inOf : List (Nat × mm_Ca) := [(66, (0, 1, 11, sp_X1_allStreets, 0)), (70, (0, 2, 11, sp_X1_countWays, 0)), (38, (1, 1, 0, sp_X1_isCorner, 0))]
abbrev rr_X1_inOf (Q : mm_Q) := mm_run (mm_look flX1) (mm_look ct_X1_inOf) mm_x0 (mm_look ([] : List (Nat × Int))) (fun _ => none) 1 0 (fun _ _ => none) Q kdX1_inOf
set_option maxRecDepth 20000 in
theorem rn_X1_inOf : mm_RN flX1 ct_X1_inOf mm_x0 [] 1 0 2 kdX1_inOf sp_X1_inOf := by
  intro av M d Q h
  unfold sp_X1_inOf at h
  split at h
  · rename_i o c
    obtain ⟨rfl, ht, hc, hq⟩ := h
    have h1 := ht.1
    have ho := oc_le (M 4) (2 ^ (M 2 4).toNat - 1) c (M 2 4).toNat
    refine ⟨Nat.le_of_ble_eq_true rfl, mm_run_at (stop := []) (S := mm_F0) kkX1_inOf 80 ?_ mm_F0h⟩
    simp only [mm_wp, mm_op, mm_nxt, mm_jmp, mm_at, mm_in, mm_nth, mm_set, mm_ok, mm_isL, mm_ret, mm_isRet, mm_bool, mm_call, mm_push, mm_rv, mm_cats, mm_cat, mm_look, mm_ft, mm_fv, mm_pf, mm_thr, mm_ent, mm_pad, mm_fl, beq_self_eq_true, cond_true, cond_false, Nat.reduceBEq, Nat.reduceEqDiff, List.drop_succ_cons, List.drop_zero, List.take_succ_cons, List.take_zero, List.reverse_cons, List.reverse_nil, List.nil_append, List.cons_append, List.length_cons, List.length_nil, Nat.reduceAdd, Nat.reduceSub, Nat.reduceLeDiff, Bool.not_false, Bool.and_true, Bool.true_and, Nat.zero_add, true_and, and_true, Nat.le_refl, true_or, or_true, reduceCtorEq, Nat.add_zero, Nat.reduceLT, Bool.and_self, Bool.not_true, Fin.isValue, Nat.reduceLeDiff, List.take_nil, List.drop_nil, mm_i1, mm_i2, mm_i3, mm_i4, mm_i5, mm_i6, mm_i7, mm_i16, mm_i17, mm_i18, mm_i19, mm_i20, mm_i21, mm_i22, mm_i23, mm_l3, mm_l4, mm_l5, mm_l6, mm_l7, mm_l18, mm_l19, mm_l20, mm_l21, mm_l22, kdX1_inOf, ct_X1_inOf, flX1, sp_X1_allStreets, sp_X1_countWays, sp_X1_isCorner]
    refine ⟨ht, fun r hr => ⟨ht, by omega, fun M' h => ⟨⟨by omega, by omega⟩, fun r2 hr2 => ⟨⟨by omega, by omega⟩, fun _ => by omega, fun _ => ⟨by omega, ?_⟩⟩⟩⟩⟩
    have h5 := (h.2 c.toNat (by omega)).2
    rw [hr.1, show ((c.toNat : Nat) : Int) = c by omega] at h5
    exact hq M' _ ⟨h.1, h5, by omega, by omega⟩
  · exact h.elim
theorem me_X1_inOf {l : Launch} (hl : l.stackTraces = false) : mm_Met l yX1_inOf cX1_inOf 2 (some .int) [] 7 123 0 sp_X1_inOf := mm_mt hl rn_X1_inOf ⟨by decide, rfl⟩ kkX1_inOf rfl ⟨by decide, by decide⟩ flkX1 (fun _ h => nomatch h) (⟨mm_pe (me_X1_allStreets hl) mwX1_allStreets (mm_t2 24 rfl rfl) (Nat.le_of_ble_eq_true rfl) (Nat.le_of_ble_eq_true rfl), mm_pe (me_X1_countWays hl) mwX1_countWays (mm_t1 228 rfl rfl) (Nat.le_of_ble_eq_true rfl) (Nat.le_of_ble_eq_true rfl), mm_pe (me_X1_isCorner hl) mwX1_isCorner (mm_t1 236 rfl rfl) (Nat.le_of_ble_eq_true rfl) (Nat.le_of_ble_eq_true rfl), trivial⟩) (mm_xe0 _)
def sp_X1_isOddAsCounted : mm_S := fun av M d Q => match av with
  | [.inr (.inr (.inl o)), .inl c] =>  o = 2 ∧ tW M ∧ (0 ≤ c ∧ c < 10) ∧ (0 ≤ M 5 c.toNat ∧ M 5 c.toNat ≤ 30) ∧ (0 ≤ M 6 c.toNat ∧ M 6 c.toNat ≤ 30) ∧ ∀ r, (M 2 5 = 0 → r = (M 5 c.toNat + M 6 c.toNat) % 2) ∧ (M 2 5 ≠ 0 → M 5 c.toNat = M 6 c.toNat → r = 0) ∧ (M 2 5 ≠ 0 → M 5 c.toNat ≠ M 6 c.toNat → r = 1) → Q (.inl (some (mm_I r))) M d
  | _ => False
def ct_X1_isOddAsCounted : List (Nat × mm_Ca) := [(38, (1, 1, 0, sp_X1_isCorner, 0))]
abbrev rr_X1_isOddAsCounted (Q : mm_Q) := mm_run (mm_look flX1) (mm_look ct_X1_isOddAsCounted) mm_x0 (mm_look ([] : List (Nat × Int))) (fun _ => none) 2 0 (fun _ _ => none) Q kdX1_isOddAsCounted
set_option maxRecDepth 20000 in
theorem rn_X1_isOddAsCounted : mm_RN flX1 ct_X1_isOddAsCounted mm_x0 [] 2 0 2 kdX1_isOddAsCounted sp_X1_isOddAsCounted := by
  intro av M d Q h
  unfold sp_X1_isOddAsCounted at h
  split at h
  · rename_i o c
    obtain ⟨rfl, ht, hc, h5, h6, hq⟩ := h
    have h1 := ht.2.2.1
    refine ⟨Nat.le_of_ble_eq_true rfl, mm_run_at (stop := []) (S := mm_F0) kkX1_isOddAsCounted 80 ?_ mm_F0h⟩
    simp only [mm_wp, mm_op, mm_nxt, mm_jmp, mm_at, mm_in, mm_nth, mm_set, mm_ok, mm_isL, mm_ret, mm_isRet, mm_bool, mm_call, mm_push, mm_rv, mm_cats, mm_cat, mm_look, mm_ft, mm_fv, mm_pf, mm_thr, mm_ent, mm_pad, mm_fl, beq_self_eq_true, cond_true, cond_false, Nat.reduceBEq, Nat.reduceEqDiff, List.drop_succ_cons, List.drop_zero, List.take_succ_cons, List.take_zero, List.reverse_cons, List.reverse_nil, List.nil_append, List.cons_append, List.length_cons, List.length_nil, Nat.reduceAdd, Nat.reduceSub, Nat.reduceLeDiff, Bool.not_false, Bool.and_true, Bool.true_and, Nat.zero_add, true_and, and_true, Nat.le_refl, true_or, or_true, reduceCtorEq, Nat.add_zero, Nat.reduceLT, Bool.and_self, Bool.not_true, Fin.isValue, Nat.reduceLeDiff, List.take_nil, List.drop_nil, mm_i1, mm_i2, mm_i3, mm_i4, mm_i5, mm_i6, mm_i7, mm_i16, mm_i17, mm_i18, mm_i19, mm_i20, mm_i21, mm_i22, mm_i23, mm_l3, mm_l4, mm_l5, mm_l6, mm_l7, mm_l18, mm_l19, mm_l20, mm_l21, mm_l22, kdX1_isOddAsCounted, ct_X1_isOddAsCounted, flX1, sp_X1_isCorner]
    rw [Int.tmod_eq_emod_of_nonneg (show 0 ≤ M 5 c.toNat + M 6 c.toNat by omega)]
    repeat' (first | assumption | apply And.intro | (intro _) | apply hq)
    all_goals (try simp only [InI] at *)
    all_goals first | omega | ((repeat' split) <;> omega)
  · exact h.elim
theorem me_X1_isOddAsCounted {l : Launch} (hl : l.stackTraces = false) : mm_Met l yX1_isOddAsCounted cX1_isOddAsCounted 2 (some .boolean) [] 7 120 0 sp_X1_isOddAsCounted := mm_mt hl rn_X1_isOddAsCounted ⟨by decide, rfl⟩ kkX1_isOddAsCounted rfl ⟨by decide, by decide⟩ flkX1 (fun _ h => nomatch h) (⟨mm_pe (me_X1_isCorner hl) mwX1_isCorner (mm_t1 236 rfl rfl) (Nat.le_of_ble_eq_true rfl) (Nat.le_of_ble_eq_true rfl), trivial⟩) (mm_xe0 _)
def sp_X1_oddCount : mm_S := fun av M d Q => match av with
  | [.inr (.inr (.inl o)), .inl S] =>  o = 2 ∧ tW M ∧ (0 ≤ S ∧ S < 1073741824) ∧ ∀ M' r, fr [5, 6] M M' ∧ (∀ c : Nat, c < 10 → M' 5 c = oc (M 3) S c (M 2 4).toNat ∧ M' 6 c = oc (M 4) S c (M 2 4).toNat) ∧ r = odn (M 3) (M 4) (M 2 4).toNat (M 2 5) S 10 ∧ 0 ≤ r ∧ r ≤ 10 → Q (.inl (some (mm_I r))) M' d
  | _ => False
def ct_X1_oddCount : List (Nat × mm_Ca) := [(70, (0, 2, 11, sp_X1_countWays, 0)), (74, (0, 2, 11, sp_X1_isOddAsCounted, 0))]
abbrev rr_X1_oddCount (Q : mm_Q) := mm_run (mm_look flX1) (mm_look ct_X1_oddCount) mm_x0 (mm_look ([] : List (Nat × Int))) (fun _ => none) 1 0 (fun _ _ => none) Q kdX1_oddCount
set_option maxRecDepth 20000 in
theorem lp_X1_oddCount {M : mm_M} {d : List Nat} {Q : mm_Q} {S : Int} {F T : Nat → Int} {n : Nat} (ht : tW M) (hn : n ≤ 30) (hM : ∀ c : Nat, c < 10 → M 5 c = oc F S c n ∧ M 6 c = oc T S c n) (hq : 0 ≤ odn F T n (M 2 5) S 10 ∧ odn F T n (M 2 5) S 10 ≤ 10 → Q (.inl (some (mm_I (odn F T n (M 2 5) S 10)))) M d) : ∀ (k i : Nat), i + k = 10 → (0 ≤ odn F T n (M 2 5) S i ∧ odn F T n (M 2 5) S i ≤ i) → rr_X1_oddCount Q 9 [some (mm_R 2), some (mm_I S), some (mm_I (odn F T n (M 2 5) S i)), some (mm_I i)] [] M d 0 := by
  intro k
  induction k with
  | zero =>
    intro i hi hb
    refine mm_run_at (stop := [9]) (S := rr_X1_oddCount Q) kkX1_oddCount 60 ?_ (fun _ _ _ _ _ _ _ h => h)
    simp only [mm_wp, mm_op, mm_nxt, mm_jmp, mm_at, mm_in, mm_nth, mm_set, mm_ok, mm_isL, mm_ret, mm_isRet, mm_bool, mm_call, mm_push, mm_rv, mm_cats, mm_cat, mm_look, mm_ft, mm_fv, mm_pf, mm_thr, mm_ent, mm_pad, mm_fl, beq_self_eq_true, cond_true, cond_false, Nat.reduceBEq, Nat.reduceEqDiff, List.drop_succ_cons, List.drop_zero, List.take_succ_cons, List.take_zero, List.reverse_cons, List.reverse_nil, List.nil_append, List.cons_append, List.length_cons, List.length_nil, Nat.reduceAdd, Nat.reduceSub, Nat.reduceLeDiff, Bool.not_false, Bool.and_true, Bool.true_and, Nat.zero_add, true_and, and_true, Nat.le_refl, true_or, or_true, reduceCtorEq, Nat.add_zero, Nat.reduceLT, Bool.and_self, Bool.not_true, Fin.isValue, Nat.reduceLeDiff, List.take_nil, List.drop_nil, mm_i1, mm_i2, mm_i3, mm_i4, mm_i5, mm_i6, mm_i7, mm_i16, mm_i17, mm_i18, mm_i19, mm_i20, mm_i21, mm_i22, mm_i23, mm_l3, mm_l4, mm_l5, mm_l6, mm_l7, mm_l18, mm_l19, mm_l20, mm_l21, mm_l22, kdX1_oddCount, ct_X1_oddCount, flX1, sp_X1_countWays, sp_X1_isOddAsCounted]
    have e : i = 10 := by omega
    subst e
    exact ⟨by omega, ⟨by omega, by omega⟩, ⟨by omega, by omega⟩, fun _ => hq (by omega), fun h => by omega⟩
  | succ k ih =>
    intro i hi hb
    refine mm_run_at (stop := [9]) (S := rr_X1_oddCount Q) kkX1_oddCount 60 ?_ (fun _ _ _ _ _ _ _ h => h)
    simp only [mm_wp, mm_op, mm_nxt, mm_jmp, mm_at, mm_in, mm_nth, mm_set, mm_ok, mm_isL, mm_ret, mm_isRet, mm_bool, mm_call, mm_push, mm_rv, mm_cats, mm_cat, mm_look, mm_ft, mm_fv, mm_pf, mm_thr, mm_ent, mm_pad, mm_fl, beq_self_eq_true, cond_true, cond_false, Nat.reduceBEq, Nat.reduceEqDiff, List.drop_succ_cons, List.drop_zero, List.take_succ_cons, List.take_zero, List.reverse_cons, List.reverse_nil, List.nil_append, List.cons_append, List.length_cons, List.length_nil, Nat.reduceAdd, Nat.reduceSub, Nat.reduceLeDiff, Bool.not_false, Bool.and_true, Bool.true_and, Nat.zero_add, true_and, and_true, Nat.le_refl, true_or, or_true, reduceCtorEq, Nat.add_zero, Nat.reduceLT, Bool.and_self, Bool.not_true, Fin.isValue, Nat.reduceLeDiff, List.take_nil, List.drop_nil, mm_i1, mm_i2, mm_i3, mm_i4, mm_i5, mm_i6, mm_i7, mm_i16, mm_i17, mm_i18, mm_i19, mm_i20, mm_i21, mm_i22, mm_i23, mm_l3, mm_l4, mm_l5, mm_l6, mm_l7, mm_l18, mm_l19, mm_l20, mm_l21, mm_l22, kdX1_oddCount, ct_X1_oddCount, flX1, sp_X1_countWays, sp_X1_isOddAsCounted]
    have h1 := hM i (by omega)
    have h2 := oc_le F S i n
    have h3 := oc_le T S i n
    have h4 := ht.2.2.1
    have e : odn F T n (M 2 5) S (i + 1) = odn F T n (M 2 5) S i + (if M 2 5 = 0 then (oc F S i n + oc T S i n) % 2 else if oc F S i n = oc T S i n then 0 else 1) := rfl
    simp only [Int.toNat_natCast]
    refine ⟨by omega, ⟨by omega, by omega⟩, ⟨by omega, by omega⟩, fun h => by omega, fun _ => ⟨ht, by omega, by omega, by omega, fun r hr => ⟨?_, fun h0 => ?_, fun h0 => ?_⟩⟩⟩
    · rw [h1.1, h1.2] at hr
      constructor <;> omega
    · have e2 : odn F T n (M 2 5) S (i + 1) = odn F T n (M 2 5) S i := by
        rw [e]
        rw [h1.1, h1.2] at hr
        split
        · omega
        · split <;> omega
      rw [← e2]
      exact ih (i + 1) (by omega) (by omega)
    · have e2 : odn F T n (M 2 5) S (i + 1) = odn F T n (M 2 5) S i + 1 := by
        rw [e]
        rw [h1.1, h1.2] at hr
        split
        · omega
        · split <;> omega
      rw [← e2]
      exact ih (i + 1) (by omega) (by omega)
set_option maxRecDepth 20000 in
theorem rn_X1_oddCount : mm_RN flX1 ct_X1_oddCount mm_x0 [] 1 0 4 kdX1_oddCount sp_X1_oddCount := by
  intro av M d Q h
  unfold sp_X1_oddCount at h
  split at h
  · rename_i o S
    obtain ⟨rfl, ht, hS, hq⟩ := h
    have h1 := ht.1
    refine ⟨Nat.le_of_ble_eq_true rfl, mm_run_at (stop := [9]) (S := rr_X1_oddCount Q) kkX1_oddCount 80 ?_ (fun _ _ _ _ _ _ _ h => h)⟩
    simp only [mm_wp, mm_op, mm_nxt, mm_jmp, mm_at, mm_in, mm_nth, mm_set, mm_ok, mm_isL, mm_ret, mm_isRet, mm_bool, mm_call, mm_push, mm_rv, mm_cats, mm_cat, mm_look, mm_ft, mm_fv, mm_pf, mm_thr, mm_ent, mm_pad, mm_fl, beq_self_eq_true, cond_true, cond_false, Nat.reduceBEq, Nat.reduceEqDiff, List.drop_succ_cons, List.drop_zero, List.take_succ_cons, List.take_zero, List.reverse_cons, List.reverse_nil, List.nil_append, List.cons_append, List.length_cons, List.length_nil, Nat.reduceAdd, Nat.reduceSub, Nat.reduceLeDiff, Bool.not_false, Bool.and_true, Bool.true_and, Nat.zero_add, true_and, and_true, Nat.le_refl, true_or, or_true, reduceCtorEq, Nat.add_zero, Nat.reduceLT, Bool.and_self, Bool.not_true, Fin.isValue, Nat.reduceLeDiff, List.take_nil, List.drop_nil, mm_i1, mm_i2, mm_i3, mm_i4, mm_i5, mm_i6, mm_i7, mm_i16, mm_i17, mm_i18, mm_i19, mm_i20, mm_i21, mm_i22, mm_i23, mm_l3, mm_l4, mm_l5, mm_l6, mm_l7, mm_l18, mm_l19, mm_l20, mm_l21, mm_l22, kdX1_oddCount, ct_X1_oddCount, flX1, sp_X1_countWays, sp_X1_isOddAsCounted]
    refine ⟨ht, hS, fun M' h => ?_⟩
    have e2 : M' 2 = M 2 := h.1 2 (by simp)
    have h3 := lp_X1_oddCount (M := M') (d := d) (Q := Q) (S := S) (F := M 3) (T := M 4) (n := (M 2 4).toNat) (ht.fr h.1 (by simp) (by simp) (by simp)) (by omega) h.2 (fun hb => hq M' _ ⟨h.1, h.2, by rw [e2], hb⟩) 10 0 (by omega) (by simp [odn])
    exact h3
  · exact h.elim
theorem me_X1_oddCount {l : Launch} (hl : l.stackTraces = false) : mm_Met l yX1_oddCount cX1_oddCount 4 (some .int) [] 8 141 0 sp_X1_oddCount := mm_mt hl rn_X1_oddCount ⟨by decide, rfl⟩ kkX1_oddCount rfl ⟨by decide, by decide⟩ flkX1 (fun _ h => nomatch h) (⟨mm_pe (me_X1_countWays hl) mwX1_countWays (mm_t1 228 rfl rfl) (Nat.le_of_ble_eq_true rfl) (Nat.le_of_ble_eq_true rfl), mm_pe (me_X1_isOddAsCounted hl) mwX1_isOddAsCounted (mm_t1 232 rfl rfl) (Nat.le_of_ble_eq_true rfl) (Nat.le_of_ble_eq_true rfl), trivial⟩) (mm_xe0 _)
end
