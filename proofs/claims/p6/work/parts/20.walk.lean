/-! the class's walks -/
def isK (w : Nat) : Prop := w = 8 ∨ w = 10 ∨ w = 12 ∨ w = 14
theorem wk_is {w : Nat} (h : isK w) (M : mm_M) (d : List Nat) : mm_is M d w 12 := by
  rcases h with rfl | rfl | rfl | rfl <;> exact ⟨rfl, by simp [mm_ids, mm_st]⟩
theorem wk_iw {w : Nat} (h : isK w) (M : mm_M) (d : List Nat) : mm_is M d (w + 1) 1 := by
  rcases h with rfl | rfl | rfl | rfl <;> exact ⟨rfl, by simp [mm_ids, mm_st]⟩
theorem wk_ln {w : Nat} (h : isK w) (M : mm_M) : mm_ln M (w + 1) = 30 := by
  rcases h with rfl | rfl | rfl | rfl <;> rfl
theorem wk_no {w : Nat} (h : isK w) : 2 ≠ w ∧ 3 ≠ w ∧ 4 ≠ w ∧ 2 ≠ w + 1 ∧ 3 ≠ w + 1 ∧ 4 ≠ w + 1 ∧ 5 ≠ w ∧ 6 ≠ w ∧ 5 ≠ w + 1 ∧ 6 ≠ w + 1 ∧ w ≠ 0 := by
  rcases h with rfl | rfl | rfl | rfl <;> simp
theorem wk_ap {v w : Nat} (hv : isK v) (hw : isK w) (h : v ≠ w) : v ≠ w + 1 ∧ v + 1 ≠ w ∧ v + 1 ≠ w + 1 := by
  rcases hv with rfl | rfl | rfl | rfl <;> rcases hw with rfl | rfl | rfl | rfl <;> simp at h ⊢
/-- the walk is in order -/
def wV (M : mm_M) (w : Nat) : Prop := (0 ≤ M w 2 ∧ M w 2 ≤ 30) ∧ (0 ≤ M w 3 ∧ M w 3 < 10) ∧ ∀ i : Nat, i < M w 2 → 0 ≤ M (w + 1) i ∧ M (w + 1) i < 2 * M 2 4
theorem wV.to {M M' : mm_M} {w : Nat} (h : wV M w) (h1 : M' w = M w) (h2 : M' (w + 1) = M (w + 1)) (h3 : M' 2 = M 2) : wV M' w := by
  unfold wV
  rw [h1, h2, h3]
  exact h
def cor (M : mm_M) (w : Nat) (p : Int) : Int := if 0 < p ∧ p ≤ M w 2 then gl M (M (w + 1) (p - 1).toNat) else M w 3
def stp (M : mm_M) (w : Nat) (p : Int) : Int := if 0 ≤ p ∧ p < M w 2 then M (w + 1) p.toNat else -1
def sp_X2_size : mm_S := fun av M d Q => match av with
  | [.inr (.inr (.inl w))] =>  isK w ∧ Q (.inl (some (mm_I (M w 2)))) M d
  | _ => False
def ct_X2_size : List (Nat × mm_Ca) := []
abbrev rr_X2_size (Q : mm_Q) := mm_run (mm_look flX2) (mm_look ct_X2_size) mm_x0 (mm_look ([] : List (Nat × Int))) (fun _ => none) 1 0 (fun _ _ => none) Q kdX2_size
set_option maxRecDepth 20000 in
theorem rn_X2_size : mm_RN flX2 ct_X2_size mm_x0 [] 1 0 1 kdX2_size sp_X2_size := by
  intro av M d Q h
  unfold sp_X2_size at h
  split at h
  · rename_i w
    obtain ⟨hw, hq⟩ := h
    refine ⟨Nat.le_of_ble_eq_true rfl, mm_run_at (stop := []) (S := mm_F0) kkX2_size 80 ?_ mm_F0h⟩
    simp only [mm_wp, mm_op, mm_nxt, mm_jmp, mm_at, mm_in, mm_nth, mm_set, mm_ok, mm_isL, mm_ret, mm_isRet, mm_bool, mm_call, mm_push, mm_rv, mm_cats, mm_cat, mm_look, mm_ft, mm_fv, mm_pf, mm_thr, mm_ent, mm_pad, mm_fl, beq_self_eq_true, cond_true, cond_false, Nat.reduceBEq, Nat.reduceEqDiff, List.drop_succ_cons, List.drop_zero, List.take_succ_cons, List.take_zero, List.reverse_cons, List.reverse_nil, List.nil_append, List.cons_append, List.length_cons, List.length_nil, Nat.reduceAdd, Nat.reduceSub, Nat.reduceLeDiff, Bool.not_false, Bool.and_true, Bool.true_and, Nat.zero_add, true_and, and_true, Nat.le_refl, true_or, or_true, reduceCtorEq, Nat.add_zero, Nat.reduceLT, Bool.and_self, Bool.not_true, Fin.isValue, Nat.reduceLeDiff, List.take_nil, List.drop_nil, mm_i1, mm_i2, mm_i3, mm_i4, mm_i5, mm_i6, mm_i7, mm_i16, mm_i17, mm_i18, mm_i19, mm_i20, mm_i21, mm_i22, mm_i23, mm_l3, mm_l4, mm_l5, mm_l6, mm_l7, mm_l18, mm_l19, mm_l20, mm_l21, mm_l22, kdX2_size, ct_X2_size, flX2, wk_is hw]
    repeat' (first | assumption | apply And.intro | (intro _) | apply hq)
    all_goals (try simp only [InI] at *)
    all_goals first | omega | ((repeat' split) <;> omega)
  · exact h.elim
theorem me_X2_size {l : Launch} (hl : l.stackTraces = false) : mm_Met l yX2_size cX2_size 1 (some .int) [] 6 100 0 sp_X2_size := mm_mt hl rn_X2_size ⟨by decide, rfl⟩ kkX2_size rfl ⟨by decide, by decide⟩ flkX2 (fun _ h => nomatch h) (trivial) (mm_xe0 _)
def sp_X2_firstCorner : mm_S := fun av M d Q => match av with
  | [.inr (.inr (.inl w))] =>  isK w ∧ Q (.inl (some (mm_I (M w 3)))) M d
  | _ => False
def ct_X2_firstCorner : List (Nat × mm_Ca) := []
abbrev rr_X2_firstCorner (Q : mm_Q) := mm_run (mm_look flX2) (mm_look ct_X2_firstCorner) mm_x0 (mm_look ([] : List (Nat × Int))) (fun _ => none) 1 0 (fun _ _ => none) Q kdX2_firstCorner
set_option maxRecDepth 20000 in
theorem rn_X2_firstCorner : mm_RN flX2 ct_X2_firstCorner mm_x0 [] 1 0 1 kdX2_firstCorner sp_X2_firstCorner := by
  intro av M d Q h
  unfold sp_X2_firstCorner at h
  split at h
  · rename_i w
    obtain ⟨hw, hq⟩ := h
    refine ⟨Nat.le_of_ble_eq_true rfl, mm_run_at (stop := []) (S := mm_F0) kkX2_firstCorner 80 ?_ mm_F0h⟩
    simp only [mm_wp, mm_op, mm_nxt, mm_jmp, mm_at, mm_in, mm_nth, mm_set, mm_ok, mm_isL, mm_ret, mm_isRet, mm_bool, mm_call, mm_push, mm_rv, mm_cats, mm_cat, mm_look, mm_ft, mm_fv, mm_pf, mm_thr, mm_ent, mm_pad, mm_fl, beq_self_eq_true, cond_true, cond_false, Nat.reduceBEq, Nat.reduceEqDiff, List.drop_succ_cons, List.drop_zero, List.take_succ_cons, List.take_zero, List.reverse_cons, List.reverse_nil, List.nil_append, List.cons_append, List.length_cons, List.length_nil, Nat.reduceAdd, Nat.reduceSub, Nat.reduceLeDiff, Bool.not_false, Bool.and_true, Bool.true_and, Nat.zero_add, true_and, and_true, Nat.le_refl, true_or, or_true, reduceCtorEq, Nat.add_zero, Nat.reduceLT, Bool.and_self, Bool.not_true, Fin.isValue, Nat.reduceLeDiff, List.take_nil, List.drop_nil, mm_i1, mm_i2, mm_i3, mm_i4, mm_i5, mm_i6, mm_i7, mm_i16, mm_i17, mm_i18, mm_i19, mm_i20, mm_i21, mm_i22, mm_i23, mm_l3, mm_l4, mm_l5, mm_l6, mm_l7, mm_l18, mm_l19, mm_l20, mm_l21, mm_l22, kdX2_firstCorner, ct_X2_firstCorner, flX2, wk_is hw]
    repeat' (first | assumption | apply And.intro | (intro _) | apply hq)
    all_goals (try simp only [InI] at *)
    all_goals first | omega | ((repeat' split) <;> omega)
  · exact h.elim
theorem me_X2_firstCorner {l : Launch} (hl : l.stackTraces = false) : mm_Met l yX2_firstCorner cX2_firstCorner 1 (some .int) [] 6 100 0 sp_X2_firstCorner := mm_mt hl rn_X2_firstCorner ⟨by decide, rfl⟩ kkX2_firstCorner rfl ⟨by decide, by decide⟩ flkX2 (fun _ h => nomatch h) (trivial) (mm_xe0 _)
def sp_X2_cornerOf : mm_S := fun av M d Q => match av with
  | [.inr (.inr (.inl w)), .inl p] =>  isK w ∧ tW M ∧ wV M w ∧ InI p ∧ ∀ r, r = cor M w p ∧ 0 ≤ r ∧ r < 10 → Q (.inl (some (mm_I r))) M d
  | _ => False
def ct_X2_cornerOf : List (Nat × mm_Ca) := [(30, (0, 2, 11, sp_X1_goalOf, 0))]
abbrev rr_X2_cornerOf (Q : mm_Q) := mm_run (mm_look flX2) (mm_look ct_X2_cornerOf) mm_x0 (mm_look ([] : List (Nat × Int))) (fun _ => none) 1 0 (fun _ _ => none) Q kdX2_cornerOf
set_option maxRecDepth 20000 in
theorem rn_X2_cornerOf : mm_RN flX2 ct_X2_cornerOf mm_x0 [] 1 0 2 kdX2_cornerOf sp_X2_cornerOf := by
  intro av M d Q h
  unfold sp_X2_cornerOf at h
  split at h
  · rename_i w p
    obtain ⟨hw, ht, hv, hp, hq⟩ := h
    have h1 := ht.1
    obtain ⟨v1, v2, v3⟩ := id hv
    refine ⟨Nat.le_of_ble_eq_true rfl, mm_run_at (stop := []) (S := mm_F0) kkX2_cornerOf 80 ?_ mm_F0h⟩
    simp only [mm_wp, mm_op, mm_nxt, mm_jmp, mm_at, mm_in, mm_nth, mm_set, mm_ok, mm_isL, mm_ret, mm_isRet, mm_bool, mm_call, mm_push, mm_rv, mm_cats, mm_cat, mm_look, mm_ft, mm_fv, mm_pf, mm_thr, mm_ent, mm_pad, mm_fl, beq_self_eq_true, cond_true, cond_false, Nat.reduceBEq, Nat.reduceEqDiff, List.drop_succ_cons, List.drop_zero, List.take_succ_cons, List.take_zero, List.reverse_cons, List.reverse_nil, List.nil_append, List.cons_append, List.length_cons, List.length_nil, Nat.reduceAdd, Nat.reduceSub, Nat.reduceLeDiff, Bool.not_false, Bool.and_true, Bool.true_and, Nat.zero_add, true_and, and_true, Nat.le_refl, true_or, or_true, reduceCtorEq, Nat.add_zero, Nat.reduceLT, Bool.and_self, Bool.not_true, Fin.isValue, Nat.reduceLeDiff, List.take_nil, List.drop_nil, mm_i1, mm_i2, mm_i3, mm_i4, mm_i5, mm_i6, mm_i7, mm_i16, mm_i17, mm_i18, mm_i19, mm_i20, mm_i21, mm_i22, mm_i23, mm_l3, mm_l4, mm_l5, mm_l6, mm_l7, mm_l18, mm_l19, mm_l20, mm_l21, mm_l22, kdX2_cornerOf, ct_X2_cornerOf, flX2, sp_X1_goalOf, wk_is hw, wk_iw hw, wk_ln hw]
    refine ⟨hp, fun h => hq _ ⟨by unfold cor; rw [if_neg (by omega)], v2⟩, fun h => ⟨hp, ⟨by omega, by omega⟩, fun h2 => hq _ ⟨by unfold cor; rw [if_neg (by omega)], v2⟩, fun h2 => ?_⟩⟩
    have v4 := v3 (p - 1).toNat (by omega)
    refine ⟨by omega, ht, v4, fun r hr => hq r ⟨by unfold cor; rw [if_pos (by omega)]; exact hr.1, hr.2⟩⟩
  · exact h.elim
theorem me_X2_cornerOf {l : Launch} (hl : l.stackTraces = false) : mm_Met l yX2_cornerOf cX2_cornerOf 2 (some .int) [] 8 143 0 sp_X2_cornerOf := mm_mt hl rn_X2_cornerOf ⟨by decide, rfl⟩ kkX2_cornerOf rfl ⟨by decide, by decide⟩ flkX2 (fun _ h => nomatch h) (⟨mm_pe (me_X1_goalOf hl) mwX1_goalOf (mm_t1 195 rfl rfl) (Nat.le_of_ble_eq_true rfl) (Nat.le_of_ble_eq_true rfl), trivial⟩) (mm_xe0 _)
def sp_X2_lastCorner : mm_S := fun av M d Q => match av with
  | [.inr (.inr (.inl w))] =>  isK w ∧ tW M ∧ wV M w ∧ ∀ r, r = cor M w (M w 2) ∧ 0 ≤ r ∧ r < 10 → Q (.inl (some (mm_I r))) M d
  | _ => False
def ct_X2_lastCorner : List (Nat × mm_Ca) := [(26, (0, 2, 12, sp_X2_cornerOf, 0))]
abbrev rr_X2_lastCorner (Q : mm_Q) := mm_run (mm_look flX2) (mm_look ct_X2_lastCorner) mm_x0 (mm_look ([] : List (Nat × Int))) (fun _ => none) 1 0 (fun _ _ => none) Q kdX2_lastCorner
set_option maxRecDepth 20000 in
theorem rn_X2_lastCorner : mm_RN flX2 ct_X2_lastCorner mm_x0 [] 1 0 1 kdX2_lastCorner sp_X2_lastCorner := by
  intro av M d Q h
  unfold sp_X2_lastCorner at h
  split at h
  · rename_i w
    obtain ⟨hw, ht, hv, hq⟩ := h
    have v1 := hv.1
    refine ⟨Nat.le_of_ble_eq_true rfl, mm_run_at (stop := []) (S := mm_F0) kkX2_lastCorner 80 ?_ mm_F0h⟩
    simp only [mm_wp, mm_op, mm_nxt, mm_jmp, mm_at, mm_in, mm_nth, mm_set, mm_ok, mm_isL, mm_ret, mm_isRet, mm_bool, mm_call, mm_push, mm_rv, mm_cats, mm_cat, mm_look, mm_ft, mm_fv, mm_pf, mm_thr, mm_ent, mm_pad, mm_fl, beq_self_eq_true, cond_true, cond_false, Nat.reduceBEq, Nat.reduceEqDiff, List.drop_succ_cons, List.drop_zero, List.take_succ_cons, List.take_zero, List.reverse_cons, List.reverse_nil, List.nil_append, List.cons_append, List.length_cons, List.length_nil, Nat.reduceAdd, Nat.reduceSub, Nat.reduceLeDiff, Bool.not_false, Bool.and_true, Bool.true_and, Nat.zero_add, true_and, and_true, Nat.le_refl, true_or, or_true, reduceCtorEq, Nat.add_zero, Nat.reduceLT, Bool.and_self, Bool.not_true, Fin.isValue, Nat.reduceLeDiff, List.take_nil, List.drop_nil, mm_i1, mm_i2, mm_i3, mm_i4, mm_i5, mm_i6, mm_i7, mm_i16, mm_i17, mm_i18, mm_i19, mm_i20, mm_i21, mm_i22, mm_i23, mm_l3, mm_l4, mm_l5, mm_l6, mm_l7, mm_l18, mm_l19, mm_l20, mm_l21, mm_l22, kdX2_lastCorner, ct_X2_lastCorner, flX2, sp_X2_cornerOf, wk_is hw]
    exact ⟨hw, ht, hv, ⟨by omega, by omega⟩, fun r hr => hq r hr⟩
  · exact h.elim
theorem me_X2_lastCorner {l : Launch} (hl : l.stackTraces = false) : mm_Met l yX2_lastCorner cX2_lastCorner 1 (some .int) [] 9 164 0 sp_X2_lastCorner := mm_mt hl rn_X2_lastCorner ⟨by decide, rfl⟩ kkX2_lastCorner rfl ⟨by decide, by decide⟩ flkX2 (fun _ h => nomatch h) (⟨mm_pe (me_X2_cornerOf hl) mwX2_cornerOf (mm_t1 191 rfl rfl) (Nat.le_of_ble_eq_true rfl) (Nat.le_of_ble_eq_true rfl), trivial⟩) (mm_xe0 _)
def sp_X2_stepOf : mm_S := fun av M d Q => match av with
  | [.inr (.inr (.inl w)), .inl p] =>  isK w ∧ tW M ∧ wV M w ∧ InI p ∧ ∀ r, r = stp M w p ∧ -1 ≤ r ∧ r < 2 * M 2 4 → Q (.inl (some (mm_I r))) M d
  | _ => False
def ct_X2_stepOf : List (Nat × mm_Ca) := []
abbrev rr_X2_stepOf (Q : mm_Q) := mm_run (mm_look flX2) (mm_look ct_X2_stepOf) mm_x0 (mm_look ([] : List (Nat × Int))) (fun _ => none) 1 0 (fun _ _ => none) Q kdX2_stepOf
set_option maxRecDepth 20000 in
theorem rn_X2_stepOf : mm_RN flX2 ct_X2_stepOf mm_x0 [] 1 0 2 kdX2_stepOf sp_X2_stepOf := by
  intro av M d Q h
  unfold sp_X2_stepOf at h
  split at h
  · rename_i w p
    obtain ⟨hw, ht, hv, hp, hq⟩ := h
    have h1 := ht.1
    obtain ⟨v1, v2, v3⟩ := id hv
    refine ⟨Nat.le_of_ble_eq_true rfl, mm_run_at (stop := []) (S := mm_F0) kkX2_stepOf 80 ?_ mm_F0h⟩
    simp only [mm_wp, mm_op, mm_nxt, mm_jmp, mm_at, mm_in, mm_nth, mm_set, mm_ok, mm_isL, mm_ret, mm_isRet, mm_bool, mm_call, mm_push, mm_rv, mm_cats, mm_cat, mm_look, mm_ft, mm_fv, mm_pf, mm_thr, mm_ent, mm_pad, mm_fl, beq_self_eq_true, cond_true, cond_false, Nat.reduceBEq, Nat.reduceEqDiff, List.drop_succ_cons, List.drop_zero, List.take_succ_cons, List.take_zero, List.reverse_cons, List.reverse_nil, List.nil_append, List.cons_append, List.length_cons, List.length_nil, Nat.reduceAdd, Nat.reduceSub, Nat.reduceLeDiff, Bool.not_false, Bool.and_true, Bool.true_and, Nat.zero_add, true_and, and_true, Nat.le_refl, true_or, or_true, reduceCtorEq, Nat.add_zero, Nat.reduceLT, Bool.and_self, Bool.not_true, Fin.isValue, Nat.reduceLeDiff, List.take_nil, List.drop_nil, mm_i1, mm_i2, mm_i3, mm_i4, mm_i5, mm_i6, mm_i7, mm_i16, mm_i17, mm_i18, mm_i19, mm_i20, mm_i21, mm_i22, mm_i23, mm_l3, mm_l4, mm_l5, mm_l6, mm_l7, mm_l18, mm_l19, mm_l20, mm_l21, mm_l22, kdX2_stepOf, ct_X2_stepOf, flX2, wk_is hw, wk_iw hw, wk_ln hw]
    have hn : ¬ (0 ≤ p ∧ p < M w 2) → Q (.inl (some (mm_I (-1)))) M d := fun h => hq _ ⟨by unfold stp; rw [if_neg h], by omega, by omega⟩
    refine ⟨hp, fun h => hn (by omega), fun h => ⟨hp, ⟨by omega, by omega⟩, fun h2 => hn (by omega), fun h2 => ?_⟩⟩
    have v4 := v3 p.toNat (by omega)
    refine ⟨by omega, hq _ ⟨by unfold stp; rw [if_pos (by omega)], by omega, by omega⟩⟩
  · exact h.elim
theorem me_X2_stepOf {l : Launch} (hl : l.stackTraces = false) : mm_Met l yX2_stepOf cX2_stepOf 2 (some .int) [] 6 100 0 sp_X2_stepOf := mm_mt hl rn_X2_stepOf ⟨by decide, rfl⟩ kkX2_stepOf rfl ⟨by decide, by decide⟩ flkX2 (fun _ h => nomatch h) (trivial) (mm_xe0 _)
def sp_X2_placeOf : mm_S := fun av M d Q => match av with
  | [.inr (.inr (.inl w)), .inl s] =>  isK w ∧ tW M ∧ wV M w ∧ InI s ∧ ∀ r, ((r = -1 ∧ ∀ i : Nat, i < M w 2 → M (w + 1) i / 2 ≠ s) ∨ (0 ≤ r ∧ r < M w 2 ∧ M (w + 1) r.toNat / 2 = s ∧ ∀ i : Nat, i < r → M (w + 1) i / 2 ≠ s)) → Q (.inl (some (mm_I r))) M d
  | _ => False
def ct_X2_placeOf : List (Nat × mm_Ca) := []
abbrev rr_X2_placeOf (Q : mm_Q) := mm_run (mm_look flX2) (mm_look ct_X2_placeOf) mm_x0 (mm_look ([] : List (Nat × Int))) (fun _ => none) 1 0 (fun _ _ => none) Q kdX2_placeOf
set_option maxRecDepth 20000 in
theorem lp_X2_placeOf {M : mm_M} {d : List Nat} {Q : mm_Q} {w n : Nat} {s : Int} (hw : isK w) (ht : tW M) (hv : wV M w) (hs : InI s) (hn : M w 2 = n) (hq : ∀ r, ((r = -1 ∧ ∀ i : Nat, i < M w 2 → M (w + 1) i / 2 ≠ s) ∨ (0 ≤ r ∧ r < M w 2 ∧ M (w + 1) r.toNat / 2 = s ∧ ∀ i : Nat, i < r → M (w + 1) i / 2 ≠ s)) → Q (.inl (some (mm_I r))) M d) : ∀ (k i : Nat), i + k = n → (∀ j : Nat, j < i → M (w + 1) j / 2 ≠ s) → rr_X2_placeOf Q 2 [some (mm_R w), some (mm_I s), some (mm_I i)] [] M d 0 := by
  obtain ⟨v1, v2, v3⟩ := id hv
  have h1 := ht.1
  intro k
  induction k with
  | zero =>
    intro i hi hj
    refine mm_run_at (stop := [2]) (S := rr_X2_placeOf Q) kkX2_placeOf 60 ?_ (fun _ _ _ _ _ _ _ h => h)
    simp only [mm_wp, mm_op, mm_nxt, mm_jmp, mm_at, mm_in, mm_nth, mm_set, mm_ok, mm_isL, mm_ret, mm_isRet, mm_bool, mm_call, mm_push, mm_rv, mm_cats, mm_cat, mm_look, mm_ft, mm_fv, mm_pf, mm_thr, mm_ent, mm_pad, mm_fl, beq_self_eq_true, cond_true, cond_false, Nat.reduceBEq, Nat.reduceEqDiff, List.drop_succ_cons, List.drop_zero, List.take_succ_cons, List.take_zero, List.reverse_cons, List.reverse_nil, List.nil_append, List.cons_append, List.length_cons, List.length_nil, Nat.reduceAdd, Nat.reduceSub, Nat.reduceLeDiff, Bool.not_false, Bool.and_true, Bool.true_and, Nat.zero_add, true_and, and_true, Nat.le_refl, true_or, or_true, reduceCtorEq, Nat.add_zero, Nat.reduceLT, Bool.and_self, Bool.not_true, Fin.isValue, Nat.reduceLeDiff, List.take_nil, List.drop_nil, mm_i1, mm_i2, mm_i3, mm_i4, mm_i5, mm_i6, mm_i7, mm_i16, mm_i17, mm_i18, mm_i19, mm_i20, mm_i21, mm_i22, mm_i23, mm_l3, mm_l4, mm_l5, mm_l6, mm_l7, mm_l18, mm_l19, mm_l20, mm_l21, mm_l22, kdX2_placeOf, ct_X2_placeOf, flX2, wk_is hw, wk_iw hw, wk_ln hw]
    exact ⟨⟨by omega, by omega⟩, ⟨by omega, by omega⟩, fun _ => hq _ (Or.inl ⟨rfl, fun j h => hj j (by omega)⟩), fun h => by omega⟩
  | succ k ih =>
    intro i hi hj
    refine mm_run_at (stop := [2]) (S := rr_X2_placeOf Q) kkX2_placeOf 60 ?_ (fun _ _ _ _ _ _ _ h => h)
    simp only [mm_wp, mm_op, mm_nxt, mm_jmp, mm_at, mm_in, mm_nth, mm_set, mm_ok, mm_isL, mm_ret, mm_isRet, mm_bool, mm_call, mm_push, mm_rv, mm_cats, mm_cat, mm_look, mm_ft, mm_fv, mm_pf, mm_thr, mm_ent, mm_pad, mm_fl, beq_self_eq_true, cond_true, cond_false, Nat.reduceBEq, Nat.reduceEqDiff, List.drop_succ_cons, List.drop_zero, List.take_succ_cons, List.take_zero, List.reverse_cons, List.reverse_nil, List.nil_append, List.cons_append, List.length_cons, List.length_nil, Nat.reduceAdd, Nat.reduceSub, Nat.reduceLeDiff, Bool.not_false, Bool.and_true, Bool.true_and, Nat.zero_add, true_and, and_true, Nat.le_refl, true_or, or_true, reduceCtorEq, Nat.add_zero, Nat.reduceLT, Bool.and_self, Bool.not_true, Fin.isValue, Nat.reduceLeDiff, List.take_nil, List.drop_nil, mm_i1, mm_i2, mm_i3, mm_i4, mm_i5, mm_i6, mm_i7, mm_i16, mm_i17, mm_i18, mm_i19, mm_i20, mm_i21, mm_i22, mm_i23, mm_l3, mm_l4, mm_l5, mm_l6, mm_l7, mm_l18, mm_l19, mm_l20, mm_l21, mm_l22, kdX2_placeOf, ct_X2_placeOf, flX2, wk_is hw, wk_iw hw, wk_ln hw, tp1]
    have v4 := v3 i (by omega)
    simp only [Int.toNat_natCast]
    refine ⟨⟨by omega, by omega⟩, ⟨by omega, by omega⟩, fun h => by omega, fun _ => ⟨by omega, ⟨by omega, by omega⟩, by omega, ⟨by omega, by omega⟩, hs, fun h => ?_, fun h => ?_⟩⟩
    · refine ih (i + 1) (by omega) (fun j hj2 => ?_)
      by_cases e : j = i
      · subst e
        exact h
      · exact hj j (by omega)
    · exact hq _ (Or.inr ⟨by omega, by omega, h, fun j h => hj j (by omega)⟩)
set_option maxRecDepth 20000 in
theorem rn_X2_placeOf : mm_RN flX2 ct_X2_placeOf mm_x0 [] 1 0 3 kdX2_placeOf sp_X2_placeOf := by
  intro av M d Q h
  unfold sp_X2_placeOf at h
  split at h
  · rename_i w s
    obtain ⟨hw, ht, hv, hs, hq⟩ := h
    have v1 := hv.1
    obtain ⟨n, hn⟩ := Int.eq_ofNat_of_zero_le v1.1
    refine ⟨Nat.le_of_ble_eq_true rfl, mm_run_at (stop := [2]) (S := rr_X2_placeOf Q) kkX2_placeOf 80 ?_ (fun _ _ _ _ _ _ _ h => h)⟩
    simp only [mm_wp, mm_op, mm_nxt, mm_jmp, mm_at, mm_in, mm_nth, mm_set, mm_ok, mm_isL, mm_ret, mm_isRet, mm_bool, mm_call, mm_push, mm_rv, mm_cats, mm_cat, mm_look, mm_ft, mm_fv, mm_pf, mm_thr, mm_ent, mm_pad, mm_fl, beq_self_eq_true, cond_true, cond_false, Nat.reduceBEq, Nat.reduceEqDiff, List.drop_succ_cons, List.drop_zero, List.take_succ_cons, List.take_zero, List.reverse_cons, List.reverse_nil, List.nil_append, List.cons_append, List.length_cons, List.length_nil, Nat.reduceAdd, Nat.reduceSub, Nat.reduceLeDiff, Bool.not_false, Bool.and_true, Bool.true_and, Nat.zero_add, true_and, and_true, Nat.le_refl, true_or, or_true, reduceCtorEq, Nat.add_zero, Nat.reduceLT, Bool.and_self, Bool.not_true, Fin.isValue, Nat.reduceLeDiff, List.take_nil, List.drop_nil, mm_i1, mm_i2, mm_i3, mm_i4, mm_i5, mm_i6, mm_i7, mm_i16, mm_i17, mm_i18, mm_i19, mm_i20, mm_i21, mm_i22, mm_i23, mm_l3, mm_l4, mm_l5, mm_l6, mm_l7, mm_l18, mm_l19, mm_l20, mm_l21, mm_l22, kdX2_placeOf, ct_X2_placeOf, flX2]
    exact lp_X2_placeOf hw ht hv hs hn hq n 0 (by omega) (fun j hj => by omega)
  · exact h.elim
theorem me_X2_placeOf {l : Launch} (hl : l.stackTraces = false) : mm_Met l yX2_placeOf cX2_placeOf 3 (some .int) [] 6 100 0 sp_X2_placeOf := mm_mt hl rn_X2_placeOf ⟨by decide, rfl⟩ kkX2_placeOf rfl ⟨by decide, by decide⟩ flkX2 (fun _ h => nomatch h) (trivial) (mm_xe0 _)
def sp_X2_placeOfCorner : mm_S := fun av M d Q => match av with
  | [.inr (.inr (.inl w)), .inl c] =>  isK w ∧ tW M ∧ wV M w ∧ InI c ∧ ∀ r, ((r = -1 ∧ ∀ i : Nat, i ≤ M w 2 → cor M w i ≠ c) ∨ (0 ≤ r ∧ r ≤ M w 2 ∧ cor M w r = c ∧ ∀ i : Nat, i < r → cor M w i ≠ c)) → Q (.inl (some (mm_I r))) M d
  | _ => False
def ct_X2_placeOfCorner : List (Nat × mm_Ca) := [(26, (0, 2, 12, sp_X2_cornerOf, 0))]
abbrev rr_X2_placeOfCorner (Q : mm_Q) := mm_run (mm_look flX2) (mm_look ct_X2_placeOfCorner) mm_x0 (mm_look ([] : List (Nat × Int))) (fun _ => none) 1 0 (fun _ _ => none) Q kdX2_placeOfCorner
set_option maxRecDepth 20000 in
theorem lp_X2_placeOfCorner {M : mm_M} {d : List Nat} {Q : mm_Q} {w n : Nat} {c : Int} (hw : isK w) (ht : tW M) (hv : wV M w) (hs : InI c) (hn : M w 2 = n) (hq : ∀ r, ((r = -1 ∧ ∀ i : Nat, i ≤ M w 2 → cor M w i ≠ c) ∨ (0 ≤ r ∧ r ≤ M w 2 ∧ cor M w r = c ∧ ∀ i : Nat, i < r → cor M w i ≠ c)) → Q (.inl (some (mm_I r))) M d) : ∀ (k i : Nat), i + k = n + 1 → (∀ j : Nat, j < i → cor M w j ≠ c) → rr_X2_placeOfCorner Q 2 [some (mm_R w), some (mm_I c), some (mm_I i)] [] M d 0 := by
  obtain ⟨v1, v2, v3⟩ := id hv
  intro k
  induction k with
  | zero =>
    intro i hi hj
    refine mm_run_at (stop := [2]) (S := rr_X2_placeOfCorner Q) kkX2_placeOfCorner 60 ?_ (fun _ _ _ _ _ _ _ h => h)
    simp only [mm_wp, mm_op, mm_nxt, mm_jmp, mm_at, mm_in, mm_nth, mm_set, mm_ok, mm_isL, mm_ret, mm_isRet, mm_bool, mm_call, mm_push, mm_rv, mm_cats, mm_cat, mm_look, mm_ft, mm_fv, mm_pf, mm_thr, mm_ent, mm_pad, mm_fl, beq_self_eq_true, cond_true, cond_false, Nat.reduceBEq, Nat.reduceEqDiff, List.drop_succ_cons, List.drop_zero, List.take_succ_cons, List.take_zero, List.reverse_cons, List.reverse_nil, List.nil_append, List.cons_append, List.length_cons, List.length_nil, Nat.reduceAdd, Nat.reduceSub, Nat.reduceLeDiff, Bool.not_false, Bool.and_true, Bool.true_and, Nat.zero_add, true_and, and_true, Nat.le_refl, true_or, or_true, reduceCtorEq, Nat.add_zero, Nat.reduceLT, Bool.and_self, Bool.not_true, Fin.isValue, Nat.reduceLeDiff, List.take_nil, List.drop_nil, mm_i1, mm_i2, mm_i3, mm_i4, mm_i5, mm_i6, mm_i7, mm_i16, mm_i17, mm_i18, mm_i19, mm_i20, mm_i21, mm_i22, mm_i23, mm_l3, mm_l4, mm_l5, mm_l6, mm_l7, mm_l18, mm_l19, mm_l20, mm_l21, mm_l22, kdX2_placeOfCorner, ct_X2_placeOfCorner, flX2, sp_X2_cornerOf, wk_is hw, wk_iw hw, wk_ln hw]
    exact ⟨⟨by omega, by omega⟩, ⟨by omega, by omega⟩, fun _ => hq _ (Or.inl ⟨rfl, fun j h => hj j (by omega)⟩), fun h => by omega⟩
  | succ k ih =>
    intro i hi hj
    refine mm_run_at (stop := [2]) (S := rr_X2_placeOfCorner Q) kkX2_placeOfCorner 60 ?_ (fun _ _ _ _ _ _ _ h => h)
    simp only [mm_wp, mm_op, mm_nxt, mm_jmp, mm_at, mm_in, mm_nth, mm_set, mm_ok, mm_isL, mm_ret, mm_isRet, mm_bool, mm_call, mm_push, mm_rv, mm_cats, mm_cat, mm_look, mm_ft, mm_fv, mm_pf, mm_thr, mm_ent, mm_pad, mm_fl, beq_self_eq_true, cond_true, cond_false, Nat.reduceBEq, Nat.reduceEqDiff, List.drop_succ_cons, List.drop_zero, List.take_succ_cons, List.take_zero, List.reverse_cons, List.reverse_nil, List.nil_append, List.cons_append, List.length_cons, List.length_nil, Nat.reduceAdd, Nat.reduceSub, Nat.reduceLeDiff, Bool.not_false, Bool.and_true, Bool.true_and, Nat.zero_add, true_and, and_true, Nat.le_refl, true_or, or_true, reduceCtorEq, Nat.add_zero, Nat.reduceLT, Bool.and_self, Bool.not_true, Fin.isValue, Nat.reduceLeDiff, List.take_nil, List.drop_nil, mm_i1, mm_i2, mm_i3, mm_i4, mm_i5, mm_i6, mm_i7, mm_i16, mm_i17, mm_i18, mm_i19, mm_i20, mm_i21, mm_i22, mm_i23, mm_l3, mm_l4, mm_l5, mm_l6, mm_l7, mm_l18, mm_l19, mm_l20, mm_l21, mm_l22, kdX2_placeOfCorner, ct_X2_placeOfCorner, flX2, sp_X2_cornerOf, wk_is hw, wk_iw hw, wk_ln hw]
    refine ⟨⟨by omega, by omega⟩, ⟨by omega, by omega⟩, fun h => by omega, fun _ => ⟨hw, ht, hv, ⟨by omega, by omega⟩, fun r hr => ⟨⟨by omega, by omega⟩, hs, fun h => ?_, fun h => ?_⟩⟩⟩
    · refine ih (i + 1) (by omega) (fun j hj2 => ?_)
      by_cases e : j = i
      · subst e
        rw [← hr.1]
        exact h
      · exact hj j (by omega)
    · exact hq _ (Or.inr ⟨by omega, by omega, by rw [← hr.1]; exact h, fun j h => hj j (by omega)⟩)
set_option maxRecDepth 20000 in
theorem rn_X2_placeOfCorner : mm_RN flX2 ct_X2_placeOfCorner mm_x0 [] 1 0 3 kdX2_placeOfCorner sp_X2_placeOfCorner := by
  intro av M d Q h
  unfold sp_X2_placeOfCorner at h
  split at h
  · rename_i w c
    obtain ⟨hw, ht, hv, hs, hq⟩ := h
    have v1 := hv.1
    obtain ⟨n, hn⟩ := Int.eq_ofNat_of_zero_le v1.1
    refine ⟨Nat.le_of_ble_eq_true rfl, mm_run_at (stop := [2]) (S := rr_X2_placeOfCorner Q) kkX2_placeOfCorner 80 ?_ (fun _ _ _ _ _ _ _ h => h)⟩
    simp only [mm_wp, mm_op, mm_nxt, mm_jmp, mm_at, mm_in, mm_nth, mm_set, mm_ok, mm_isL, mm_ret, mm_isRet, mm_bool, mm_call, mm_push, mm_rv, mm_cats, mm_cat, mm_look, mm_ft, mm_fv, mm_pf, mm_thr, mm_ent, mm_pad, mm_fl, beq_self_eq_true, cond_true, cond_false, Nat.reduceBEq, Nat.reduceEqDiff, List.drop_succ_cons, List.drop_zero, List.take_succ_cons, List.take_zero, List.reverse_cons, List.reverse_nil, List.nil_append, List.cons_append, List.length_cons, List.length_nil, Nat.reduceAdd, Nat.reduceSub, Nat.reduceLeDiff, Bool.not_false, Bool.and_true, Bool.true_and, Nat.zero_add, true_and, and_true, Nat.le_refl, true_or, or_true, reduceCtorEq, Nat.add_zero, Nat.reduceLT, Bool.and_self, Bool.not_true, Fin.isValue, Nat.reduceLeDiff, List.take_nil, List.drop_nil, mm_i1, mm_i2, mm_i3, mm_i4, mm_i5, mm_i6, mm_i7, mm_i16, mm_i17, mm_i18, mm_i19, mm_i20, mm_i21, mm_i22, mm_i23, mm_l3, mm_l4, mm_l5, mm_l6, mm_l7, mm_l18, mm_l19, mm_l20, mm_l21, mm_l22, kdX2_placeOfCorner, ct_X2_placeOfCorner, flX2, sp_X2_cornerOf]
    exact lp_X2_placeOfCorner hw ht hv hs hn hq (n + 1) 0 (by omega) (fun j hj => by omega)
  · exact h.elim
theorem me_X2_placeOfCorner {l : Launch} (hl : l.stackTraces = false) : mm_Met l yX2_placeOfCorner cX2_placeOfCorner 3 (some .int) [] 9 164 0 sp_X2_placeOfCorner := mm_mt hl rn_X2_placeOfCorner ⟨by decide, rfl⟩ kkX2_placeOfCorner rfl ⟨by decide, by decide⟩ flkX2 (fun _ h => nomatch h) (⟨mm_pe (me_X2_cornerOf hl) mwX2_cornerOf (mm_t1 191 rfl rfl) (Nat.le_of_ble_eq_true rfl) (Nat.le_of_ble_eq_true rfl), trivial⟩) (mm_xe0 _)
def sp_X2_isHome : mm_S := fun av M d Q => match av with
  | [.inr (.inr (.inl w))] =>  isK w ∧ tW M ∧ wV M w ∧ ∀ r, (cor M w (M w 2) = M w 3 → r = 1) ∧ (cor M w (M w 2) ≠ M w 3 → r = 0) → Q (.inl (some (mm_I r))) M d
  | _ => False
def ct_X2_isHome : List (Nat × mm_Ca) := [(26, (0, 2, 12, sp_X2_cornerOf, 0))]
abbrev rr_X2_isHome (Q : mm_Q) := mm_run (mm_look flX2) (mm_look ct_X2_isHome) mm_x0 (mm_look ([] : List (Nat × Int))) (fun _ => none) 2 0 (fun _ _ => none) Q kdX2_isHome
set_option maxRecDepth 20000 in
theorem rn_X2_isHome : mm_RN flX2 ct_X2_isHome mm_x0 [] 2 0 1 kdX2_isHome sp_X2_isHome := by
  intro av M d Q h
  unfold sp_X2_isHome at h
  split at h
  · rename_i w
    obtain ⟨hw, ht, hv, hq⟩ := h
    have v1 := hv.1
    have v2 := hv.2.1
    refine ⟨Nat.le_of_ble_eq_true rfl, mm_run_at (stop := []) (S := mm_F0) kkX2_isHome 80 ?_ mm_F0h⟩
    simp only [mm_wp, mm_op, mm_nxt, mm_jmp, mm_at, mm_in, mm_nth, mm_set, mm_ok, mm_isL, mm_ret, mm_isRet, mm_bool, mm_call, mm_push, mm_rv, mm_cats, mm_cat, mm_look, mm_ft, mm_fv, mm_pf, mm_thr, mm_ent, mm_pad, mm_fl, beq_self_eq_true, cond_true, cond_false, Nat.reduceBEq, Nat.reduceEqDiff, List.drop_succ_cons, List.drop_zero, List.take_succ_cons, List.take_zero, List.reverse_cons, List.reverse_nil, List.nil_append, List.cons_append, List.length_cons, List.length_nil, Nat.reduceAdd, Nat.reduceSub, Nat.reduceLeDiff, Bool.not_false, Bool.and_true, Bool.true_and, Nat.zero_add, true_and, and_true, Nat.le_refl, true_or, or_true, reduceCtorEq, Nat.add_zero, Nat.reduceLT, Bool.and_self, Bool.not_true, Fin.isValue, Nat.reduceLeDiff, List.take_nil, List.drop_nil, mm_i1, mm_i2, mm_i3, mm_i4, mm_i5, mm_i6, mm_i7, mm_i16, mm_i17, mm_i18, mm_i19, mm_i20, mm_i21, mm_i22, mm_i23, mm_l3, mm_l4, mm_l5, mm_l6, mm_l7, mm_l18, mm_l19, mm_l20, mm_l21, mm_l22, kdX2_isHome, ct_X2_isHome, flX2, sp_X2_cornerOf, wk_is hw]
    refine ⟨hw, ht, hv, ⟨by omega, by omega⟩, fun r hr => ⟨⟨by omega, by omega⟩, ⟨by omega, by omega⟩, fun h => ?_, fun h => ?_⟩⟩
    · exact hq _ ⟨fun h2 => by omega, fun _ => rfl⟩
    · exact hq _ ⟨fun _ => rfl, fun h2 => by omega⟩
  · exact h.elim
theorem me_X2_isHome {l : Launch} (hl : l.stackTraces = false) : mm_Met l yX2_isHome cX2_isHome 1 (some .boolean) [] 9 164 0 sp_X2_isHome := mm_mt hl rn_X2_isHome ⟨by decide, rfl⟩ kkX2_isHome rfl ⟨by decide, by decide⟩ flkX2 (fun _ h => nomatch h) (⟨mm_pe (me_X2_cornerOf hl) mwX2_cornerOf (mm_t1 191 rfl rfl) (Nat.le_of_ble_eq_true rfl) (Nat.le_of_ble_eq_true rfl), trivial⟩) (mm_xe0 _)
def sp_X2_isWhole : mm_S := fun av M d Q => match av with
  | [.inr (.inr (.inl w))] =>  isK w ∧ tW M ∧ wV M w ∧ ∀ r, (M w 2 = M 2 4 → r = 1) ∧ (M w 2 ≠ M 2 4 → r = 0) → Q (.inl (some (mm_I r))) M d
  | _ => False
def ct_X2_isWhole : List (Nat × mm_Ca) := [(35, (0, 1, 11, sp_X1_size, 0))]
abbrev rr_X2_isWhole (Q : mm_Q) := mm_run (mm_look flX2) (mm_look ct_X2_isWhole) mm_x0 (mm_look ([] : List (Nat × Int))) (fun _ => none) 2 0 (fun _ _ => none) Q kdX2_isWhole
set_option maxRecDepth 20000 in
theorem rn_X2_isWhole : mm_RN flX2 ct_X2_isWhole mm_x0 [] 2 0 1 kdX2_isWhole sp_X2_isWhole := by
  intro av M d Q h
  unfold sp_X2_isWhole at h
  split at h
  · rename_i w
    obtain ⟨hw, ht, hv, hq⟩ := h
    have v1 := hv.1
    have v2 := ht.1
    refine ⟨Nat.le_of_ble_eq_true rfl, mm_run_at (stop := []) (S := mm_F0) kkX2_isWhole 80 ?_ mm_F0h⟩
    simp only [mm_wp, mm_op, mm_nxt, mm_jmp, mm_at, mm_in, mm_nth, mm_set, mm_ok, mm_isL, mm_ret, mm_isRet, mm_bool, mm_call, mm_push, mm_rv, mm_cats, mm_cat, mm_look, mm_ft, mm_fv, mm_pf, mm_thr, mm_ent, mm_pad, mm_fl, beq_self_eq_true, cond_true, cond_false, Nat.reduceBEq, Nat.reduceEqDiff, List.drop_succ_cons, List.drop_zero, List.take_succ_cons, List.take_zero, List.reverse_cons, List.reverse_nil, List.nil_append, List.cons_append, List.length_cons, List.length_nil, Nat.reduceAdd, Nat.reduceSub, Nat.reduceLeDiff, Bool.not_false, Bool.and_true, Bool.true_and, Nat.zero_add, true_and, and_true, Nat.le_refl, true_or, or_true, reduceCtorEq, Nat.add_zero, Nat.reduceLT, Bool.and_self, Bool.not_true, Fin.isValue, Nat.reduceLeDiff, List.take_nil, List.drop_nil, mm_i1, mm_i2, mm_i3, mm_i4, mm_i5, mm_i6, mm_i7, mm_i16, mm_i17, mm_i18, mm_i19, mm_i20, mm_i21, mm_i22, mm_i23, mm_l3, mm_l4, mm_l5, mm_l6, mm_l7, mm_l18, mm_l19, mm_l20, mm_l21, mm_l22, kdX2_isWhole, ct_X2_isWhole, flX2, sp_X1_size, wk_is hw]
    repeat' (first | assumption | apply And.intro | (intro _) | apply hq)
    all_goals (try simp only [InI] at *)
    all_goals first | omega | ((repeat' split) <;> omega)
  · exact h.elim
theorem me_X2_isWhole {l : Launch} (hl : l.stackTraces = false) : mm_Met l yX2_isWhole cX2_isWhole 1 (some .boolean) [] 7 120 0 sp_X2_isWhole := mm_mt hl rn_X2_isWhole ⟨by decide, rfl⟩ kkX2_isWhole rfl ⟨by decide, by decide⟩ flkX2 (fun _ h => nomatch h) (⟨mm_pe (me_X1_size hl) mwX1_size (mm_t2 142 rfl rfl) (Nat.le_of_ble_eq_true rfl) (Nat.le_of_ble_eq_true rfl), trivial⟩) (mm_xe0 _)
def sp_X2_hasBackward : mm_S := fun av M d Q => match av with
  | [.inr (.inr (.inl w))] =>  isK w ∧ tW M ∧ wV M w ∧ ∀ r, ((∃ i : Nat, i < M w 2 ∧ M (w + 1) i % 2 = 1) → r = 1) ∧ (¬ (∃ i : Nat, i < M w 2 ∧ M (w + 1) i % 2 = 1) → r = 0) → Q (.inl (some (mm_I r))) M d
  | _ => False
def ct_X2_hasBackward : List (Nat × mm_Ca) := []
abbrev rr_X2_hasBackward (Q : mm_Q) := mm_run (mm_look flX2) (mm_look ct_X2_hasBackward) mm_x0 (mm_look ([] : List (Nat × Int))) (fun _ => none) 2 0 (fun _ _ => none) Q kdX2_hasBackward
set_option maxRecDepth 20000 in
theorem lp_X2_hasBackward {M : mm_M} {d : List Nat} {Q : mm_Q} {w n : Nat} (hw : isK w) (ht : tW M) (hv : wV M w) (hn : M w 2 = n) (hq : ∀ r, ((∃ i : Nat, i < M w 2 ∧ M (w + 1) i % 2 = 1) → r = 1) ∧ (¬ (∃ i : Nat, i < M w 2 ∧ M (w + 1) i % 2 = 1) → r = 0) → Q (.inl (some (mm_I r))) M d) : ∀ (k i : Nat), i + k = n → (∀ j : Nat, j < i → M (w + 1) j % 2 ≠ 1) → rr_X2_hasBackward Q 2 [some (mm_R w), some (mm_I i)] [] M d 0 := by
  obtain ⟨v1, v2, v3⟩ := id hv
  have h1 := ht.1
  intro k
  induction k with
  | zero =>
    intro i hi hj
    refine mm_run_at (stop := [2]) (S := rr_X2_hasBackward Q) kkX2_hasBackward 60 ?_ (fun _ _ _ _ _ _ _ h => h)
    simp only [mm_wp, mm_op, mm_nxt, mm_jmp, mm_at, mm_in, mm_nth, mm_set, mm_ok, mm_isL, mm_ret, mm_isRet, mm_bool, mm_call, mm_push, mm_rv, mm_cats, mm_cat, mm_look, mm_ft, mm_fv, mm_pf, mm_thr, mm_ent, mm_pad, mm_fl, beq_self_eq_true, cond_true, cond_false, Nat.reduceBEq, Nat.reduceEqDiff, List.drop_succ_cons, List.drop_zero, List.take_succ_cons, List.take_zero, List.reverse_cons, List.reverse_nil, List.nil_append, List.cons_append, List.length_cons, List.length_nil, Nat.reduceAdd, Nat.reduceSub, Nat.reduceLeDiff, Bool.not_false, Bool.and_true, Bool.true_and, Nat.zero_add, true_and, and_true, Nat.le_refl, true_or, or_true, reduceCtorEq, Nat.add_zero, Nat.reduceLT, Bool.and_self, Bool.not_true, Fin.isValue, Nat.reduceLeDiff, List.take_nil, List.drop_nil, mm_i1, mm_i2, mm_i3, mm_i4, mm_i5, mm_i6, mm_i7, mm_i16, mm_i17, mm_i18, mm_i19, mm_i20, mm_i21, mm_i22, mm_i23, mm_l3, mm_l4, mm_l5, mm_l6, mm_l7, mm_l18, mm_l19, mm_l20, mm_l21, mm_l22, kdX2_hasBackward, ct_X2_hasBackward, flX2, wk_is hw, wk_iw hw, wk_ln hw]
    refine ⟨⟨by omega, by omega⟩, ⟨by omega, by omega⟩, fun _ => hq _ ⟨fun h => ?_, fun _ => rfl⟩, fun h => by omega⟩
    obtain ⟨j, h2, h3⟩ := h
    exact absurd h3 (hj j (by omega))
  | succ k ih =>
    intro i hi hj
    have v4 := v3 i (by omega)
    have hI : InI (M (w + 1) (i : Int).toNat) := ⟨by rw [Int.toNat_natCast]; omega, by rw [Int.toNat_natCast]; omega⟩
    refine mm_run_at (stop := [2]) (S := rr_X2_hasBackward Q) kkX2_hasBackward 60 ?_ (fun _ _ _ _ _ _ _ h => h)
    simp only [mm_wp, mm_op, mm_nxt, mm_jmp, mm_at, mm_in, mm_nth, mm_set, mm_ok, mm_isL, mm_ret, mm_isRet, mm_bool, mm_call, mm_push, mm_rv, mm_cats, mm_cat, mm_look, mm_ft, mm_fv, mm_pf, mm_thr, mm_ent, mm_pad, mm_fl, beq_self_eq_true, cond_true, cond_false, Nat.reduceBEq, Nat.reduceEqDiff, List.drop_succ_cons, List.drop_zero, List.take_succ_cons, List.take_zero, List.reverse_cons, List.reverse_nil, List.nil_append, List.cons_append, List.length_cons, List.length_nil, Nat.reduceAdd, Nat.reduceSub, Nat.reduceLeDiff, Bool.not_false, Bool.and_true, Bool.true_and, Nat.zero_add, true_and, and_true, Nat.le_refl, true_or, or_true, reduceCtorEq, Nat.add_zero, Nat.reduceLT, Bool.and_self, Bool.not_true, Fin.isValue, Nat.reduceLeDiff, List.take_nil, List.drop_nil, mm_i1, mm_i2, mm_i3, mm_i4, mm_i5, mm_i6, mm_i7, mm_i16, mm_i17, mm_i18, mm_i19, mm_i20, mm_i21, mm_i22, mm_i23, mm_l3, mm_l4, mm_l5, mm_l6, mm_l7, mm_l18, mm_l19, mm_l20, mm_l21, mm_l22, kdX2_hasBackward, ct_X2_hasBackward, flX2, wk_is hw, wk_iw hw, wk_ln hw, mm_and1 hI]
    simp only [Int.toNat_natCast]
    refine ⟨⟨by omega, by omega⟩, ⟨by omega, by omega⟩, fun h => by omega, fun _ => ⟨by omega, ⟨by omega, by omega⟩, fun h => ?_, fun h => ?_⟩⟩
    · refine ih (i + 1) (by omega) (fun j hj2 => ?_)
      by_cases e : j = i
      · subst e
        omega
      · exact hj j (by omega)
    · exact hq _ ⟨fun _ => rfl, fun h2 => absurd ⟨i, by omega, by omega⟩ h2⟩
set_option maxRecDepth 20000 in
theorem rn_X2_hasBackward : mm_RN flX2 ct_X2_hasBackward mm_x0 [] 2 0 2 kdX2_hasBackward sp_X2_hasBackward := by
  intro av M d Q h
  unfold sp_X2_hasBackward at h
  split at h
  · rename_i w
    obtain ⟨hw, ht, hv, hq⟩ := h
    have v1 := hv.1
    obtain ⟨n, hn⟩ := Int.eq_ofNat_of_zero_le v1.1
    refine ⟨Nat.le_of_ble_eq_true rfl, mm_run_at (stop := [2]) (S := rr_X2_hasBackward Q) kkX2_hasBackward 80 ?_ (fun _ _ _ _ _ _ _ h => h)⟩
    simp only [mm_wp, mm_op, mm_nxt, mm_jmp, mm_at, mm_in, mm_nth, mm_set, mm_ok, mm_isL, mm_ret, mm_isRet, mm_bool, mm_call, mm_push, mm_rv, mm_cats, mm_cat, mm_look, mm_ft, mm_fv, mm_pf, mm_thr, mm_ent, mm_pad, mm_fl, beq_self_eq_true, cond_true, cond_false, Nat.reduceBEq, Nat.reduceEqDiff, List.drop_succ_cons, List.drop_zero, List.take_succ_cons, List.take_zero, List.reverse_cons, List.reverse_nil, List.nil_append, List.cons_append, List.length_cons, List.length_nil, Nat.reduceAdd, Nat.reduceSub, Nat.reduceLeDiff, Bool.not_false, Bool.and_true, Bool.true_and, Nat.zero_add, true_and, and_true, Nat.le_refl, true_or, or_true, reduceCtorEq, Nat.add_zero, Nat.reduceLT, Bool.and_self, Bool.not_true, Fin.isValue, Nat.reduceLeDiff, List.take_nil, List.drop_nil, mm_i1, mm_i2, mm_i3, mm_i4, mm_i5, mm_i6, mm_i7, mm_i16, mm_i17, mm_i18, mm_i19, mm_i20, mm_i21, mm_i22, mm_i23, mm_l3, mm_l4, mm_l5, mm_l6, mm_l7, mm_l18, mm_l19, mm_l20, mm_l21, mm_l22, kdX2_hasBackward, ct_X2_hasBackward, flX2]
    exact lp_X2_hasBackward hw ht hv hn hq n 0 (by omega) (fun j hj => by omega)
  · exact h.elim
theorem me_X2_hasBackward {l : Launch} (hl : l.stackTraces = false) : mm_Met l yX2_hasBackward cX2_hasBackward 2 (some .boolean) [] 6 100 0 sp_X2_hasBackward := mm_mt hl rn_X2_hasBackward ⟨by decide, rfl⟩ kkX2_hasBackward rfl ⟨by decide, by decide⟩ flkX2 (fun _ h => nomatch h) (trivial) (mm_xe0 _)
def sp_X2_restart : mm_S := fun av M d Q => match av with
  | [.inr (.inr (.inl w)), .inl c] =>  isK w ∧ Q (.inl none) (mm_up (mm_up M w 2 0) w 3 c) d
  | _ => False
def ct_X2_restart : List (Nat × mm_Ca) := []
abbrev rr_X2_restart (Q : mm_Q) := mm_run (mm_look flX2) (mm_look ct_X2_restart) mm_x0 (mm_look ([] : List (Nat × Int))) (fun _ => none) 0 0 (fun _ _ => none) Q kdX2_restart
set_option maxRecDepth 20000 in
theorem rn_X2_restart : mm_RN flX2 ct_X2_restart mm_x0 [] 0 0 2 kdX2_restart sp_X2_restart := by
  intro av M d Q h
  unfold sp_X2_restart at h
  split at h
  · rename_i w c
    obtain ⟨hw, hq⟩ := h
    refine ⟨Nat.le_of_ble_eq_true rfl, mm_run_at (stop := []) (S := mm_F0) kkX2_restart 80 ?_ mm_F0h⟩
    simp only [mm_wp, mm_op, mm_nxt, mm_jmp, mm_at, mm_in, mm_nth, mm_set, mm_ok, mm_isL, mm_ret, mm_isRet, mm_bool, mm_call, mm_push, mm_rv, mm_cats, mm_cat, mm_look, mm_ft, mm_fv, mm_pf, mm_thr, mm_ent, mm_pad, mm_fl, beq_self_eq_true, cond_true, cond_false, Nat.reduceBEq, Nat.reduceEqDiff, List.drop_succ_cons, List.drop_zero, List.take_succ_cons, List.take_zero, List.reverse_cons, List.reverse_nil, List.nil_append, List.cons_append, List.length_cons, List.length_nil, Nat.reduceAdd, Nat.reduceSub, Nat.reduceLeDiff, Bool.not_false, Bool.and_true, Bool.true_and, Nat.zero_add, true_and, and_true, Nat.le_refl, true_or, or_true, reduceCtorEq, Nat.add_zero, Nat.reduceLT, Bool.and_self, Bool.not_true, Fin.isValue, Nat.reduceLeDiff, List.take_nil, List.drop_nil, mm_i1, mm_i2, mm_i3, mm_i4, mm_i5, mm_i6, mm_i7, mm_i16, mm_i17, mm_i18, mm_i19, mm_i20, mm_i21, mm_i22, mm_i23, mm_l3, mm_l4, mm_l5, mm_l6, mm_l7, mm_l18, mm_l19, mm_l20, mm_l21, mm_l22, kdX2_restart, ct_X2_restart, flX2, wk_is hw]
    repeat' (first | assumption | apply And.intro | (intro _) | apply hq)
    all_goals (try simp only [InI] at *)
    all_goals first | omega | ((repeat' split) <;> omega)
  · exact h.elim
theorem me_X2_restart {l : Launch} (hl : l.stackTraces = false) : mm_Met l yX2_restart cX2_restart 2 none [] 6 100 0 sp_X2_restart := mm_mt hl rn_X2_restart ⟨by decide, rfl⟩ kkX2_restart rfl ⟨by decide, by decide⟩ flkX2 (fun _ h => nomatch h) (trivial) (mm_xe0 _)
def sp_X2_exchange : mm_S := fun av M d Q => match av with
  | [.inr (.inr (.inl w)), .inl p, .inl s] =>  isK w ∧ wV M w ∧ InI p ∧ (0 ≤ p → p < M w 2 → Q (.inl none) (mm_up M (w + 1) p.toNat s) d) ∧ (¬ (0 ≤ p ∧ p < M w 2) → Q (.inl none) M d)
  | _ => False
def ct_X2_exchange : List (Nat × mm_Ca) := []
abbrev rr_X2_exchange (Q : mm_Q) := mm_run (mm_look flX2) (mm_look ct_X2_exchange) mm_x0 (mm_look ([] : List (Nat × Int))) (fun _ => none) 0 0 (fun _ _ => none) Q kdX2_exchange
set_option maxRecDepth 20000 in
theorem rn_X2_exchange : mm_RN flX2 ct_X2_exchange mm_x0 [] 0 0 3 kdX2_exchange sp_X2_exchange := by
  intro av M d Q h
  unfold sp_X2_exchange at h
  split at h
  · rename_i w p s
    obtain ⟨hw, hv, hp, hq1, hq2⟩ := h
    have v1 := hv.1
    refine ⟨Nat.le_of_ble_eq_true rfl, mm_run_at (stop := []) (S := mm_F0) kkX2_exchange 80 ?_ mm_F0h⟩
    simp only [mm_wp, mm_op, mm_nxt, mm_jmp, mm_at, mm_in, mm_nth, mm_set, mm_ok, mm_isL, mm_ret, mm_isRet, mm_bool, mm_call, mm_push, mm_rv, mm_cats, mm_cat, mm_look, mm_ft, mm_fv, mm_pf, mm_thr, mm_ent, mm_pad, mm_fl, beq_self_eq_true, cond_true, cond_false, Nat.reduceBEq, Nat.reduceEqDiff, List.drop_succ_cons, List.drop_zero, List.take_succ_cons, List.take_zero, List.reverse_cons, List.reverse_nil, List.nil_append, List.cons_append, List.length_cons, List.length_nil, Nat.reduceAdd, Nat.reduceSub, Nat.reduceLeDiff, Bool.not_false, Bool.and_true, Bool.true_and, Nat.zero_add, true_and, and_true, Nat.le_refl, true_or, or_true, reduceCtorEq, Nat.add_zero, Nat.reduceLT, Bool.and_self, Bool.not_true, Fin.isValue, Nat.reduceLeDiff, List.take_nil, List.drop_nil, mm_i1, mm_i2, mm_i3, mm_i4, mm_i5, mm_i6, mm_i7, mm_i16, mm_i17, mm_i18, mm_i19, mm_i20, mm_i21, mm_i22, mm_i23, mm_l3, mm_l4, mm_l5, mm_l6, mm_l7, mm_l18, mm_l19, mm_l20, mm_l21, mm_l22, kdX2_exchange, ct_X2_exchange, flX2, wk_is hw, wk_iw hw, wk_ln hw]
    exact ⟨hp, fun h => hq2 (by omega), fun h => ⟨hp, ⟨by omega, by omega⟩, fun h2 => hq2 (by omega), fun h2 => ⟨by omega, hq1 h (by omega)⟩⟩⟩
  · exact h.elim
theorem me_X2_exchange {l : Launch} (hl : l.stackTraces = false) : mm_Met l yX2_exchange cX2_exchange 3 none [] 6 100 0 sp_X2_exchange := mm_mt hl rn_X2_exchange ⟨by decide, rfl⟩ kkX2_exchange rfl ⟨by decide, by decide⟩ flkX2 (fun _ h => nomatch h) (trivial) (mm_xe0 _)

