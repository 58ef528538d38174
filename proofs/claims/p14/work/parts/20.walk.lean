section
/-! the class's walks -/
def isK (w : Nat) : Prop := w = 8 ∨ w = 10 ∨ w = 12 ∨ w = 14
theorem wk_is {w : Nat} (h : isK w) (M : mm_M) (d : List Nat) : mm_is M d w 12 := by
  rcases h with rfl | rfl | rfl | rfl <;> exact ⟨rfl, by simp [mm_ids, mm_st]⟩
theorem wk_iw {w : Nat} (h : isK w) (M : mm_M) (d : List Nat) : mm_is M d (w + 1) 1 := by
  rcases h with rfl | rfl | rfl | rfl <;> exact ⟨rfl, by simp [mm_ids, mm_st]⟩
theorem wk_ln {w : Nat} (h : isK w) (M : mm_M) : mm_ln M (w + 1) = 30 := by
  rcases h with rfl | rfl | rfl | rfl <;> rfl
theorem wk_no {w : Nat} (h : isK w) : 2 ≠ w ∧ 3 ≠ w ∧ 4 ≠ w ∧ 2 ≠ w + 1 ∧ 3 ≠ w + 1 ∧ 4 ≠ w + 1 ∧ 5 ≠ w ∧ 6 ≠ w ∧ 5 ≠ w + 1 ∧ 6 ≠ w + 1 ∧ w ≠ 0 := by
  rcases h with rfl | rfl | rfl | rfl <;> simp
theorem wk_ap {v w : Nat} (hv : isK v) (hw : isK w) (h : v ≠ w) : v ≠ w + 1 ∧ v + 1 ≠ w ∧ v + 1 ≠ w + 1 := by
  rcases hv with rfl | rfl | rfl | rfl <;> rcases hw with rfl | rfl | rfl | rfl <;> simp at h ⊢
/-- the walk is in order -/
def wV (M : mm_M) (w : Nat) : Prop := (0 ≤ M w 2 ∧ M w 2 ≤ 30) ∧ (0 ≤ M w 3 ∧ M w 3 < 10) ∧ ∀ i : Nat, i < M w 2 → 0 ≤ M (w + 1) i ∧ M (w + 1) i < 2 * M 2 4
theorem wV.to {M M' : mm_M} {w : Nat} (h : wV M w) (h1 : M' w = M w) (h2 : M' (w + 1) = M (w + 1)) (h3 : M' 2 = M 2) : wV M' w := by
  unfold wV
  rw [h1, h2, h3]
  exact h
def cor (M : mm_M) (w : Nat) (p : Int) : Int := if 0 < p ∧ p ≤ M w 2 then gl M (M (w + 1) (p - 1).toNat) else M w 3
def stp (M : mm_M) (w : Nat) (p : Int) : Int := if 0 ≤ p ∧ p < M w 2 then M (w + 1) p.toNat else -1
def sp_X2_size : mm_S := fun av M d Q => match av with
  | [.inr (.inr (.inl w))] =>  isK w ∧ Q (.inl (some (mm_I (M w 2)))) M d
  | _ => False
def ct_X2_size : List (Nat × mm_Ca) := []
abbrev rr_X2_size (Q : mm_Q) := mm_run (mm_look flX2) (mm_look ct_X2_size) mm_x0 (mm_look ([] : List (Nat × Int))) (fun _ => none) 1 0 (fun _ _ => none) Q kdX2_size
set_option maxRecDepth 20000 in
theorem rn_X2_size : mm_RN flX2 ct_X2_size mm_x0 [] 1 0 1 kdX2_size sp_X2_size := by
  intro av M d Q h
  unfold sp_X2_size at h
  split at h
  · rename_i w
    obtain ⟨hw, hq⟩ := h
    refine ⟨Nat.le_of_ble_eq_true rfl, mm_run_at (stop := []) (S := mm_F0) kkX2_size 80 ?_ mm_F0h⟩
    simp only [mm_wp, mm_op, mm_nxt, mm_jmp, mm_at, mm_in, mm_nth, mm_set, mm_ok, mm_isL, mm_ret, mm_isRet, mm_bool, mm_call, mm_push, mm_rv, mm_cats, mm_cat, mm_look, mm_ft, mm_fv, mm_pf, mm_thr, mm_ent, mm_pad, mm_fl, beq_self_eq_true, cond_true, cond_false, Nat.reduceBEq, Nat.reduceEqDiff, List.drop_succ_cons, List.drop_zero, List.take_succ_cons, List.take_zero, List.reverse_cons, List.reverse_nil, List.nil_append, List.cons_append, List.length_cons, List.length_nil, Nat.reduceAdd, Nat.reduceSub, Nat.reduceLeDiff, Bool.not_false, Bool.and_true, Bool.true_and, Nat.zero_add, true_and, and_true, Nat.le_refl, true_or, or_true, reduceCtorEq, Nat.add_zero, Nat.reduceLT, Bool.and_self, Bool.not_true, Fin.isValue, Nat.reduceLeDiff, List.take_nil, List.drop_nil, mm_i1, mm_i2, mm_i3, mm_i4, mm_i5, mm_i6, mm_i7, mm_i16, mm_i17, mm_i18, mm_i19, mm_i20, mm_i21, mm_i22, mm_i23, mm_l3, mm_l4, mm_l5, mm_l6, mm_l7, mm_l18, mm_l19, mm_l20, mm_l21, mm_l22, kdX2_size, ct_X2_size, flX2, wk_is hw]
    repeat' (first | assumption | apply And.intro | (intro _) | apply hq)
    all_goals (try simp only [InI] at *)
    all_goals first | omega | ((repeat' split) <;> omega)
  · exact h.elim
theorem plX2 : plainName RX2 = true := by decide
theorem n9X2 : ∀ q ∈ flX2, q.2.2 < 90 := by decide
theorem me_X2_size {l : Launch} (hl : l.stackTraces = false) : mm_Met l yX2_size cX2_size 1 (some .int) [] 6 100 0 sp_X2_size := mm_mt hl rn_X2_size ⟨plX2, rfl⟩ kkX2_size rfl ⟨Nat.le_of_ble_eq_true rfl, Nat.le_of_ble_eq_true rfl⟩ flkX2 (fun _ h => nomatch h) (trivial) (mm_xe0 _) n9X2
def sp_X2_firstCorner : mm_S := fun av M d Q => match av with
  | [.inr (.inr (.inl w))] =>  isK w ∧ Q (.inl (some (mm_I (M w 3)))) M d
  | _ => False
def ct_X2_firstCorner : List (Nat × mm_Ca) := []
abbrev rr_X2_firstCorner (Q : mm_Q) := mm_run (mm_look flX2) (mm_look ct_X2_firstCorner) mm_x0 (mm_look ([] : List (Nat × Int))) (fun _ => none) 1 0 (fun _ _ => none) Q kdX2_firstCorner
set_option maxRecDepth 20000 in
theorem rn_X2_firstCorner : mm_RN flX2 ct_X2_firstCorner mm_x0 [] 1 0 1 kdX2_firstCorner sp_X2_firstCorner := by
  intro av M d Q h
  unfold sp_X2_firstCorner at h
  split at h
  · rename_i w
    obtain ⟨hw, hq⟩ := h
    refine ⟨Nat.le_of_ble_eq_true rfl, mm_run_at (stop := []) (S := mm_F0) kkX2_firstCorner 80 ?_ mm_F0h⟩
    simp only [mm_wp, mm_op, mm_nxt, mm_jmp, mm_at, mm_in, mm_nth, mm_set, mm_ok, mm_isL, mm_ret, mm_isRet, mm_bool, mm_call, mm_push, mm_rv, mm_cats, mm_cat, mm_look, mm_ft, mm_fv, mm_pf, mm_thr, mm_ent, mm_pad, mm_fl, beq_self_eq_true, cond_true, cond_false, Nat.reduceBEq, Nat.reduceEqDiff, List.drop_succ_cons, List.drop_zero, List.take_succ_cons, List.take_zero, List.reverse_cons, List.reverse_nil, List.nil_append, List.cons_append, List.length_cons, List.length_nil, Nat.reduceAdd, Nat.reduceSub, Nat.reduceLeDiff, Bool.not_false, Bool.and_true, Bool.true_and, Nat.zero_add, true_and, and_true, Nat.le_refl, true_or, or_true, reduceCtorEq, Nat.add_zero, Nat.reduceLT, Bool.and_self, Bool.not_true, Fin.isValue, Nat.reduceLeDiff, List.take_nil, List.drop_nil, mm_i1, mm_i2, mm_i3, mm_i4, mm_i5, mm_i6, mm_i7, mm_i16, mm_i17, mm_i18, mm_i19, mm_i20, mm_i21, mm_i22, mm_i23, mm_l3, mm_l4, mm_l5, mm_l6, mm_l7, mm_l18, mm_l19, mm_l20, mm_l21, mm_l22, kdX2_firstCorner, ct_X2_firstCorner, flX2, wk_is hw]
    repeat' (first | assumption | apply And.intro | (intro _) | apply hq)
    all_goals (try simp only [InI] at *)
    all_goals first | omega | ((repeat' split) <;> omega)
  · exact h.elim
theorem me_X2_firstCorner {l : Launch} (hl : l.stackTraces = false) : mm_Met l yX2_firstCorner cX2_firstCorner 1 (some .int) [] 6 100 0 sp_X2_firstCorner := mm_mt hl rn_X2_firstCorner ⟨plX2, rfl⟩ kkX2_firstCorner rfl ⟨Nat.le_of_ble_eq_true rfl, Nat.le_of_ble_eq_true rfl⟩ flkX2 (fun _ h => nomatch h) (trivial) (mm_xe0 _) n9X2
def sp_X2_cornerOf : mm_S := fun av M d Q => match av with
  | [.inr (.inr (.inl w)), .inl p] =>  isK w ∧ tW M ∧ wV M w ∧ InI p ∧ ∀ r, r = cor M w p ∧ 0 ≤ r ∧ r < 10 → Q (.inl (some (mm_I r))) M d
  | _ => False
def ct_X2_cornerOf : List (Nat × mm_Ca) := [(30, (0, 2, 11, sp_X1_goalOf, 0))]
abbrev rr_X2_cornerOf (Q : mm_Q) := mm_run (mm_look flX2) (mm_look ct_X2_cornerOf) mm_x0 (mm_look ([] : List (Nat × Int))) (fun _ => none) 1 0 (fun _ _ => none) Q kdX2_cornerOf
set_option maxRecDepth 20000 in
theorem rn_X2_cornerOf : mm_RN flX2 ct_X2_cornerOf mm_x0 [] 1 0 2 kdX2_cornerOf sp_X2_cornerOf := by
  intro av M d Q h
  unfold sp_X2_cornerOf at h
  split at h
  · rename_i w p
    obtain ⟨hw, ht, hv, hp, hq⟩ := h
    have h1 := ht.1
    obtain ⟨v1, v2, v3⟩ := id hv
    refine ⟨Nat.le_of_ble_eq_true rfl, mm_run_at (stop := []) (S := mm_F0) kkX2_cornerOf 80 ?_ mm_F0h⟩
    simp only [mm_wp, mm_op, mm_nxt, mm_jmp, mm_at, mm_in, mm_nth, mm_set, mm_ok, mm_isL, mm_ret, mm_isRet, mm_bool, mm_call, mm_push, mm_rv, mm_cats, mm_cat, mm_look, mm_ft, mm_fv, mm_pf, mm_thr, mm_ent, mm_pad, mm_fl, beq_self_eq_true, cond_true, cond_false, Nat.reduceBEq, Nat.reduceEqDiff, List.drop_succ_cons, List.drop_zero, List.take_succ_cons, List.take_zero, List.reverse_cons, List.reverse_nil, List.nil_append, List.cons_append, List.length_cons, List.length_nil, Nat.reduceAdd, Nat.reduceSub, Nat.reduceLeDiff, Bool.not_false, Bool.and_true, Bool.true_and, Nat.zero_add, true_and, and_true, Nat.le_refl, true_or, or_true, reduceCtorEq, Nat.add_zero, Nat.reduceLT, Bool.and_self, Bool.not_true, Fin.isValue, Nat.reduceLeDiff, List.take_nil, List.drop_nil, mm_i1, mm_i2, mm_i3, mm_i4, mm_i5, mm_i6, mm_i7, mm_i16, mm_i17, mm_i18, mm_i19, mm_i20, mm_i21, mm_i22, mm_i23, mm_l3, mm_l4, mm_l5, mm_l6, mm_l7, mm_l18, mm_l19, mm_l20, mm_l21, mm_l22, kdX2_cornerOf, ct_X2_cornerOf, flX2, sp_X1_goalOf, wk_is hw, wk_iw hw, wk_ln hw]
    refine ⟨hp, fun h => hq _ ⟨by unfold cor; rw [if_neg (by omega)], v2⟩, fun h => ⟨hp, ⟨by omega, by omega⟩, fun h2 => hq _ ⟨by unfold cor; rw [if_neg (by omega)], v2⟩, fun h2 => ?_⟩⟩
    have v4 := v3 (p - 1).toNat (by omega)
    refine ⟨by omega, ht, v4, fun r hr => hq r ⟨by unfold cor; rw [if_pos (by omega)]; exact hr.1, hr.2⟩⟩
  · exact h.elim
theorem me_X2_cornerOf {l : Launch} (hl : l.stackTraces = false) : mm_Met l yX2_cornerOf cX2_cornerOf 2 (some .int) [] 8 143 0 sp_X2_cornerOf := mm_mt hl rn_X2_cornerOf ⟨plX2, rfl⟩ kkX2_cornerOf rfl ⟨Nat.le_of_ble_eq_true rfl, Nat.le_of_ble_eq_true rfl⟩ flkX2 (fun _ h => nomatch h) (⟨mm_pe (me_X1_goalOf hl) mwX1_goalOf (mm_t1 195 rfl rfl) (Nat.le_of_ble_eq_true rfl) (Nat.le_of_ble_eq_true rfl), trivial⟩) (mm_xe0 _) n9X2
def sp_X2_lastCorner : mm_S := fun av M d Q => match av with
  | [.inr (.inr (.inl w))] =>  isK w ∧ tW M ∧ wV M w ∧ ∀ r, r = cor M w (M w 2) ∧ 0 ≤ r ∧ r < 10 → Q (.inl (some (mm_I r))) M d
  | _ => False
def ct_X2_lastCorner : List (Nat × mm_Ca) := [(26, (0, 2, 12, sp_X2_cornerOf, 0))]
abbrev rr_X2_lastCorner (Q : mm_Q) := mm_run (mm_look flX2) (mm_look ct_X2_lastCorner) mm_x0 (mm_look ([] : List (Nat × Int))) (fun _ => none) 1 0 (fun _ _ => none) Q kdX2_lastCorner
set_option maxRecDepth 20000 in
theorem rn_X2_lastCorner : mm_RN flX2 ct_X2_lastCorner mm_x0 [] 1 0 1 kdX2_lastCorner sp_X2_lastCorner := by
  intro av M d Q h
  unfold sp_X2_lastCorner at h
  split at h
  · rename_i w
    obtain ⟨hw, ht, hv, hq⟩ := h
    have v1 := hv.1
    refine ⟨Nat.le_of_ble_eq_true rfl, mm_run_at (stop := []) (S := mm_F0) kkX2_lastCorner 80 ?_ mm_F0h⟩
    simp only [mm_wp, mm_op, mm_nxt, mm_jmp, mm_at, mm_in, mm_nth, mm_set, mm_ok, mm_isL, mm_ret, mm_isRet, mm_bool, mm_call, mm_push, mm_rv, mm_cats, mm_cat, mm_look, mm_ft, mm_fv, mm_pf, mm_thr, mm_ent, mm_pad, mm_fl, beq_self_eq_true, cond_true, cond_false, Nat.reduceBEq, Nat.reduceEqDiff, List.drop_succ_cons, List.drop_zero, List.take_succ_cons, List.take_zero, List.reverse_cons, List.reverse_nil, List.nil_append, List.cons_append, List.length_cons, List.length_nil, Nat.reduceAdd, Nat.reduceSub, Nat.reduceLeDiff, Bool.not_false, Bool.and_true, Bool.true_and, Nat.zero_add, true_and, and_true, Nat.le_refl, true_or, or_true, reduceCtorEq, Nat.add_zero, Nat.reduceLT, Bool.and_self, Bool.not_true, Fin.isValue, Nat.reduceLeDiff, List.take_nil, List.drop_nil, mm_i1, mm_i2, mm_i3, mm_i4, mm_i5, mm_i6, mm_i7, mm_i16, mm_i17, mm_i18, mm_i19, mm_i20, mm_i21, mm_i22, mm_i23, mm_l3, mm_l4, mm_l5, mm_l6, mm_l7, mm_l18, mm_l19, mm_l20, mm_l21, mm_l22, kdX2_lastCorner, ct_X2_lastCorner, flX2, sp_X2_cornerOf, wk_is hw]
    exact ⟨hw, ht, hv, ⟨by omega, by omega⟩, fun r hr => hq r hr⟩
  · exact h.elim
theorem me_X2_lastCorner {l : Launch} (hl : l.stackTraces = false) : mm_Met l yX2_lastCorner cX2_lastCorner 1 (some .int) [] 9 164 0 sp_X2_lastCorner := mm_mt hl rn_X2_lastCorner ⟨plX2, rfl⟩ kkX2_lastCorner rfl ⟨Nat.le_of_ble_eq_true rfl, Nat.le_of_ble_eq_true rfl⟩ flkX2 (fun _ h => nomatch h) (⟨mm_pe (me_X2_cornerOf hl) mwX2_cornerOf (mm_t1 191 rfl rfl) (Nat.le_of_ble_eq_true rfl) (Nat.le_of_ble_eq_true rfl), trivial⟩) (mm_xe0 _) n9X2
def sp_X2_stepOf : mm_S := fun av M d Q => match av with
  | [.inr (.inr (.inl w)), .inl p] =>  isK w ∧ tW M ∧ wV M w ∧ InI p ∧ ∀ r, r = stp M w p ∧ -1 ≤ r ∧ r < 2 * M 2 4 → Q (.inl (some (mm_I r))) M d
  | _ => False
def ct_X2_stepOf : List (Nat × mm_Ca) := []
abbrev rr_X2_stepOf (Q : mm_Q) := mm_run (mm_look flX2) (mm_look ct_X2_stepOf) mm_x0 (mm_look ([] : List (Nat × Int))) (fun _ => none) 1 0 (fun _ _ => none) Q kdX2_stepOf
set_option maxRecDepth 20000 in
theorem rn_X2_stepOf : mm_RN flX2 ct_X2_stepOf mm_x0 [] 1 0 2 kdX2_stepOf sp_X2_stepOf := by
  intro av M d Q h
  unfold sp_X2_stepOf at h
  split at h
  · rename_i w p
    obtain ⟨hw, ht, hv, hp, hq⟩ := h
    have h1 := ht.1
    obtain ⟨v1, v2, v3⟩ := id hv
    refine ⟨Nat.le_of_ble_eq_true rfl, mm_run_at (stop := []) (S := mm_F0) kkX2_stepOf 80 ?_ mm_F0h⟩
    simp only [mm_wp, mm_op, mm_nxt, mm_jmp, mm_at, mm_in, mm_nth, mm_set, mm_ok, mm_isL, mm_ret, mm_isRet, mm_bool, mm_call, mm_push, mm_rv, mm_cats, mm_cat, mm_look, mm_ft, mm_fv, mm_pf, mm_thr, mm_ent, mm_pad, mm_fl, beq_self_eq_true, cond_true, cond_false, Nat.reduceBEq, Nat.reduceEqDiff, List.drop_succ_cons, List.drop_zero, List.take_succ_cons, List.take_zero, List.reverse_cons, List.reverse_nil, List.nil_append, List.cons_append, List.length_cons, List.length_nil, Nat.reduceAdd, Nat.reduceSub, Nat.reduceLeDiff, Bool.not_false, Bool.and_true, Bool.true_and, Nat.zero_add, true_and, and_true, Nat.le_refl, true_or, or_true, reduceCtorEq, Nat.add_zero, Nat.reduceLT, Bool.and_self, Bool.not_true, Fin.isValue, Nat.reduceLeDiff, List.take_nil, List.drop_nil, mm_i1, mm_i2, mm_i3, mm_i4, mm_i5, mm_i6, mm_i7, mm_i16, mm_i17, mm_i18, mm_i19, mm_i20, mm_i21, mm_i22, mm_i23, mm_l3, mm_l4, mm_l5, mm_l6, mm_l7, mm_l18, mm_l19, mm_l20, mm_l21, mm_l22, kdX2_stepOf, ct_X2_stepOf, flX2, wk_is hw, wk_iw hw, wk_ln hw]
    have hn : ¬ (0 ≤ p ∧ p < M w 2) → Q (.inl (some (mm_I (-1)))) M d := fun h => hq _ ⟨by unfold stp; rw [if_neg h], by omega, by omega⟩
    refine ⟨hp, fun h => hn (by omega), fun h => ⟨hp, ⟨by omega, by omega⟩, fun h2 => hn (by omega), fun h2 => ?_⟩⟩
    have v4 := v3 p.toNat (by omega)
    refine ⟨by omega, hq _ ⟨by unfold stp; rw [if_pos (by omega)], by omega, by omega⟩⟩
  · exact h.elim
theorem me_X2_stepOf {l : Launch} (hl : l.stackTraces = false) : mm_Met l yX2_stepOf cX2_stepOf 2 (some .int) [] 6 100 0 sp_X2_stepOf := mm_mt hl rn_X2_stepOf ⟨plX2, rfl⟩ kkX2_stepOf rfl ⟨Nat.le_of_ble_eq_true rfl, Nat.le_of_ble_eq_true rfl⟩ flkX2 (fun _ h => nomatch h) (trivial) (mm_xe0 _) n9X2
def sp_X2_placeOf : mm_S := fun av M d Q => match av with
  | [.inr (.inr (.inl w)), .inl s] =>  isK w ∧ tW M ∧ wV M w ∧ InI s ∧ ∀ r, ((r = -1 ∧ ∀ i : Nat, i < M w 2 → M (w + 1) i / 2 ≠ s) ∨ (0 ≤ r ∧ r < M w 2 ∧ M (w + 1) r.toNat / 2 = s ∧ ∀ i : Nat, i < r → M (w + 1) i / 2 ≠ s)) → Q (.inl (some (mm_I r))) M d
  | _ => False
def ct_X2_placeOf : List (Nat × mm_Ca) := []
abbrev rr_X2_placeOf (Q : mm_Q) := mm_run (mm_look flX2) (mm_look ct_X2_placeOf) mm_x0 (mm_look ([] : List (Nat × Int))) (fun _ => none) 1 0 (fun _ _ => none) Q kdX2_placeOf
set_option maxRecDepth 20000 in
theorem lp_X2_placeOf {M : mm_M} {d : List Nat} {Q : mm_Q} {w n : Nat} {s : Int} (hw : isK w) (ht : tW M) (hv : wV M w) (hs : InI s) (hn : M w 2 = n) (hq : ∀ r, ((r = -1 ∧ ∀ i : Nat, i < M w 2 → M (w + 1) i / 2 ≠ s) ∨ (0 ≤ r ∧ r < M w 2 ∧ M (w + 1) r.toNat / 2 = s ∧ ∀ i : Nat, i < r → M (w + 1) i / 2 ≠ s)) → Q (.inl (some (mm_I r))) M d) : ∀ (k i : Nat), i + k = n → (∀ j : Nat, j < i → M (w + 1) j / 2 ≠ s) → rr_X2_placeOf Q 2 [some (mm_R w), some (mm_I s), some (mm_I i)] [] M d 0 := by
  obtain ⟨v1, v2, v3⟩ := id hv
  have h1 := ht.1
  intro k
  induction k with
  | zero =>
    intro i hi hj
    refine mm_run_at (stop := [2]) (S := rr_X2_placeOf Q) kkX2_placeOf 60 ?_ (fun _ _ _ _ _ _ _ h => h)
    simp only [mm_wp, mm_op, mm_nxt, mm_jmp, mm_at, mm_in, mm_nth, mm_set, mm_ok, mm_isL, mm_ret, mm_isRet, mm_bool, mm_call, mm_push, mm_rv, mm_cats, mm_cat, mm_look, mm_ft, mm_fv, mm_pf, mm_thr, mm_ent, mm_pad, mm_fl, beq_self_eq_true, cond_true, cond_false, Nat.reduceBEq, Nat.reduceEqDiff, List.drop_succ_cons, List.drop_zero, List.take_succ_cons, List.take_zero, List.reverse_cons, List.reverse_nil, List.nil_append, List.cons_append, List.length_cons, List.length_nil, Nat.reduceAdd, Nat.reduceSub, Nat.reduceLeDiff, Bool.not_false, Bool.and_true, Bool.true_and, Nat.zero_add, true_and, and_true, Nat.le_refl, true_or, or_true, reduceCtorEq, Nat.add_zero, Nat.reduceLT, Bool.and_self, Bool.not_true, Fin.isValue, Nat.reduceLeDiff, List.take_nil, List.drop_nil, mm_i1, mm_i2, mm_i3, mm_i4, mm_i5, mm_i6, mm_i7, mm_i16, mm_i17, mm_i18, mm_i19, mm_i20, mm_i21, mm_i22, mm_i23, mm_l3, mm_l4, mm_l5, mm_l6, mm_l7, mm_l18, mm_l19, mm_l20, mm_l21, mm_l22, kdX2_placeOf, ct_X2_placeOf, flX2, wk_is hw, wk_iw hw, wk_ln hw]
    exact ⟨⟨by omega, by omega⟩, ⟨by omega, by omega⟩, fun _ => hq _ (Or.inl ⟨rfl, fun j h => hj j (by omega)⟩), fun h => by omega⟩
  | succ k ih =>
    intro i hi hj
    refine mm_run_at (stop := [2]) (S := rr_X2_placeOf Q) kkX2_placeOf 60 ?_ (fun _ _ _ _ _ _ _ h => h)
    simp only [mm_wp, mm_op, mm_nxt, mm_jmp, mm_at, mm_in, mm_nth, mm_set, mm_ok, mm_isL, mm_ret, mm_isRet, mm_bool, mm_call, mm_push, mm_rv, mm_cats, mm_cat, mm_look, mm_ft, mm_fv, mm_pf, mm_thr, mm_ent, mm_pad, mm_fl, beq_self_eq_true, cond_true, cond_false, Nat.reduceBEq, Nat.reduceEqDiff, List.drop_succ_cons, List.drop_zero, List.take_succ_cons, List.take_zero, List.reverse_cons, List.reverse_nil, List.nil_append, List.cons_append, List.length_cons, List.length_nil, Nat.reduceAdd, Nat.reduceSub, Nat.reduceLeDiff, Bool.not_false, Bool.and_true, Bool.true_and, Nat.zero_add, true_and, and_true, Nat.le_refl, true_or, or_true, reduceCtorEq, Nat.add_zero, Nat.reduceLT, Bool.and_self, Bool.not_true, Fin.isValue, Nat.reduceLeDiff, List.take_nil, List.drop_nil, mm_i1, mm_i2, mm_i3, mm_i4, mm_i5, mm_i6, mm_i7, mm_i16, mm_i17, mm_i18, mm_i19, mm_i20, mm_i21, mm_i22, mm_i23, mm_l3, mm_l4, mm_l5, mm_l6, mm_l7, mm_l18, mm_l19, mm_l20, mm_l21, mm_l22, kdX2_placeOf, ct_X2_placeOf, flX2, wk_is hw, wk_iw hw, wk_ln hw, tp1]
    have v4 := v3 i (by omega)
    simp only [Int.toNat_natCast]
    refine ⟨⟨by omega, by omega⟩, ⟨by omega, by omega⟩, fun h => by omega, fun _ => ⟨by omega, ⟨by omega, by omega⟩, by omega, ⟨by omega, by omega⟩, hs, fun h => ?_, fun h => ?_⟩⟩
    · refine ih (i + 1) (by omega) (fun j hj2 => ?_)
      by_cases e : j = i
      · subst e
        exact h
      · exact hj j (by omega)
    · exact hq _ (Or.inr ⟨by omega, by omega, h, fun j h => hj j (by omega)⟩)
set_option maxRecDepth 20000 in
theorem rn_X2_placeOf : mm_RN flX2 ct_X2_placeOf mm_x0 [] 1 0 3 kdX2_placeOf sp_X2_placeOf := by
  intro av M d Q h
  unfold sp_X2_placeOf at h
  split at h
  · rename_i w s
    obtain ⟨hw, ht, hv, hs, hq⟩ := h
    have v1 := hv.1
    obtain ⟨n, hn⟩ := Int.eq_ofNat_of_zero_le v1.1
    refine ⟨Nat.le_of_ble_eq_true rfl, mm_run_at (stop := [2]) (S := rr_X2_placeOf Q) kkX2_placeOf 80 ?_ (fun _ _ _ _ _ _ _ h => h)⟩
    simp only [mm_wp, mm_op, mm_nxt, mm_jmp, mm_at, mm_in, mm_nth, mm_set, mm_ok, mm_isL, mm_ret, mm_isRet, mm_bool, mm_call, mm_push, mm_rv, mm_cats, mm_cat, mm_look, mm_ft, mm_fv, mm_pf, mm_thr, mm_ent, mm_pad, mm_fl, beq_self_eq_true, cond_true, cond_false, Nat.reduceBEq, Nat.reduceEqDiff, List.drop_succ_cons, List.drop_zero, List.take_succ_cons, List.take_zero, List.reverse_cons, List.reverse_nil, List.nil_append, List.cons_append, List.length_cons, List.length_nil, Nat.reduceAdd, Nat.reduceSub, Nat.reduceLeDiff, Bool.not_false, Bool.and_true, Bool.true_and, Nat.zero_add, true_and, and_true, Nat.le_refl, true_or, or_true, reduceCtorEq, Nat.add_zero, Nat.reduceLT, Bool.and_self, Bool.not_true, Fin.isValue, Nat.reduceLeDiff, List.take_nil, List.drop_nil, mm_i1, mm_i2, mm_i3, mm_i4, mm_i5, mm_i6, mm_i7, mm_i16, mm_i17, mm_i18, mm_i19, mm_i20, mm_i21, mm_i22, mm_i23, mm_l3, mm_l4, mm_l5, mm_l6, mm_l7, mm_l18, mm_l19, mm_l20, mm_l21, mm_l22, kdX2_placeOf, ct_X2_placeOf, flX2]
    exact lp_X2_placeOf hw ht hv hs hn hq n 0 (by omega) (fun j hj => by omega)
  · exact h.elim
theorem me_X2_placeOf {l : Launch} (hl : l.stackTraces = false) : mm_Met l yX2_placeOf cX2_placeOf 3 (some .int) [] 6 100 0 sp_X2_placeOf := mm_mt hl rn_X2_placeOf ⟨plX2, rfl⟩ kkX2_placeOf rfl ⟨Nat.le_of_ble_eq_true rfl, Nat.le_of_ble_eq_true rfl⟩ flkX2 (fun _ h => nomatch h) (trivial) (mm_xe0 _) n9X2
def sp_X2_placeOfCorner : mm_S := fun av M d Q => match av with
  | [.inr (.inr (.inl w)), .inl c] =>  isK w ∧ tW M ∧ wV M w ∧ InI c ∧ ∀ r, ((r = -1 ∧ ∀ i : Nat, i ≤ M w 2 → cor M w i ≠ c) ∨ (0 ≤ r ∧ r ≤ M w 2 ∧ cor M w r = c ∧ ∀ i : Nat, i < r → cor M w i ≠ c)) → Q (.inl (some (mm_I r))) M d
  | _ => False
def ct_X2_placeOfCorner : List (Nat × mm_Ca) := [(26, (0, 2, 12, sp_X2_cornerOf, 0))]
abbrev rr_X2_placeOfCorner (Q : mm_Q) := mm_run (mm_look flX2) (mm_look ct_X2_placeOfCorner) mm_x0 (mm_look ([] : List (Nat × Int))) (fun _ => none) 1 0 (fun _ _ => none) Q kdX2_placeOfCorner
set_option maxRecDepth 20000 in
theorem lp_X2_placeOfCorner {M : mm_M} {d : List Nat} {Q : mm_Q} {w n : Nat} {c : Int} (hw : isK w) (ht : tW M) (hv : wV M w) (hs : InI c) (hn : M w 2 = n) (hq : ∀ r, ((r = -1 ∧ ∀ i : Nat, i ≤ M w 2 → cor M w i ≠ c) ∨ (0 ≤ r ∧ r ≤ M w 2 ∧ cor M w r = c ∧ ∀ i : Nat, i < r → cor M w i ≠ c)) → Q (.inl (some (mm_I r))) M d) : ∀ (k i : Nat), i + k = n + 1 → (∀ j : Nat, j < i → cor M w j ≠ c) → rr_X2_placeOfCorner Q 2 [some (mm_R w), some (mm_I c), some (mm_I i)] [] M d 0 := by
  obtain ⟨v1, v2, v3⟩ := id hv
  intro k
  induction k with
  | zero =>
    intro i hi hj
    refine mm_run_at (stop := [2]) (S := rr_X2_placeOfCorner Q) kkX2_placeOfCorner 60 ?_ (fun _ _ _ _ _ _ _ h => h)
    simp only [mm_wp, mm_op, mm_nxt, mm_jmp, mm_at, mm_in, mm_nth, mm_set, mm_ok, mm_isL, mm_ret, mm_isRet, mm_bool, mm_call, mm_push, mm_rv, mm_cats, mm_cat, mm_look, mm_ft, mm_fv, mm_pf, mm_thr, mm_ent, mm_pad, mm_fl, beq_self_eq_true, cond_true, cond_false, Nat.reduceBEq, Nat.reduceEqDiff, List.drop_succ_cons, List.drop_zero, List.take_succ_cons, List.take_zero, List.reverse_cons, List.reverse_nil, List.nil_append, List.cons_append, List.length_cons, List.length_nil, Nat.reduceAdd, Nat.reduceSub, Nat.reduceLeDiff, Bool.not_false, Bool.and_true, Bool.true_and, Nat.zero_add, true_and, and_true, Nat.le_refl, true_or, or_true, reduceCtorEq, Nat.add_zero, Nat.reduceLT, Bool.and_self, Bool.not_true, Fin.isValue, Nat.reduceLeDiff, List.take_nil, List.drop_nil, mm_i1, mm_i2, mm_i3, mm_i4, mm_i5, mm_i6, mm_i7, mm_i16, mm_i17, mm_i18, mm_i19, mm_i20, mm_i21, mm_i22, mm_i23, mm_l3, mm_l4, mm_l5, mm_l6, mm_l7, mm_l18, mm_l19, mm_l20, mm_l21, mm_l22, kdX2_placeOfCorner, ct_X2_placeOfCorner, flX2, sp_X2_cornerOf, wk_is hw, wk_iw hw, wk_ln hw]
    exact ⟨⟨by omega, by omega⟩, ⟨by omega, by omega⟩, fun _ => hq _ (Or.inl ⟨rfl, fun j h => hj j (by omega)⟩), fun h => by omega⟩
  | succ k ih =>
    intro i hi hj
    refine mm_run_at (stop := [2]) (S := rr_X2_placeOfCorner Q) kkX2_placeOfCorner 60 ?_ (fun _ _ _ _ _ _ _ h => h)
    simp only [mm_wp, mm_op, mm_nxt, mm_jmp, mm_at, mm_in, mm_nth, mm_set, mm_ok, mm_isL, mm_ret, mm_isRet, mm_bool, mm_call, mm_push, mm_rv, mm_cats, mm_cat, mm_look, mm_ft, mm_fv, mm_pf, mm_thr, mm_ent, mm_pad, mm_fl, beq_self_eq_true, cond_true, cond_false, Nat.reduceBEq, Nat.reduceEqDiff, List.drop_succ_cons, List.drop_zero, List.take_succ_cons, List.take_zero, List.reverse_cons, List.reverse_nil, List.nil_append, List.cons_append, List.length_cons, List.length_nil, Nat.reduceAdd, Nat.reduceSub, Nat.reduceLeDiff, Bool.not_false, Bool.and_true, Bool.true_and, Nat.zero_add, true_and, and_true, Nat.le_refl, true_or, or_true, reduceCtorEq, Nat.add_zero, Nat.reduceLT, Bool.and_self, Bool.not_true, Fin.isValue, Nat.reduceLeDiff, List.take_nil, List.drop_nil, mm_i1, mm_i2, mm_i3, mm_i4, mm_i5, mm_i6, mm_i7, mm_i16, mm_i17, mm_i18, mm_i19, mm_i20, mm_i21, mm_i22, mm_i23, mm_l3, mm_l4, mm_l5, mm_l6, mm_l7, mm_l18, mm_l19, mm_l20, mm_l21, mm_l22, kdX2_placeOfCorner, ct_X2_placeOfCorner, flX2, sp_X2_cornerOf, wk_is hw, wk_iw hw, wk_ln hw]
    refine ⟨⟨by omega, by omega⟩, ⟨by omega, by omega⟩, fun h => by omega, fun _ => ⟨hw, ht, hv, ⟨by omega, by omega⟩, fun r hr => ⟨⟨by omega, by omega⟩, hs, fun h => ?_, fun h => ?_⟩⟩⟩
    · refine ih (i + 1) (by omega) (fun j hj2 => ?_)
      by_cases e : j = i
      · subst e
        rw [← hr.1]
        exact h
      · exact hj j (by omega)
    · exact hq _ (Or.inr ⟨by omega, by omega, by rw [← hr.1]; exact h, fun j h => hj j (by omega)⟩)
set_option maxRecDepth 20000 in
theorem rn_X2_placeOfCorner : mm_RN flX2 ct_X2_placeOfCorner mm_x0 [] 1 0 3 kdX2_placeOfCorner sp_X2_placeOfCorner := by
  intro av M d Q h
  unfold sp_X2_placeOfCorner at h
  split at h
  · rename_i w c
    obtain ⟨hw, ht, hv, hs, hq⟩ := h
    have v1 := hv.1
    obtain ⟨n, hn⟩ := Int.eq_ofNat_of_zero_le v1.1
    refine ⟨Nat.le_of_ble_eq_true rfl, mm_run_at (stop := [2]) (S := rr_X2_placeOfCorner Q) kkX2_placeOfCorner 80 ?_ (fun _ _ _ _ _ _ _ h => h)⟩
    simp only [mm_wp, mm_op, mm_nxt, mm_jmp, mm_at, mm_in, mm_nth, mm_set, mm_ok, mm_isL, mm_ret, mm_isRet, mm_bool, mm_call, mm_push, mm_rv, mm_cats, mm_cat, mm_look, mm_ft, mm_fv, mm_pf, mm_thr, mm_ent, mm_pad, mm_fl, beq_self_eq_true, cond_true, cond_false, Nat.reduceBEq, Nat.reduceEqDiff, List.drop_succ_cons, List.drop_zero, List.take_succ_cons, List.take_zero, List.reverse_cons, List.reverse_nil, List.nil_append, List.cons_append, List.length_cons, List.length_nil, Nat.reduceAdd, Nat.reduceSub, Nat.reduceLeDiff, Bool.not_false, Bool.and_true, Bool.true_and, Nat.zero_add, true_and, and_true, Nat.le_refl, true_or, or_true, reduceCtorEq, Nat.add_zero, Nat.reduceLT, Bool.and_self, Bool.not_true, Fin.isValue, Nat.reduceLeDiff, List.take_nil, List.drop_nil, mm_i1, mm_i2, mm_i3, mm_i4, mm_i5, mm_i6, mm_i7, mm_i16, mm_i17, mm_i18, mm_i19, mm_i20, mm_i21, mm_i22, mm_i23, mm_l3, mm_l4, mm_l5, mm_l6, mm_l7, mm_l18, mm_l19, mm_l20, mm_l21, mm_l22, kdX2_placeOfCorner, ct_X2_placeOfCorner, flX2, sp_X2_cornerOf]
    exact lp_X2_placeOfCorner hw ht hv hs hn hq (n + 1) 0 (by omega) (fun j hj => by omega)
  · exact h.elim
theorem me_X2_placeOfCorner {l : Launch} (hl : l.stackTraces = false) : mm_Met l yX2_placeOfCorner cX2_placeOfCorner 3 (some .int) [] 9 164 0 sp_X2_placeOfCorner := mm_mt hl rn_X2_placeOfCorner ⟨plX2, rfl⟩ kkX2_placeOfCorner rfl ⟨Nat.le_of_ble_eq_true rfl, Nat.le_of_ble_eq_true rfl⟩ flkX2 (fun _ h => nomatch h) (⟨mm_pe (me_X2_cornerOf hl) mwX2_cornerOf (mm_t1 191 rfl rfl) (Nat.le_of_ble_eq_true rfl) (Nat.le_of_ble_eq_true rfl), trivial⟩) (mm_xe0 _) n9X2
def sp_X2_isHome : mm_S := fun av M d Q => match av with
  | [.inr (.inr (.inl w))] =>  isK w ∧ tW M ∧ wV M w ∧ ∀ r, (cor M w (M w 2) = M w 3 → r = 1) ∧ (cor M w (M w 2) ≠ M w 3 → r = 0) → Q (.inl (some (mm_I r))) M d
  | _ => False
def ct_X2_isHome : List (Nat × mm_Ca) := [(26, (0, 2, 12, sp_X2_cornerOf, 0))]
abbrev rr_X2_isHome (Q : mm_Q) := mm_run (mm_look flX2) (mm_look ct_X2_isHome) mm_x0 (mm_look ([] : List (Nat × Int))) (fun _ => none) 2 0 (fun _ _ => none) Q kdX2_isHome
set_option maxRecDepth 20000 in
theorem rn_X2_isHome : mm_RN flX2 ct_X2_isHome mm_x0 [] 2 0 1 kdX2_isHome sp_X2_isHome := by
  intro av M d Q h
  unfold sp_X2_isHome at h
  split at h
  · rename_i w
    obtain ⟨hw, ht, hv, hq⟩ := h
    have v1 := hv.1
    have v2 := hv.2.1
    refine ⟨Nat.le_of_ble_eq_true rfl, mm_run_at (stop := []) (S := mm_F0) kkX2_isHome 80 ?_ mm_F0h⟩
    simp only [mm_wp, mm_op, mm_nxt, mm_jmp, mm_at, mm_in, mm_nth, mm_set, mm_ok, mm_isL, mm_ret, mm_isRet, mm_bool, mm_call, mm_push, mm_rv, mm_cats, mm_cat, mm_look, mm_ft, mm_fv, mm_pf, mm_thr, mm_ent, mm_pad, mm_fl, beq_self_eq_true, cond_true, cond_false, Nat.reduceBEq, Nat.reduceEqDiff, List.drop_succ_cons, List.drop_zero, List.take_succ_cons, List.take_zero, List.reverse_cons, List.reverse_nil, List.nil_append, List.cons_append, List.length_cons, List.length_nil, Nat.reduceAdd, Nat.reduceSub, Nat.reduceLeDiff, Bool.not_false, Bool.and_true, Bool.true_and, Nat.zero_add, true_and, and_true, Nat.le_refl, true_or, or_true, reduceCtorEq, Nat.add_zero, Nat.reduceLT, Bool.and_self, Bool.not_true, Fin.isValue, Nat.reduceLeDiff, List.take_nil, List.drop_nil, mm_i1, mm_i2, mm_i3, mm_i4, mm_i5, mm_i6, mm_i7, mm_i16, mm_i17, mm_i18, mm_i19, mm_i20, mm_i21, mm_i22, mm_i23, mm_l3, mm_l4, mm_l5, mm_l6, mm_l7, mm_l18, mm_l19, mm_l20, mm_l21, mm_l22, kdX2_isHome, ct_X2_isHome, flX2, sp_X2_cornerOf, wk_is hw]
    refine ⟨hw, ht, hv, ⟨by omega, by omega⟩, fun r hr => ⟨⟨by omega, by omega⟩, ⟨by omega, by omega⟩, fun h => ?_, fun h => ?_⟩⟩
    · exact hq _ ⟨fun h2 => by omega, fun _ => rfl⟩
    · exact hq _ ⟨fun _ => rfl, fun h2 => by omega⟩
  · exact h.elim
theorem me_X2_isHome {l : Launch} (hl : l.stackTraces = false) : mm_Met l yX2_isHome cX2_isHome 1 (some .boolean) [] 9 164 0 sp_X2_isHome := mm_mt hl rn_X2_isHome ⟨plX2, rfl⟩ kkX2_isHome rfl ⟨Nat.le_of_ble_eq_true rfl, Nat.le_of_ble_eq_true rfl⟩ flkX2 (fun _ h => nomatch h) (⟨mm_pe (me_X2_cornerOf hl) mwX2_cornerOf (mm_t1 191 rfl rfl) (Nat.le_of_ble_eq_true rfl) (Nat.le_of_ble_eq_true rfl), trivial⟩) (mm_xe0 _) n9X2
def sp_X2_isWhole : mm_S := fun av M d Q => match av with
  | [.inr (.inr (.inl w))] =>  isK w ∧ tW M ∧ wV M w ∧ ∀ r, (M w 2 = M 2 4 → r = 1) ∧ (M w 2 ≠ M 2 4 → r = 0) → Q (.inl (some (mm_I r))) M d
  | _ => False
def ct_X2_isWhole : List (Nat × mm_Ca) := [(35, (0, 1, 11, sp_X1_size, 0))]
abbrev rr_X2_isWhole (Q : mm_Q) := mm_run (mm_look flX2) (mm_look ct_X2_isWhole) mm_x0 (mm_look ([] : List (Nat × Int))) (fun _ => none) 2 0 (fun _ _ => none) Q kdX2_isWhole
set_option maxRecDepth 20000 in
theorem rn_X2_isWhole : mm_RN flX2 ct_X2_isWhole mm_x0 [] 2 0 1 kdX2_isWhole sp_X2_isWhole := by
  intro av M d Q h
  unfold sp_X2_isWhole at h
  split at h
  · rename_i w
    obtain ⟨hw, ht, hv, hq⟩ := h
    have v1 := hv.1
    have v2 := ht.1
    refine ⟨Nat.le_of_ble_eq_true rfl, mm_run_at (stop := []) (S := mm_F0) kkX2_isWhole 80 ?_ mm_F0h⟩
    simp only [mm_wp, mm_op, mm_nxt, mm_jmp, mm_at, mm_in, mm_nth, mm_set, mm_ok, mm_isL, mm_ret, mm_isRet, mm_bool, mm_call, mm_push, mm_rv, mm_cats, mm_cat, mm_look, mm_ft, mm_fv, mm_pf, mm_thr, mm_ent, mm_pad, mm_fl, beq_self_eq_true, cond_true, cond_false, Nat.reduceBEq, Nat.reduceEqDiff, List.drop_succ_cons, List.drop_zero, List.take_succ_cons, List.take_zero, List.reverse_cons, List.reverse_nil, List.nil_append, List.cons_append, List.length_cons, List.length_nil, Nat.reduceAdd, Nat.reduceSub, Nat.reduceLeDiff, Bool.not_false, Bool.and_true, Bool.true_and, Nat.zero_add, true_and, and_true, Nat.le_refl, true_or, or_true, reduceCtorEq, Nat.add_zero, Nat.reduceLT, Bool.and_self, Bool.not_true, Fin.isValue, Nat.reduceLeDiff, List.take_nil, List.drop_nil, mm_i1, mm_i2, mm_i3, mm_i4, mm_i5, mm_i6, mm_i7, mm_i16, mm_i17, mm_i18, mm_i19, mm_i20, mm_i21, mm_i22, mm_i23, mm_l3, mm_l4, mm_l5, mm_l6, mm_l7, mm_l18, mm_l19, mm_l20, mm_l21, mm_l22, kdX2_isWhole, ct_X2_isWhole, flX2, sp_X1_size, wk_is hw]
    repeat' (first | assumption | apply And.intro | (intro _) | apply hq)
    all_goals (try simp only [InI] at *)
    all_goals first | omega | ((repeat' split) <;> omega)
  · exact h.elim
theorem me_X2_isWhole {l : Launch} (hl : l.stackTraces = false) : mm_Met l yX2_isWhole cX2_isWhole 1 (some .boolean) [] 7 120 0 sp_X2_isWhole := mm_mt hl rn_X2_isWhole ⟨plX2, rfl⟩ kkX2_isWhole rfl ⟨Nat.le_of_ble_eq_true rfl, Nat.le_of_ble_eq_true rfl⟩ flkX2 (fun _ h => nomatch h) (⟨mm_pe (me_X1_size hl) mwX1_size (mm_t2 142 rfl rfl) (Nat.le_of_ble_eq_true rfl) (Nat.le_of_ble_eq_true rfl), trivial⟩) (mm_xe0 _) n9X2
def sp_X2_hasBackward : mm_S := fun av M d Q => match av with
  | [.inr (.inr (.inl w))] =>  isK w ∧ tW M ∧ wV M w ∧ ∀ r, ((∃ i : Nat, i < M w 2 ∧ M (w + 1) i % 2 = 1) → r = 1) ∧ (¬ (∃ i : Nat, i < M w 2 ∧ M (w + 1) i % 2 = 1) → r = 0) → Q (.inl (some (mm_I r))) M d
  | _ => False
def ct_X2_hasBackward : List (Nat × mm_Ca) := []
abbrev rr_X2_hasBackward (Q : mm_Q) := mm_run (mm_look flX2) (mm_look ct_X2_hasBackward) mm_x0 (mm_look ([] : List (Nat × Int))) (fun _ => none) 2 0 (fun _ _ => none) Q kdX2_hasBackward
set_option maxRecDepth 20000 in
theorem lp_X2_hasBackward {M : mm_M} {d : List Nat} {Q : mm_Q} {w n : Nat} (hw : isK w) (ht : tW M) (hv : wV M w) (hn : M w 2 = n) (hq : ∀ r, ((∃ i : Nat, i < M w 2 ∧ M (w + 1) i % 2 = 1) → r = 1) ∧ (¬ (∃ i : Nat, i < M w 2 ∧ M (w + 1) i % 2 = 1) → r = 0) → Q (.inl (some (mm_I r))) M d) : ∀ (k i : Nat), i + k = n → (∀ j : Nat, j < i → M (w + 1) j % 2 ≠ 1) → rr_X2_hasBackward Q 2 [some (mm_R w), some (mm_I i)] [] M d 0 := by
  obtain ⟨v1, v2, v3⟩ := id hv
  have h1 := ht.1
  intro k
  induction k with
  | zero =>
    intro i hi hj
    refine mm_run_at (stop := [2]) (S := rr_X2_hasBackward Q) kkX2_hasBackward 60 ?_ (fun _ _ _ _ _ _ _ h => h)
    simp only [mm_wp, mm_op, mm_nxt, mm_jmp, mm_at, mm_in, mm_nth, mm_set, mm_ok, mm_isL, mm_ret, mm_isRet, mm_bool, mm_call, mm_push, mm_rv, mm_cats, mm_cat, mm_look, mm_ft, mm_fv, mm_pf, mm_thr, mm_ent, mm_pad, mm_fl, beq_self_eq_true, cond_true, cond_false, Nat.reduceBEq, Nat.reduceEqDiff, List.drop_succ_cons, List.drop_zero, List.take_succ_cons, List.take_zero, List.reverse_cons, List.reverse_nil, List.nil_append, List.cons_append, List.length_cons, List.length_nil, Nat.reduceAdd, Nat.reduceSub, Nat.reduceLeDiff, Bool.not_false, Bool.and_true, Bool.true_and, Nat.zero_add, true_and, and_true, Nat.le_refl, true_or, or_true, reduceCtorEq, Nat.add_zero, Nat.reduceLT, Bool.and_self, Bool.not_true, Fin.isValue, Nat.reduceLeDiff, List.take_nil, List.drop_nil, mm_i1, mm_i2, mm_i3, mm_i4, mm_i5, mm_i6, mm_i7, mm_i16, mm_i17, mm_i18, mm_i19, mm_i20, mm_i21, mm_i22, mm_i23, mm_l3, mm_l4, mm_l5, mm_l6, mm_l7, mm_l18, mm_l19, mm_l20, mm_l21, mm_l22, kdX2_hasBackward, ct_X2_hasBackward, flX2, wk_is hw, wk_iw hw, wk_ln hw]
    refine ⟨⟨by omega, by omega⟩, ⟨by omega, by omega⟩, fun _ => hq _ ⟨fun h => ?_, fun _ => rfl⟩, fun h => by omega⟩
    obtain ⟨j, h2, h3⟩ := h
    exact absurd h3 (hj j (by omega))
  | succ k ih =>
    intro i hi hj
    have v4 := v3 i (by omega)
    have hI : InI (M (w + 1) (i : Int).toNat) := ⟨by rw [Int.toNat_natCast]; omega, by rw [Int.toNat_natCast]; omega⟩
    refine mm_run_at (stop := [2]) (S := rr_X2_hasBackward Q) kkX2_hasBackward 60 ?_ (fun _ _ _ _ _ _ _ h => h)
    simp only [mm_wp, mm_op, mm_nxt, mm_jmp, mm_at, mm_in, mm_nth, mm_set, mm_ok, mm_isL, mm_ret, mm_isRet, mm_bool, mm_call, mm_push, mm_rv, mm_cats, mm_cat, mm_look, mm_ft, mm_fv, mm_pf, mm_thr, mm_ent, mm_pad, mm_fl, beq_self_eq_true, cond_true, cond_false, Nat.reduceBEq, Nat.reduceEqDiff, List.drop_succ_cons, List.drop_zero, List.take_succ_cons, List.take_zero, List.reverse_cons, List.reverse_nil, List.nil_append, List.cons_append, List.length_cons, List.length_nil, Nat.reduceAdd, Nat.reduceSub, Nat.reduceLeDiff, Bool.not_false, Bool.and_true, Bool.true_and, Nat.zero_add, true_and, and_true, Nat.le_refl, true_or, or_true, reduceCtorEq, Nat.add_zero, Nat.reduceLT, Bool.and_self, Bool.not_true, Fin.isValue, Nat.reduceLeDiff, List.take_nil, List.drop_nil, mm_i1, mm_i2, mm_i3, mm_i4, mm_i5, mm_i6, mm_i7, mm_i16, mm_i17, mm_i18, mm_i19, mm_i20, mm_i21, mm_i22, mm_i23, mm_l3, mm_l4, mm_l5, mm_l6, mm_l7, mm_l18, mm_l19, mm_l20, mm_l21, mm_l22, kdX2_hasBackward, ct_X2_hasBackward, flX2, wk_is hw, wk_iw hw, wk_ln hw, mm_and1 hI]
    simp only [Int.toNat_natCast]
    refine ⟨⟨by omega, by omega⟩, ⟨by omega, by omega⟩, fun h => by omega, fun _ => ⟨by omega, ⟨by omega, by omega⟩, fun h => ?_, fun h => ?_⟩⟩
    · refine ih (i + 1) (by omega) (fun j hj2 => ?_)
      by_cases e : j = i
      · subst e
        omega
      · exact hj j (by omega)
    · exact hq _ ⟨fun _ => rfl, fun h2 => absurd ⟨i, by omega, by omega⟩ h2⟩
set_option maxRecDepth 20000 in
theorem rn_X2_hasBackward : mm_RN flX2 ct_X2_hasBackward mm_x0 [] 2 0 2 kdX2_hasBackward sp_X2_hasBackward := by
  intro av M d Q h
  unfold sp_X2_hasBackward at h
  split at h
  · rename_i w
    obtain ⟨hw, ht, hv, hq⟩ := h
    have v1 := hv.1
    obtain ⟨n, hn⟩ := Int.eq_ofNat_of_zero_le v1.1
    refine ⟨Nat.le_of_ble_eq_true rfl, mm_run_at (stop := [2]) (S := rr_X2_hasBackward Q) kkX2_hasBackward 80 ?_ (fun _ _ _ _ _ _ _ h => h)⟩
    simp only [mm_wp, mm_op, mm_nxt, mm_jmp, mm_at, mm_in, mm_nth, mm_set, mm_ok, mm_isL, mm_ret, mm_isRet, mm_bool, mm_call, mm_push, mm_rv, mm_cats, mm_cat, mm_look, mm_ft, mm_fv, mm_pf, mm_thr, mm_ent, mm_pad, mm_fl, beq_self_eq_true, cond_true, cond_false, Nat.reduceBEq, Nat.reduceEqDiff, List.drop_succ_cons, List.drop_zero, List.take_succ_cons, List.take_zero, List.reverse_cons, List.reverse_nil, List.nil_append, List.cons_append, List.length_cons, List.length_nil, Nat.reduceAdd, Nat.reduceSub, Nat.reduceLeDiff, Bool.not_false, Bool.and_true, Bool.true_and, Nat.zero_add, true_and, and_true, Nat.le_refl, true_or, or_true, reduceCtorEq, Nat.add_zero, Nat.reduceLT, Bool.and_self, Bool.not_true, Fin.isValue, Nat.reduceLeDiff, List.take_nil, List.drop_nil, mm_i1, mm_i2, mm_i3, mm_i4, mm_i5, mm_i6, mm_i7, mm_i16, mm_i17, mm_i18, mm_i19, mm_i20, mm_i21, mm_i22, mm_i23, mm_l3, mm_l4, mm_l5, mm_l6, mm_l7, mm_l18, mm_l19, mm_l20, mm_l21, mm_l22, kdX2_hasBackward, ct_X2_hasBackward, flX2]
    exact lp_X2_hasBackward hw ht hv hn hq n 0 (by omega) (fun j hj => by omega)
  · exact h.elim
theorem me_X2_hasBackward {l : Launch} (hl : l.stackTraces = false) : mm_Met l yX2_hasBackward cX2_hasBackward 2 (some .boolean) [] 6 100 0 sp_X2_hasBackward := mm_mt hl rn_X2_hasBackward ⟨plX2, rfl⟩ kkX2_hasBackward rfl ⟨Nat.le_of_ble_eq_true rfl, Nat.le_of_ble_eq_true rfl⟩ flkX2 (fun _ h => nomatch h) (trivial) (mm_xe0 _) n9X2
def sp_X2_restart : mm_S := fun av M d Q => match av with
  | [.inr (.inr (.inl w)), .inl c] =>  isK w ∧ Q (.inl none) (mm_up (mm_up M w 2 0) w 3 c) d
  | _ => False
def ct_X2_restart : List (Nat × mm_Ca) := []
abbrev rr_X2_restart (Q : mm_Q) := mm_run (mm_look flX2) (mm_look ct_X2_restart) mm_x0 (mm_look ([] : List (Nat × Int))) (fun _ => none) 0 0 (fun _ _ => none) Q kdX2_restart
set_option maxRecDepth 20000 in
theorem rn_X2_restart : mm_RN flX2 ct_X2_restart mm_x0 [] 0 0 2 kdX2_restart sp_X2_restart := by
  intro av M d Q h
  unfold sp_X2_restart at h
  split at h
  · rename_i w c
    obtain ⟨hw, hq⟩ := h
    refine ⟨Nat.le_of_ble_eq_true rfl, mm_run_at (stop := []) (S := mm_F0) kkX2_restart 80 ?_ mm_F0h⟩
    simp only [mm_wp, mm_op, mm_nxt, mm_jmp, mm_at, mm_in, mm_nth, mm_set, mm_ok, mm_isL, mm_ret, mm_isRet, mm_bool, mm_call, mm_push, mm_rv, mm_cats, mm_cat, mm_look, mm_ft, mm_fv, mm_pf, mm_thr, mm_ent, mm_pad, mm_fl, beq_self_eq_true, cond_true, cond_false, Nat.reduceBEq, Nat.reduceEqDiff, List.drop_succ_cons, List.drop_zero, List.take_succ_cons, List.take_zero, List.reverse_cons, List.reverse_nil, List.nil_append, List.cons_append, List.length_cons, List.length_nil, Nat.reduceAdd, Nat.reduceSub, Nat.reduceLeDiff, Bool.not_false, Bool.and_true, Bool.true_and, Nat.zero_add, true_and, and_true, Nat.le_refl, true_or, or_true, reduceCtorEq, Nat.add_zero, Nat.reduceLT, Bool.and_self, Bool.not_true, Fin.isValue, Nat.reduceLeDiff, List.take_nil, List.drop_nil, mm_i1, mm_i2, mm_i3, mm_i4, mm_i5, mm_i6, mm_i7, mm_i16, mm_i17, mm_i18, mm_i19, mm_i20, mm_i21, mm_i22, mm_i23, mm_l3, mm_l4, mm_l5, mm_l6, mm_l7, mm_l18, mm_l19, mm_l20, mm_l21, mm_l22, kdX2_restart, ct_X2_restart, flX2, wk_is hw]
    repeat' (first | assumption | apply And.intro | (intro _) | apply hq)
    all_goals (try simp only [InI] at *)
    all_goals first | omega | ((repeat' split) <;> omega)
  · exact h.elim
theorem me_X2_restart {l : Launch} (hl : l.stackTraces = false) : mm_Met l yX2_restart cX2_restart 2 none [] 6 100 0 sp_X2_restart := mm_mt hl rn_X2_restart ⟨plX2, rfl⟩ kkX2_restart rfl ⟨Nat.le_of_ble_eq_true rfl, Nat.le_of_ble_eq_true rfl⟩ flkX2 (fun _ h => nomatch h) (trivial) (mm_xe0 _) n9X2
def sp_X2_exchange : mm_S := fun av M d Q => match av with
  | [.inr (.inr (.inl w)), .inl p, .inl s] =>  isK w ∧ wV M w ∧ InI p ∧ (0 ≤ p → p < M w 2 → Q (.inl none) (mm_up M (w + 1) p.toNat s) d) ∧ (¬ (0 ≤ p ∧ p < M w 2) → Q (.inl none) M d)
  | _ => False
def ct_X2_exchange : List (Nat × mm_Ca) := []
abbrev rr_X2_exchange (Q : mm_Q) := mm_run (mm_look flX2) (mm_look ct_X2_exchange) mm_x0 (mm_look ([] : List (Nat × Int))) (fun _ => none) 0 0 (fun _ _ => none) Q kdX2_exchange
set_option maxRecDepth 20000 in
theorem rn_X2_exchange : mm_RN flX2 ct_X2_exchange mm_x0 [] 0 0 3 kdX2_exchange sp_X2_exchange := by
  intro av M d Q h
  unfold sp_X2_exchange at h
  split at h
  · rename_i w p s
    obtain ⟨hw, hv, hp, hq1, hq2⟩ := h
    have v1 := hv.1
    refine ⟨Nat.le_of_ble_eq_true rfl, mm_run_at (stop := []) (S := mm_F0) kkX2_exchange 80 ?_ mm_F0h⟩
    simp only [mm_wp, mm_op, mm_nxt, mm_jmp, mm_at, mm_in, mm_nth, mm_set, mm_ok, mm_isL, mm_ret, mm_isRet, mm_bool, mm_call, mm_push, mm_rv, mm_cats, mm_cat, mm_look, mm_ft, mm_fv, mm_pf, mm_thr, mm_ent, mm_pad, mm_fl, beq_self_eq_true, cond_true, cond_false, Nat.reduceBEq, Nat.reduceEqDiff, List.drop_succ_cons, List.drop_zero, List.take_succ_cons, List.take_zero, List.reverse_cons, List.reverse_nil, List.nil_append, List.cons_append, List.length_cons, List.length_nil, Nat.reduceAdd, Nat.reduceSub, Nat.reduceLeDiff, Bool.not_false, Bool.and_true, Bool.true_and, Nat.zero_add, true_and, and_true, Nat.le_refl, true_or, or_true, reduceCtorEq, Nat.add_zero, Nat.reduceLT, Bool.and_self, Bool.not_true, Fin.isValue, Nat.reduceLeDiff, List.take_nil, List.drop_nil, mm_i1, mm_i2, mm_i3, mm_i4, mm_i5, mm_i6, mm_i7, mm_i16, mm_i17, mm_i18, mm_i19, mm_i20, mm_i21, mm_i22, mm_i23, mm_l3, mm_l4, mm_l5, mm_l6, mm_l7, mm_l18, mm_l19, mm_l20, mm_l21, mm_l22, kdX2_exchange, ct_X2_exchange, flX2, wk_is hw, wk_iw hw, wk_ln hw]
    exact ⟨hp, fun h => hq2 (by omega), fun h => ⟨hp, ⟨by omega, by omega⟩, fun h2 => hq2 (by omega), fun h2 => ⟨by omega, hq1 h (by omega)⟩⟩⟩
  · exact h.elim
theorem me_X2_exchange {l : Launch} (hl : l.stackTraces = false) : mm_Met l yX2_exchange cX2_exchange 3 none [] 6 100 0 sp_X2_exchange := mm_mt hl rn_X2_exchange ⟨plX2, rfl⟩ kkX2_exchange rfl ⟨Nat.le_of_ble_eq_true rfl, Nat.le_of_ble_eq_true rfl⟩ flkX2 (fun _ h => nomatch h) (trivial) (mm_xe0 _) n9X2
end
section
/-! the class's walks: putting in, taking out -/
def stO (M : mm_M) (s : Int) : Prop := 0 ≤ s ∧ s < 2 * M 2 4
def putR (M M' : mm_M) (w : Nat) (p s : Int) : Prop :=
  ((0 ≤ p ∧ p ≤ M w 2 ∧ M w 2 < 30) ∧ M' w 2 = M w 2 + 1 ∧ M' w 3 = M w 3 ∧ ∀ i : Nat, i ≤ M w 2 → (i < p → M' (w + 1) i = M (w + 1) i) ∧ (i = p → M' (w + 1) i = s) ∧ (p < i → M' (w + 1) i = M (w + 1) (i - 1))) ∨
  (¬ (0 ≤ p ∧ p ≤ M w 2 ∧ M w 2 < 30) ∧ M' = M)
theorem put_wV {M M' : mm_M} {w : Nat} {p s : Int} (hw : isK w) (hv : wV M w) (hs : stO M s) (hf : fr [w, w + 1] M M') (h : putR M M' w p s) : wV M' w := by
  have e2 : M' 2 = M 2 := hf 2 (by have := wk_no hw; simp; omega)
  obtain ⟨v1, v2, v3⟩ := id hv
  rcases h with ⟨h0, h1, h2, h3⟩ | ⟨-, rfl⟩
  · refine ⟨by omega, by omega, fun i hi => ?_⟩
    rw [e2]
    obtain ⟨a1, a2, a3⟩ := h3 i (by omega)
    rcases Int.lt_trichotomy (i : Int) p with h4 | h4 | h4
    · rw [a1 h4]
      exact v3 i (by omega)
    · rw [a2 h4]
      exact hs
    · rw [a3 h4]
      exact v3 (i - 1) (by omega)
  · exact hv
theorem fr.k {w : Nat} {M M' : mm_M} (h : fr [w, w + 1] M M') (hw : isK w) : M' 2 = M 2 ∧ M' 3 = M 3 ∧ M' 4 = M 4 := by
  have := wk_no hw
  exact ⟨h 2 (by simp; omega), h 3 (by simp; omega), h 4 (by simp; omega)⟩
theorem tWk {w : Nat} {M M' : mm_M} (ht : tW M) (h : fr [w, w + 1] M M') (hw : isK w) : tW M' := by
  have := wk_no hw
  exact ht.fr h (by simp; omega) (by simp; omega) (by simp; omega)
def sp_X2_putIn : mm_S := fun av M d Q => match av with
  | [.inr (.inr (.inl w)), .inl p, .inl s] =>  isK w ∧ wV M w ∧ InI p ∧ stO M s ∧ ∀ M', fr [w, w + 1] M M' ∧ wV M' w ∧ putR M M' w p s → Q (.inl none) M' d
  | _ => False
def ct_X2_putIn : List (Nat × mm_Ca) := []
abbrev rr_X2_putIn (Q : mm_Q) := mm_run (mm_look flX2) (mm_look ct_X2_putIn) mm_x0 (mm_look ([] : List (Nat × Int))) (fun _ => none) 0 0 (fun _ _ => none) Q kdX2_putIn
set_option maxRecDepth 20000 in
theorem lp_X2_putIn {M0 : mm_M} {d : List Nat} {Q : mm_Q} {w n p : Nat} {s : Int} (hw : isK w) (hv : wV M0 w) (hn : M0 w 2 = n) (hn3 : n < 30) (hq : ∀ M', fr [w, w + 1] M0 M' ∧ putR M0 M' w p s → Q (.inl none) M' d) : ∀ (k i : Nat) (M : mm_M), i = k + p → i ≤ n → fr [w + 1] M0 M → (∀ j : Nat, j ≤ i → M (w + 1) j = M0 (w + 1) j) → (∀ j : Nat, i < j → j ≤ n → M (w + 1) j = M0 (w + 1) (j - 1)) → rr_X2_putIn Q 27 [some (mm_R w), some (mm_I p), some (mm_I s), some (mm_I i)] [] M d 0 := by
  have hz := wk_no hw
  intro k
  induction k with
  | zero =>
    intro i M hi hin hf h1 h2
    refine mm_run_at (stop := [27]) (S := rr_X2_putIn Q) kkX2_putIn 60 ?_ (fun _ _ _ _ _ _ _ h => h)
    simp only [mm_wp, mm_op, mm_nxt, mm_jmp, mm_at, mm_in, mm_nth, mm_set, mm_ok, mm_isL, mm_ret, mm_isRet, mm_bool, mm_call, mm_push, mm_rv, mm_cats, mm_cat, mm_look, mm_ft, mm_fv, mm_pf, mm_thr, mm_ent, mm_pad, mm_fl, beq_self_eq_true, cond_true, cond_false, Nat.reduceBEq, Nat.reduceEqDiff, List.drop_succ_cons, List.drop_zero, List.take_succ_cons, List.take_zero, List.reverse_cons, List.reverse_nil, List.nil_append, List.cons_append, List.length_cons, List.length_nil, Nat.reduceAdd, Nat.reduceSub, Nat.reduceLeDiff, Bool.not_false, Bool.and_true, Bool.true_and, Nat.zero_add, true_and, and_true, Nat.le_refl, true_or, or_true, reduceCtorEq, Nat.add_zero, Nat.reduceLT, Bool.and_self, Bool.not_true, Fin.isValue, Nat.reduceLeDiff, List.take_nil, List.drop_nil, mm_i1, mm_i2, mm_i3, mm_i4, mm_i5, mm_i6, mm_i7, mm_i16, mm_i17, mm_i18, mm_i19, mm_i20, mm_i21, mm_i22, mm_i23, mm_l3, mm_l4, mm_l5, mm_l6, mm_l7, mm_l18, mm_l19, mm_l20, mm_l21, mm_l22, kdX2_putIn, ct_X2_putIn, flX2, wk_is hw, wk_iw hw, wk_ln hw]
    have e3 : mm_up M (w + 1) p s w 2 = n := by
      simp [mm_up]
      rw [hf w (by simp), hn]
    simp only [Int.toNat_natCast, e3]
    refine ⟨⟨by omega, by omega⟩, ⟨by omega, by omega⟩, fun _ => ⟨by omega, hq _ ⟨((hf.mono (by simp)).up (by simp)).up (by simp), Or.inl ⟨by omega, by simp [mm_up, hn], ?_, fun j hj => ⟨fun h => ?_, fun h => ?_, fun h => ?_⟩⟩⟩⟩, fun h => by omega⟩
    · simp [mm_up]
      rw [hf w (by simp)]
    · simp [mm_up, show j ≠ p by omega]
      exact h1 j (by omega)
    · simp [mm_up, show j = p by omega]
    · simp [mm_up, show j ≠ p by omega]
      exact h2 j (by omega) (by omega)
  | succ k ih =>
    intro i M hi hin hf h1 h2
    obtain ⟨i, rfl⟩ : ∃ j, i = j + 1 := ⟨i - 1, by omega⟩
    refine mm_run_at (stop := [27]) (S := rr_X2_putIn Q) kkX2_putIn 60 ?_ (fun _ _ _ _ _ _ _ h => h)
    simp only [mm_wp, mm_op, mm_nxt, mm_jmp, mm_at, mm_in, mm_nth, mm_set, mm_ok, mm_isL, mm_ret, mm_isRet, mm_bool, mm_call, mm_push, mm_rv, mm_cats, mm_cat, mm_look, mm_ft, mm_fv, mm_pf, mm_thr, mm_ent, mm_pad, mm_fl, beq_self_eq_true, cond_true, cond_false, Nat.reduceBEq, Nat.reduceEqDiff, List.drop_succ_cons, List.drop_zero, List.take_succ_cons, List.take_zero, List.reverse_cons, List.reverse_nil, List.nil_append, List.cons_append, List.length_cons, List.length_nil, Nat.reduceAdd, Nat.reduceSub, Nat.reduceLeDiff, Bool.not_false, Bool.and_true, Bool.true_and, Nat.zero_add, true_and, and_true, Nat.le_refl, true_or, or_true, reduceCtorEq, Nat.add_zero, Nat.reduceLT, Bool.and_self, Bool.not_true, Fin.isValue, Nat.reduceLeDiff, List.take_nil, List.drop_nil, mm_i1, mm_i2, mm_i3, mm_i4, mm_i5, mm_i6, mm_i7, mm_i16, mm_i17, mm_i18, mm_i19, mm_i20, mm_i21, mm_i22, mm_i23, mm_l3, mm_l4, mm_l5, mm_l6, mm_l7, mm_l18, mm_l19, mm_l20, mm_l21, mm_l22, kdX2_putIn, ct_X2_putIn, flX2, wk_is hw, wk_iw hw, wk_ln hw]
    simp only [show ((i + 1 : Nat) : Int) - 1 = i by omega, show ((i + 1 : Nat) : Int) + -1 = i by omega, Int.toNat_natCast]
    refine ⟨⟨by omega, by omega⟩, ⟨by omega, by omega⟩, fun h => by omega, fun _ => ⟨by omega, by omega, ?_⟩⟩
    refine ih i _ (by omega) (by omega) (hf.up (by simp)) (fun j hj => ?_) (fun j hj hj2 => ?_)
    · simp [mm_up, show j ≠ i + 1 by omega]
      exact h1 j (by omega)
    · by_cases e : j = i + 1
      · subst e
        simp [mm_up]
        exact h1 i (by omega)
      · simp [mm_up, e]
        exact h2 j (by omega) hj2
set_option maxRecDepth 20000 in
theorem rn_X2_putIn : mm_RN flX2 ct_X2_putIn mm_x0 [] 0 0 4 kdX2_putIn sp_X2_putIn := by
  intro av M d Q h
  unfold sp_X2_putIn at h
  split at h
  · rename_i w p s
    obtain ⟨hw, hv, hp, hs, hq⟩ := h
    have v1 := hv.1
    obtain ⟨n, hn⟩ := Int.eq_ofNat_of_zero_le v1.1
    have hno : ¬ (0 ≤ p ∧ p ≤ M w 2 ∧ M w 2 < 30) → Q (.inl none) M d := fun h => hq M ⟨fr.rf, hv, Or.inr ⟨h, rfl⟩⟩
    refine ⟨Nat.le_of_ble_eq_true rfl, mm_run_at (stop := [27]) (S := rr_X2_putIn Q) kkX2_putIn 80 ?_ (fun _ _ _ _ _ _ _ h => h)⟩
    simp only [mm_wp, mm_op, mm_nxt, mm_jmp, mm_at, mm_in, mm_nth, mm_set, mm_ok, mm_isL, mm_ret, mm_isRet, mm_bool, mm_call, mm_push, mm_rv, mm_cats, mm_cat, mm_look, mm_ft, mm_fv, mm_pf, mm_thr, mm_ent, mm_pad, mm_fl, beq_self_eq_true, cond_true, cond_false, Nat.reduceBEq, Nat.reduceEqDiff, List.drop_succ_cons, List.drop_zero, List.take_succ_cons, List.take_zero, List.reverse_cons, List.reverse_nil, List.nil_append, List.cons_append, List.length_cons, List.length_nil, Nat.reduceAdd, Nat.reduceSub, Nat.reduceLeDiff, Bool.not_false, Bool.and_true, Bool.true_and, Nat.zero_add, true_and, and_true, Nat.le_refl, true_or, or_true, reduceCtorEq, Nat.add_zero, Nat.reduceLT, Bool.and_self, Bool.not_true, Fin.isValue, Nat.reduceLeDiff, List.take_nil, List.drop_nil, mm_i1, mm_i2, mm_i3, mm_i4, mm_i5, mm_i6, mm_i7, mm_i16, mm_i17, mm_i18, mm_i19, mm_i20, mm_i21, mm_i22, mm_i23, mm_l3, mm_l4, mm_l5, mm_l6, mm_l7, mm_l18, mm_l19, mm_l20, mm_l21, mm_l22, kdX2_putIn, ct_X2_putIn, flX2, wk_is hw, wk_iw hw, wk_ln hw]
    refine ⟨hp, fun h => hno (by omega), fun h => ⟨hp, ⟨by omega, by omega⟩, fun h2 => hno (by omega), fun h2 => ⟨by omega, ⟨by omega, by omega⟩, ⟨by omega, by omega⟩, fun h3 => ?_, fun h3 => hno (by omega)⟩⟩⟩
    obtain ⟨p, rfl⟩ := Int.eq_ofNat_of_zero_le (show 0 ≤ p by omega)
    rw [hn]
    exact lp_X2_putIn (n := n) hw hv hn (by omega) (fun M' h => hq M' ⟨h.1, put_wV hw hv hs h.1 h.2, h.2⟩) (n - p) n M (by omega) (by omega) fr.rf (fun _ _ => rfl) (fun j a b => by omega)
  · exact h.elim
theorem me_X2_putIn {l : Launch} (hl : l.stackTraces = false) : mm_Met l yX2_putIn cX2_putIn 4 none [] 6 100 0 sp_X2_putIn := mm_mt hl rn_X2_putIn ⟨plX2, rfl⟩ kkX2_putIn rfl ⟨Nat.le_of_ble_eq_true rfl, Nat.le_of_ble_eq_true rfl⟩ flkX2 (fun _ h => nomatch h) (trivial) (mm_xe0 _) n9X2
def takR (M M' : mm_M) (w : Nat) (p : Int) : Prop :=
  ((0 ≤ p ∧ p < M w 2) ∧ M' w 2 = M w 2 - 1 ∧ M' w 3 = M w 3 ∧ ∀ i : Nat, i + 1 < M w 2 → (i < p → M' (w + 1) i = M (w + 1) i) ∧ (p ≤ i → M' (w + 1) i = M (w + 1) (i + 1))) ∨
  (¬ (0 ≤ p ∧ p < M w 2) ∧ M' = M)
theorem tak_wV {M M' : mm_M} {w : Nat} {p : Int} (hw : isK w) (hv : wV M w) (hf : fr [w, w + 1] M M') (h : takR M M' w p) : wV M' w := by
  have e2 := (hf.k hw).1
  obtain ⟨v1, v2, v3⟩ := id hv
  rcases h with ⟨h0, h1, h2, h3⟩ | ⟨-, rfl⟩
  · refine ⟨by omega, by omega, fun i hi => ?_⟩
    rw [e2]
    obtain ⟨a1, a2⟩ := h3 i (by omega)
    rcases Int.lt_or_le (i : Int) p with h4 | h4
    · rw [a1 h4]
      exact v3 i (by omega)
    · rw [a2 h4]
      exact v3 (i + 1) (by omega)
  · exact hv
def sp_X2_takeOut : mm_S := fun av M d Q => match av with
  | [.inr (.inr (.inl w)), .inl p] =>  isK w ∧ wV M w ∧ InI p ∧ ∀ M', fr [w, w + 1] M M' ∧ wV M' w ∧ takR M M' w p → Q (.inl none) M' d
  | _ => False
def ct_X2_takeOut : List (Nat × mm_Ca) := []
abbrev rr_X2_takeOut (Q : mm_Q) := mm_run (mm_look flX2) (mm_look ct_X2_takeOut) mm_x0 (mm_look ([] : List (Nat × Int))) (fun _ => none) 0 0 (fun _ _ => none) Q kdX2_takeOut
set_option maxRecDepth 20000 in
theorem lp_X2_takeOut {M0 : mm_M} {d : List Nat} {Q : mm_Q} {w n p : Nat} (hw : isK w) (hv : wV M0 w) (hn : M0 w 2 = n) (hn3 : n ≤ 30) (hp : p < n) (hq : ∀ M', fr [w, w + 1] M0 M' ∧ takR M0 M' w p → Q (.inl none) M' d) : ∀ (k i : Nat) (M : mm_M), i + k + 1 = n → p ≤ i → fr [w + 1] M0 M → (∀ j : Nat, j < p → M (w + 1) j = M0 (w + 1) j) → (∀ j : Nat, p ≤ j → j < i → M (w + 1) j = M0 (w + 1) (j + 1)) → (∀ j : Nat, i ≤ j → M (w + 1) j = M0 (w + 1) j) → rr_X2_takeOut Q 15 [some (mm_R w), some (mm_I p), some (mm_I i)] [] M d 0 := by
  have hz := wk_no hw
  intro k
  induction k with
  | zero =>
    intro i M hi hin hf h1 h2 h3
    refine mm_run_at (stop := [15]) (S := rr_X2_takeOut Q) kkX2_takeOut 60 ?_ (fun _ _ _ _ _ _ _ h => h)
    simp only [mm_wp, mm_op, mm_nxt, mm_jmp, mm_at, mm_in, mm_nth, mm_set, mm_ok, mm_isL, mm_ret, mm_isRet, mm_bool, mm_call, mm_push, mm_rv, mm_cats, mm_cat, mm_look, mm_ft, mm_fv, mm_pf, mm_thr, mm_ent, mm_pad, mm_fl, beq_self_eq_true, cond_true, cond_false, Nat.reduceBEq, Nat.reduceEqDiff, List.drop_succ_cons, List.drop_zero, List.take_succ_cons, List.take_zero, List.reverse_cons, List.reverse_nil, List.nil_append, List.cons_append, List.length_cons, List.length_nil, Nat.reduceAdd, Nat.reduceSub, Nat.reduceLeDiff, Bool.not_false, Bool.and_true, Bool.true_and, Nat.zero_add, true_and, and_true, Nat.le_refl, true_or, or_true, reduceCtorEq, Nat.add_zero, Nat.reduceLT, Bool.and_self, Bool.not_true, Fin.isValue, Nat.reduceLeDiff, List.take_nil, List.drop_nil, mm_i1, mm_i2, mm_i3, mm_i4, mm_i5, mm_i6, mm_i7, mm_i16, mm_i17, mm_i18, mm_i19, mm_i20, mm_i21, mm_i22, mm_i23, mm_l3, mm_l4, mm_l5, mm_l6, mm_l7, mm_l18, mm_l19, mm_l20, mm_l21, mm_l22, kdX2_takeOut, ct_X2_takeOut, flX2, wk_is hw, wk_iw hw, wk_ln hw]
    have e3 : M w 2 = n := by rw [hf w (by simp), hn]
    simp only [e3]
    refine ⟨⟨by omega, by omega⟩, ⟨by omega, by omega⟩, fun _ => hq _ ⟨(hf.mono (by simp)).up (by simp), Or.inl ⟨by omega, by simp [mm_up, hn], ?_, fun j hj => ⟨fun h => ?_, fun h => ?_⟩⟩⟩, fun h => by omega⟩
    · simp [mm_up]
      rw [hf w (by simp)]
    · simp [mm_up]
      exact h1 j (by omega)
    · simp [mm_up]
      exact h2 j (by omega) (by omega)
  | succ k ih =>
    intro i M hi hin hf h1 h2 h3
    refine mm_run_at (stop := [15]) (S := rr_X2_takeOut Q) kkX2_takeOut 60 ?_ (fun _ _ _ _ _ _ _ h => h)
    simp only [mm_wp, mm_op, mm_nxt, mm_jmp, mm_at, mm_in, mm_nth, mm_set, mm_ok, mm_isL, mm_ret, mm_isRet, mm_bool, mm_call, mm_push, mm_rv, mm_cats, mm_cat, mm_look, mm_ft, mm_fv, mm_pf, mm_thr, mm_ent, mm_pad, mm_fl, beq_self_eq_true, cond_true, cond_false, Nat.reduceBEq, Nat.reduceEqDiff, List.drop_succ_cons, List.drop_zero, List.take_succ_cons, List.take_zero, List.reverse_cons, List.reverse_nil, List.nil_append, List.cons_append, List.length_cons, List.length_nil, Nat.reduceAdd, Nat.reduceSub, Nat.reduceLeDiff, Bool.not_false, Bool.and_true, Bool.true_and, Nat.zero_add, true_and, and_true, Nat.le_refl, true_or, or_true, reduceCtorEq, Nat.add_zero, Nat.reduceLT, Bool.and_self, Bool.not_true, Fin.isValue, Nat.reduceLeDiff, List.take_nil, List.drop_nil, mm_i1, mm_i2, mm_i3, mm_i4, mm_i5, mm_i6, mm_i7, mm_i16, mm_i17, mm_i18, mm_i19, mm_i20, mm_i21, mm_i22, mm_i23, mm_l3, mm_l4, mm_l5, mm_l6, mm_l7, mm_l18, mm_l19, mm_l20, mm_l21, mm_l22, kdX2_takeOut, ct_X2_takeOut, flX2, wk_is hw, wk_iw hw, wk_ln hw]
    have e3 : M w 2 = n := by rw [hf w (by simp), hn]
    simp only [show ((i : Int) + 1).toNat = i + 1 by omega, Int.toNat_natCast, e3]
    refine ⟨⟨by omega, by omega⟩, ⟨by omega, by omega⟩, fun h => by omega, fun _ => ⟨by omega, by omega, ?_⟩⟩
    refine ih (i + 1) _ (by omega) (by omega) (hf.up (by simp)) (fun j hj => ?_) (fun j hj hj2 => ?_) (fun j hj => ?_)
    · simp [mm_up, show j ≠ i by omega]
      exact h1 j (by omega)
    · by_cases e : j = i
      · subst e
        simp [mm_up]
        exact h3 (j + 1) (by omega)
      · simp [mm_up, e]
        exact h2 j (by omega) (by omega)
    · simp [mm_up, show j ≠ i by omega]
      exact h3 j (by omega)
set_option maxRecDepth 20000 in
theorem rn_X2_takeOut : mm_RN flX2 ct_X2_takeOut mm_x0 [] 0 0 3 kdX2_takeOut sp_X2_takeOut := by
  intro av M d Q h
  unfold sp_X2_takeOut at h
  split at h
  · rename_i w p
    obtain ⟨hw, hv, hp, hq⟩ := h
    have v1 := hv.1
    obtain ⟨n, hn⟩ := Int.eq_ofNat_of_zero_le v1.1
    have hno : ¬ (0 ≤ p ∧ p < M w 2) → Q (.inl none) M d := fun h => hq M ⟨fr.rf, hv, Or.inr ⟨h, rfl⟩⟩
    refine ⟨Nat.le_of_ble_eq_true rfl, mm_run_at (stop := [15]) (S := rr_X2_takeOut Q) kkX2_takeOut 80 ?_ (fun _ _ _ _ _ _ _ h => h)⟩
    simp only [mm_wp, mm_op, mm_nxt, mm_jmp, mm_at, mm_in, mm_nth, mm_set, mm_ok, mm_isL, mm_ret, mm_isRet, mm_bool, mm_call, mm_push, mm_rv, mm_cats, mm_cat, mm_look, mm_ft, mm_fv, mm_pf, mm_thr, mm_ent, mm_pad, mm_fl, beq_self_eq_true, cond_true, cond_false, Nat.reduceBEq, Nat.reduceEqDiff, List.drop_succ_cons, List.drop_zero, List.take_succ_cons, List.take_zero, List.reverse_cons, List.reverse_nil, List.nil_append, List.cons_append, List.length_cons, List.length_nil, Nat.reduceAdd, Nat.reduceSub, Nat.reduceLeDiff, Bool.not_false, Bool.and_true, Bool.true_and, Nat.zero_add, true_and, and_true, Nat.le_refl, true_or, or_true, reduceCtorEq, Nat.add_zero, Nat.reduceLT, Bool.and_self, Bool.not_true, Fin.isValue, Nat.reduceLeDiff, List.take_nil, List.drop_nil, mm_i1, mm_i2, mm_i3, mm_i4, mm_i5, mm_i6, mm_i7, mm_i16, mm_i17, mm_i18, mm_i19, mm_i20, mm_i21, mm_i22, mm_i23, mm_l3, mm_l4, mm_l5, mm_l6, mm_l7, mm_l18, mm_l19, mm_l20, mm_l21, mm_l22, kdX2_takeOut, ct_X2_takeOut, flX2, wk_is hw, wk_iw hw, wk_ln hw]
    refine ⟨hp, fun h => hno (by omega), fun h => ⟨hp, ⟨by omega, by omega⟩, fun h2 => ?_, fun h2 => hno (by omega)⟩⟩
    obtain ⟨p, rfl⟩ := Int.eq_ofNat_of_zero_le (show 0 ≤ p by omega)
    exact lp_X2_takeOut (n := n) hw hv hn (by omega) (by omega) (fun M' h => hq M' ⟨h.1, tak_wV hw hv h.1 h.2, h.2⟩) (n - p - 1) p M (by omega) (by omega) fr.rf (fun _ _ => rfl) (fun j a b => by omega) (fun _ _ => rfl)
  · exact h.elim
theorem me_X2_takeOut {l : Launch} (hl : l.stackTraces = false) : mm_Met l yX2_takeOut cX2_takeOut 3 none [] 6 100 0 sp_X2_takeOut := mm_mt hl rn_X2_takeOut ⟨plX2, rfl⟩ kkX2_takeOut rfl ⟨Nat.le_of_ble_eq_true rfl, Nat.le_of_ble_eq_true rfl⟩ flkX2 (fun _ h => nomatch h) (trivial) (mm_xe0 _) n9X2
def sp_X2_putAhead : mm_S := fun av M d Q => match av with
  | [.inr (.inr (.inl w)), .inl s] =>  isK w ∧ tW M ∧ wV M w ∧ stO M s ∧ ∀ M', fr [w, w + 1] M M' ∧ wV M' w ∧ (∃ M1, putR M M1 w 0 s ∧ M' = mm_up M1 w 3 (sr M s)) → Q (.inl none) M' d
  | _ => False
def ct_X2_putAhead : List (Nat × mm_Ca) := [(39, (0, 3, 12, sp_X2_putIn, 0)), (43, (0, 2, 11, sp_X1_sourceOf, 0))]
abbrev rr_X2_putAhead (Q : mm_Q) := mm_run (mm_look flX2) (mm_look ct_X2_putAhead) mm_x0 (mm_look ([] : List (Nat × Int))) (fun _ => none) 0 0 (fun _ _ => none) Q kdX2_putAhead
set_option maxRecDepth 20000 in
theorem rn_X2_putAhead : mm_RN flX2 ct_X2_putAhead mm_x0 [] 0 0 2 kdX2_putAhead sp_X2_putAhead := by
  intro av M d Q h
  unfold sp_X2_putAhead at h
  split at h
  · rename_i w s
    obtain ⟨hw, ht, hv, hs, hq⟩ := h
    have hz := wk_no hw
    refine ⟨Nat.le_of_ble_eq_true rfl, mm_run_at (stop := []) (S := mm_F0) kkX2_putAhead 80 ?_ mm_F0h⟩
    simp only [mm_wp, mm_op, mm_nxt, mm_jmp, mm_at, mm_in, mm_nth, mm_set, mm_ok, mm_isL, mm_ret, mm_isRet, mm_bool, mm_call, mm_push, mm_rv, mm_cats, mm_cat, mm_look, mm_ft, mm_fv, mm_pf, mm_thr, mm_ent, mm_pad, mm_fl, beq_self_eq_true, cond_true, cond_false, Nat.reduceBEq, Nat.reduceEqDiff, List.drop_succ_cons, List.drop_zero, List.take_succ_cons, List.take_zero, List.reverse_cons, List.reverse_nil, List.nil_append, List.cons_append, List.length_cons, List.length_nil, Nat.reduceAdd, Nat.reduceSub, Nat.reduceLeDiff, Bool.not_false, Bool.and_true, Bool.true_and, Nat.zero_add, true_and, and_true, Nat.le_refl, true_or, or_true, reduceCtorEq, Nat.add_zero, Nat.reduceLT, Bool.and_self, Bool.not_true, Fin.isValue, Nat.reduceLeDiff, List.take_nil, List.drop_nil, mm_i1, mm_i2, mm_i3, mm_i4, mm_i5, mm_i6, mm_i7, mm_i16, mm_i17, mm_i18, mm_i19, mm_i20, mm_i21, mm_i22, mm_i23, mm_l3, mm_l4, mm_l5, mm_l6, mm_l7, mm_l18, mm_l19, mm_l20, mm_l21, mm_l22, kdX2_putAhead, ct_X2_putAhead, flX2, sp_X2_putIn, sp_X1_sourceOf, wk_is hw]
    refine ⟨hw, hv, ⟨by omega, by omega⟩, hs, fun M1 h1 => ⟨tWk ht h1.1 hw, by rw [(h1.1.k hw).1]; exact hs, fun r hr => hq _ ⟨h1.1.up (by simp), ?_, M1, h1.2.2, ?_⟩⟩⟩
    · obtain ⟨v1, v2, v3⟩ := h1.2.1
      refine ⟨by simpa [mm_up] using v1, by simp [mm_up]; exact hr.2, fun i hi => ?_⟩
      simp [mm_up] at hi ⊢
      exact v3 i hi
    · have e := h1.1.k hw
      rw [hr.1]
      unfold sr
      rw [e.2.1, e.2.2]
  · exact h.elim
theorem me_X2_putAhead {l : Launch} (hl : l.stackTraces = false) : mm_Met l yX2_putAhead cX2_putAhead 2 none [] 9 164 0 sp_X2_putAhead := mm_mt hl rn_X2_putAhead ⟨plX2, rfl⟩ kkX2_putAhead rfl ⟨Nat.le_of_ble_eq_true rfl, Nat.le_of_ble_eq_true rfl⟩ flkX2 (fun _ h => nomatch h) (⟨mm_pe (me_X2_putIn hl) mwX2_putIn (mm_t2 134 rfl rfl) (Nat.le_of_ble_eq_true rfl) (Nat.le_of_ble_eq_true rfl), mm_pe (me_X1_sourceOf hl) mwX1_sourceOf (mm_t2 106 rfl rfl) (Nat.le_of_ble_eq_true rfl) (Nat.le_of_ble_eq_true rfl), trivial⟩) (mm_xe0 _) n9X2
def sp_X2_takeOutFirst : mm_S := fun av M d Q => match av with
  | [.inr (.inr (.inl w))] =>  isK w ∧ tW M ∧ wV M w ∧ ∀ M', fr [w, w + 1] M M' ∧ wV M' w ∧ takR (mm_up M w 3 (cor M w 1)) M' w 0 → Q (.inl none) M' d
  | _ => False
def ct_X2_takeOutFirst : List (Nat × mm_Ca) := [(26, (0, 2, 12, sp_X2_cornerOf, 0)), (46, (0, 2, 12, sp_X2_takeOut, 0))]
abbrev rr_X2_takeOutFirst (Q : mm_Q) := mm_run (mm_look flX2) (mm_look ct_X2_takeOutFirst) mm_x0 (mm_look ([] : List (Nat × Int))) (fun _ => none) 0 0 (fun _ _ => none) Q kdX2_takeOutFirst
set_option maxRecDepth 20000 in
theorem rn_X2_takeOutFirst : mm_RN flX2 ct_X2_takeOutFirst mm_x0 [] 0 0 1 kdX2_takeOutFirst sp_X2_takeOutFirst := by
  intro av M d Q h
  unfold sp_X2_takeOutFirst at h
  split at h
  · rename_i w
    obtain ⟨hw, ht, hv, hq⟩ := h
    have hz := wk_no hw
    refine ⟨Nat.le_of_ble_eq_true rfl, mm_run_at (stop := []) (S := mm_F0) kkX2_takeOutFirst 80 ?_ mm_F0h⟩
    simp only [mm_wp, mm_op, mm_nxt, mm_jmp, mm_at, mm_in, mm_nth, mm_set, mm_ok, mm_isL, mm_ret, mm_isRet, mm_bool, mm_call, mm_push, mm_rv, mm_cats, mm_cat, mm_look, mm_ft, mm_fv, mm_pf, mm_thr, mm_ent, mm_pad, mm_fl, beq_self_eq_true, cond_true, cond_false, Nat.reduceBEq, Nat.reduceEqDiff, List.drop_succ_cons, List.drop_zero, List.take_succ_cons, List.take_zero, List.reverse_cons, List.reverse_nil, List.nil_append, List.cons_append, List.length_cons, List.length_nil, Nat.reduceAdd, Nat.reduceSub, Nat.reduceLeDiff, Bool.not_false, Bool.and_true, Bool.true_and, Nat.zero_add, true_and, and_true, Nat.le_refl, true_or, or_true, reduceCtorEq, Nat.add_zero, Nat.reduceLT, Bool.and_self, Bool.not_true, Fin.isValue, Nat.reduceLeDiff, List.take_nil, List.drop_nil, mm_i1, mm_i2, mm_i3, mm_i4, mm_i5, mm_i6, mm_i7, mm_i16, mm_i17, mm_i18, mm_i19, mm_i20, mm_i21, mm_i22, mm_i23, mm_l3, mm_l4, mm_l5, mm_l6, mm_l7, mm_l18, mm_l19, mm_l20, mm_l21, mm_l22, kdX2_takeOutFirst, ct_X2_takeOutFirst, flX2, sp_X2_cornerOf, sp_X2_takeOut, wk_is hw]
    refine ⟨hw, ht, hv, ⟨by omega, by omega⟩, fun r hr => ⟨hw, ?_, ⟨by omega, by omega⟩, fun M' h => hq M' ⟨(fr.rf.up (by simp)).tr h.1, h.2.1, by rw [← hr.1]; exact h.2.2⟩⟩⟩
    obtain ⟨v1, v2, v3⟩ := hv
    refine ⟨by simpa [mm_up] using v1, by simp [mm_up]; exact hr.2, fun i hi => ?_⟩
    simp [mm_up] at hi ⊢
    exact v3 i hi
  · exact h.elim
theorem me_X2_takeOutFirst {l : Launch} (hl : l.stackTraces = false) : mm_Met l yX2_takeOutFirst cX2_takeOutFirst 1 none [] 9 164 0 sp_X2_takeOutFirst := mm_mt hl rn_X2_takeOutFirst ⟨plX2, rfl⟩ kkX2_takeOutFirst rfl ⟨Nat.le_of_ble_eq_true rfl, Nat.le_of_ble_eq_true rfl⟩ flkX2 (fun _ h => nomatch h) (⟨mm_pe (me_X2_cornerOf hl) mwX2_cornerOf (mm_t1 191 rfl rfl) (Nat.le_of_ble_eq_true rfl) (Nat.le_of_ble_eq_true rfl), mm_pe (me_X2_takeOut hl) mwX2_takeOut (mm_t2 71 rfl rfl) (Nat.le_of_ble_eq_true rfl) (Nat.le_of_ble_eq_true rfl), trivial⟩) (mm_xe0 _) n9X2
def sp_X2_stepBack : mm_S := fun av M d Q => match av with
  | [.inr (.inr (.inl w)), .inl f] =>  isK w ∧ tW M ∧ wV M w ∧ (f = 0 ∨ f = 1) ∧ ∀ M' r, fr [w, w + 1] M M' ∧ wV M' w ∧ (M w 2 = 0 → r = -9 ∧ M' = M) ∧ (0 < M w 2 → stO M r ∧ M' w 2 = M w 2 - 1 ∧ (f = 1 → r = M (w + 1) 0 ∧ takR (mm_up M w 3 (cor M w 1)) M' w 0) ∧ (f = 0 → r = M (w + 1) (M w 2 - 1).toNat ∧ M' = mm_up M w 2 (M w 2 - 1))) → Q (.inl (some (mm_I r))) M' d
  | _ => False
def ct_X2_stepBack : List (Nat × mm_Ca) := [(66, (0, 2, 12, sp_X2_stepOf, 0)), (69, (0, 1, 12, sp_X2_takeOutFirst, 0))]
abbrev rr_X2_stepBack (Q : mm_Q) := mm_run (mm_look flX2) (mm_look ct_X2_stepBack) mm_x0 (mm_look ([] : List (Nat × Int))) (fun _ => none) 1 0 (fun _ _ => none) Q kdX2_stepBack
set_option maxRecDepth 20000 in
theorem rn_X2_stepBack : mm_RN flX2 ct_X2_stepBack mm_x0 [] 1 0 3 kdX2_stepBack sp_X2_stepBack := by
  intro av M d Q h
  unfold sp_X2_stepBack at h
  split at h
  · rename_i w f
    obtain ⟨hw, ht, hv, hf, hq⟩ := h
    have hz := wk_no hw
    obtain ⟨v1, v2, v3⟩ := id hv
    refine ⟨Nat.le_of_ble_eq_true rfl, mm_run_at (stop := []) (S := mm_F0) kkX2_stepBack 80 ?_ mm_F0h⟩
    simp only [mm_wp, mm_op, mm_nxt, mm_jmp, mm_at, mm_in, mm_nth, mm_set, mm_ok, mm_isL, mm_ret, mm_isRet, mm_bool, mm_call, mm_push, mm_rv, mm_cats, mm_cat, mm_look, mm_ft, mm_fv, mm_pf, mm_thr, mm_ent, mm_pad, mm_fl, beq_self_eq_true, cond_true, cond_false, Nat.reduceBEq, Nat.reduceEqDiff, List.drop_succ_cons, List.drop_zero, List.take_succ_cons, List.take_zero, List.reverse_cons, List.reverse_nil, List.nil_append, List.cons_append, List.length_cons, List.length_nil, Nat.reduceAdd, Nat.reduceSub, Nat.reduceLeDiff, Bool.not_false, Bool.and_true, Bool.true_and, Nat.zero_add, true_and, and_true, Nat.le_refl, true_or, or_true, reduceCtorEq, Nat.add_zero, Nat.reduceLT, Bool.and_self, Bool.not_true, Fin.isValue, Nat.reduceLeDiff, List.take_nil, List.drop_nil, mm_i1, mm_i2, mm_i3, mm_i4, mm_i5, mm_i6, mm_i7, mm_i16, mm_i17, mm_i18, mm_i19, mm_i20, mm_i21, mm_i22, mm_i23, mm_l3, mm_l4, mm_l5, mm_l6, mm_l7, mm_l18, mm_l19, mm_l20, mm_l21, mm_l22, kdX2_stepBack, ct_X2_stepBack, flX2, sp_X2_stepOf, sp_X2_takeOutFirst, wk_is hw]
    refine ⟨⟨by omega, by omega⟩, fun h => ⟨⟨by omega, by omega⟩, fun h2 => ⟨hw, ht, hv, ⟨by omega, by omega⟩, fun r hr => ⟨⟨by omega, by omega⟩, fun h3 => ?_, fun h3 => absurd h2 h3⟩⟩, fun h2 => ⟨hw, ht, hv, ⟨by omega, by omega⟩, fun r hr => ⟨⟨by omega, by omega⟩, fun h3 => absurd h3 h2, fun h3 => ⟨hw, ht, hv, fun M' h4 => ?_⟩⟩⟩⟩, fun h => ⟨⟨by omega, by omega⟩, hq M _ ⟨fr.rf, hv, fun _ => ⟨rfl, rfl⟩, fun h2 => by omega⟩⟩⟩
    · have e : r = M (w + 1) (M w 2 - 1).toNat := by
        rw [hr.1]
        unfold stp
        rw [if_pos (by omega)]
      have v4 := v3 (M w 2 - 1).toNat (by omega)
      refine hq _ r ⟨fr.rf.up (by simp), ?_, fun h4 => absurd h4 h, fun h4 => ⟨⟨by omega, by omega⟩, by simp [mm_up], fun h5 => by omega, fun _ => ⟨e, rfl⟩⟩⟩
      refine ⟨by simp [mm_up]; omega, by simpa [mm_up] using v2, fun i hi => ?_⟩
      simp [mm_up] at hi ⊢
      exact v3 i (by omega)
    · have e : r = M (w + 1) 0 := by
        rw [hr.1]
        unfold stp
        rw [if_pos (by omega)]
        rfl
      have v4 := v3 0 (by omega)
      have e2 : M' w 2 = M w 2 - 1 := by
        rcases h4.2.2 with h5 | h5
        · rw [h5.2.1]
          simp [mm_up]
        · exact absurd ⟨by omega, by simp [mm_up]; omega⟩ h5.1
      exact hq M' r ⟨h4.1, h4.2.1, fun h5 => absurd h5 h, fun h5 => ⟨⟨by omega, by omega⟩, e2, fun _ => ⟨e, h4.2.2⟩, fun h6 => absurd h6 h2⟩⟩
  · exact h.elim
theorem me_X2_stepBack {l : Launch} (hl : l.stackTraces = false) : mm_Met l yX2_stepBack cX2_stepBack 3 (some .int) [] 10 184 0 sp_X2_stepBack := mm_mt hl rn_X2_stepBack ⟨plX2, rfl⟩ kkX2_stepBack rfl ⟨Nat.le_of_ble_eq_true rfl, Nat.le_of_ble_eq_true rfl⟩ flkX2 (fun _ h => nomatch h) (⟨mm_pe (me_X2_stepOf hl) mwX2_stepOf (mm_t3 239 rfl rfl) (Nat.le_of_ble_eq_true rfl) (Nat.le_of_ble_eq_true rfl), mm_pe (me_X2_takeOutFirst hl) mwX2_takeOutFirst (mm_t4 0 rfl rfl) (Nat.le_of_ble_eq_true rfl) (Nat.le_of_ble_eq_true rfl), trivial⟩) (mm_xe0 _) n9X2
end
section
/-! no street twice -/
def wD (M : mm_M) (w : Nat) : Prop := ∀ i j : Nat, i < M w 2 → j < M w 2 → M (w + 1) i / 2 = M (w + 1) j / 2 → i = j
def wN (M : mm_M) (w : Nat) (s : Int) : Prop := ∀ i : Nat, i < M w 2 → M (w + 1) i / 2 ≠ s
theorem wD.to {M M' : mm_M} {w : Nat} (h : wD M w) (h1 : M' w = M w) (h2 : M' (w + 1) = M (w + 1)) : wD M' w := by
  unfold wD
  rw [h1, h2]
  exact h
theorem wD.to2 {M M' : mm_M} {w : Nat} (h : wD M w) (h1 : M' w 2 = M w 2) (h2 : M' (w + 1) = M (w + 1)) : wD M' w := by
  unfold wD
  rw [h1, h2]
  exact h
theorem wN.to {M M' : mm_M} {w : Nat} {s : Int} (h : wN M w s) (h1 : M' w = M w) (h2 : M' (w + 1) = M (w + 1)) : wN M' w s := by
  unfold wN
  rw [h1, h2]
  exact h
theorem put_ix {M M' : mm_M} {w : Nat} {p s : Int} (h : putR M M' w p s) : ∀ i : Nat, i < M' w 2 → (M' (w + 1) i = s ∧ (i : Int) = p) ∨ ∃ i' : Nat, i' < M w 2 ∧ M' (w + 1) i = M (w + 1) i' ∧ ((i' = i ∧ (M' = M ∨ i < p)) ∨ (i' + 1 = i ∧ p < i)) := by
  intro i hi
  rcases h with ⟨h0, h1, h2, h3⟩ | ⟨-, rfl⟩
  · obtain ⟨a1, a2, a3⟩ := h3 i (by omega)
    rcases Int.lt_trichotomy (i : Int) p with h4 | h4 | h4
    · exact Or.inr ⟨i, by omega, a1 h4, Or.inl ⟨rfl, Or.inr h4⟩⟩
    · exact Or.inl ⟨a2 h4, h4⟩
    · exact Or.inr ⟨i - 1, by omega, a3 h4, Or.inr ⟨by omega, h4⟩⟩
  · exact Or.inr ⟨i, hi, rfl, Or.inl ⟨rfl, Or.inl rfl⟩⟩
theorem put_wD {M M' : mm_M} {w : Nat} {p s : Int} (hd : wD M w) (hn : wN M w (s / 2)) (h : putR M M' w p s) : wD M' w := by
  intro i j hi hj e
  rcases put_ix h i hi with ⟨a1, a2⟩ | ⟨i', a0, a1, a2⟩
  · rcases put_ix h j hj with ⟨b1, b2⟩ | ⟨j', b0, b1, b2⟩
    · omega
    · rw [a1, b1] at e
      exact absurd e.symm (hn j' b0)
  · rcases put_ix h j hj with ⟨b1, b2⟩ | ⟨j', b0, b1, b2⟩
    · rw [a1, b1] at e
      exact absurd e (hn i' a0)
    · rw [a1, b1] at e
      have h5 := hd i' j' a0 b0 e
      rcases a2 with ⟨a2, a3 | a3⟩ | a2
      · subst a3
        rcases h with h6 | h6
        · have := h6.2.1
          omega
        · rcases b2 with b2 | b2
          · omega
          · subst a2
            subst h5
            have e1 := b2.1
            exfalso
            have := hd i' j a0 hj (by rw [b1])
            omega
      · rcases b2 with ⟨b2, b3 | b3⟩ | b2
        · subst b3
          have := hd i' j a0 hj (by rw [b1]; exact e)
          omega
        · omega
        · omega
      · rcases b2 with ⟨b2, b3 | b3⟩ | b2
        · subst b3
          have := hd i j' hi b0 (by rw [a1]; exact e)
          omega
        · omega
        · omega
theorem put_wN {M M' : mm_M} {w : Nat} {p s t : Int} (hn : wN M w t) (hs : s / 2 ≠ t) (h : putR M M' w p s) : wN M' w t := by
  intro i hi
  rcases put_ix h i hi with ⟨a1, a2⟩ | ⟨i', a0, a1, a2⟩
  · rw [a1]
    exact hs
  · rw [a1]
    exact hn i' a0
theorem tak_ix {M M' : mm_M} {w : Nat} {p : Int} (h : takR M M' w p) (hp : 0 ≤ p ∧ p < M w 2) : ∀ i : Nat, i < M' w 2 → ∃ i' : Nat, i' < M w 2 ∧ M' (w + 1) i = M (w + 1) i' ∧ ((i' = i ∧ i < p) ∨ (i' = i + 1 ∧ p ≤ i)) := by
  intro i hi
  rcases h with ⟨h0, h1, h2, h3⟩ | ⟨h0, -⟩
  · obtain ⟨a1, a2⟩ := h3 i (by omega)
    rcases Int.lt_or_le (i : Int) p with h4 | h4
    · exact ⟨i, by omega, a1 h4, Or.inl ⟨rfl, h4⟩⟩
    · exact ⟨i + 1, by omega, a2 h4, Or.inr ⟨rfl, h4⟩⟩
  · exact absurd hp h0
theorem tak_wD {M M' : mm_M} {w : Nat} {p : Int} (hd : wD M w) (h : takR M M' w p) : wD M' w := by
  by_cases hp : 0 ≤ p ∧ p < M w 2
  · intro i j hi hj e
    obtain ⟨i', a0, a1, a2⟩ := tak_ix h hp i hi
    obtain ⟨j', b0, b1, b2⟩ := tak_ix h hp j hj
    rw [a1, b1] at e
    have := hd i' j' a0 b0 e
    omega
  · rcases h with h | ⟨-, rfl⟩
    · exact absurd h.1 hp
    · exact hd
theorem tak_wN {M M' : mm_M} {w : Nat} {p t : Int} (hn : wN M w t) (h : takR M M' w p) : wN M' w t := by
  by_cases hp : 0 ≤ p ∧ p < M w 2
  · intro i hi
    obtain ⟨i', a0, a1, a2⟩ := tak_ix h hp i hi
    rw [a1]
    exact hn i' a0
  · rcases h with h | ⟨-, rfl⟩
    · exact absurd h.1 hp
    · exact hn
/-- what is taken out isn't there any more -/
theorem tak_out {M M' : mm_M} {w : Nat} {p : Int} (hd : wD M w) (h : takR M M' w p) (hp : 0 ≤ p ∧ p < M w 2) : wN M' w (M (w + 1) p.toNat / 2) := by
  intro i hi e
  obtain ⟨i', a0, a1, a2⟩ := tak_ix h hp i hi
  rw [a1] at e
  have := hd i' p.toNat a0 (by omega) e
  omega
/-- pigeons: streets below n, none twice, and one that isn't there: fewer than n -/
theorem pigeon : ∀ (n : Nat) (f : Nat → Nat) (m : Nat), (∀ i, i < m → f i < n) → (∀ i j, i < m → j < m → f i = f j → i = j) → m ≤ n
  | 0, f, m, h, _ => by
    cases m with
    | zero => omega
    | succ m => exact absurd (h 0 (by omega)) (by omega)
  | n + 1, f, m, h, h2 => by
    by_cases hx : ∃ i, i < m ∧ f i = n
    · obtain ⟨k, hk, hkn⟩ := hx
      obtain ⟨m, rfl⟩ : ∃ m', m = m' + 1 := ⟨m - 1, by omega⟩
      have := pigeon n (fun i => if i < k then f i else f (i + 1)) m (fun i hi => by
        show (if i < k then f i else f (i + 1)) < n
        split
        · have h3 := h i (by omega)
          have : f i ≠ n := fun e => by have := h2 i k (by omega) hk (by omega); omega
          omega
        · have h3 := h (i + 1) (by omega)
          have : f (i + 1) ≠ n := fun e => by have := h2 (i + 1) k (by omega) hk (by omega); omega
          omega) (fun i j hi hj e => by
        have e : (if i < k then f i else f (i + 1)) = (if j < k then f j else f (j + 1)) := e
        split at e <;> split at e
        · exact h2 i j (by omega) (by omega) e
        · have := h2 i (j + 1) (by omega) (by omega) e
          omega
        · have := h2 (i + 1) j (by omega) (by omega) e
          omega
        · have := h2 (i + 1) (j + 1) (by omega) (by omega) e
          omega)
      omega
    · have := pigeon n f m (fun i hi => by
        have h3 := h i hi
        have : f i ≠ n := fun e => hx ⟨i, hi, e⟩
        omega) h2
      omega
theorem wD_lt {M : mm_M} {w : Nat} {s : Int} (hv : wV M w) (hd : wD M w) (hs : 0 ≤ s ∧ s < M 2 4) (hn : wN M w s) : M w 2 < M 2 4 := by
  obtain ⟨v1, v2, v3⟩ := hv
  have h := pigeon (M 2 4).toNat (fun i => if i < (M w 2).toNat then (M (w + 1) i / 2).toNat else s.toNat) ((M w 2).toNat + 1) (fun i hi => by
    show (if i < (M w 2).toNat then (M (w + 1) i / 2).toNat else s.toNat) < _
    split
    · have := v3 i (by omega)
      omega
    · omega) (fun i j hi hj e => by
    have e : (if i < (M w 2).toNat then (M (w + 1) i / 2).toNat else s.toNat) = (if j < (M w 2).toNat then (M (w + 1) j / 2).toNat else s.toNat) := e
    split at e <;> split at e
    · have a := v3 i (by omega)
      have b := v3 j (by omega)
      exact hd i j (by omega) (by omega) (by omega)
    · have a := v3 i (by omega)
      exact absurd (by omega) (hn i (by omega))
    · have b := v3 j (by omega)
      exact absurd (by omega) (hn j (by omega))
    · omega)
  omega
theorem wDk {M M' : mm_M} {v w : Nat} (h : wD M v) (hf : fr [w, w + 1] M M') (hv : isK v) (hw : isK w) (hne : v ≠ w) : wD M' v := by
  have := wk_ap hv hw hne
  exact h.to (hf v (by simp; omega)) (hf (v + 1) (by simp; omega))
theorem wNk {M M' : mm_M} {v w : Nat} {s : Int} (h : wN M v s) (hf : fr [w, w + 1] M M') (hv : isK v) (hw : isK w) (hne : v ≠ w) : wN M' v s := by
  have := wk_ap hv hw hne
  exact h.to (hf v (by simp; omega)) (hf (v + 1) (by simp; omega))
theorem wD5 {M M' : mm_M} {v : Nat} (h : wD M v) (hf : fr [5, 6] M M') (hv : isK v) : wD M' v := by
  have := wk_no hv
  exact h.to (hf v (by simp; omega)) (hf (v + 1) (by simp; omega))
theorem wD_0 {M : mm_M} {w : Nat} (h : M w 2 = 0) : wD M w := fun i j hi => by omega
end
section
/-! the relations that class and model share -/
theorem mm_up_ob2 {M : mm_M} {o a b : Nat} {x : Int} (h : b ≠ a) : mm_up M o a x o b = M o b := by
  simp [mm_up, h]
theorem bt_sub_le {a b : Int} (ha : 0 ≤ a) (hb : 0 ≤ b) (h : ∀ k, bt a k = 1 → bt b k = 1) : a ≤ b := by
  obtain ⟨n, rfl⟩ := Int.eq_ofNat_of_zero_le ha
  obtain ⟨m, rfl⟩ := Int.eq_ofNat_of_zero_le hb
  have e : n &&& m = n := by
    apply Nat.eq_of_testBit_eq
    intro i
    rw [Nat.testBit_and]
    have := h i
    rw [bt_nat, bt_nat] at this
    cases h1 : n.testBit i <;> cases h2 : m.testBit i <;> simp [h1, h2] at this ⊢
  have := Nat.and_le_right (n := n) (m := m)
  omega
theorem bt_hi30 {x : Int} (h : 0 ≤ x ∧ x < 1073741824) {k : Nat} (hk : 30 ≤ k) : bt x k = 0 := by
  obtain ⟨n, rfl⟩ := Int.eq_ofNat_of_zero_le h.1
  rw [bt_nat, Nat.testBit_lt_two_pow (Nat.lt_of_lt_of_le (by omega : n < 2 ^ 30) (Nat.pow_le_pow_right (by decide) hk))]
  simp
theorem bt_ext2 {a b : Int} (ha : 0 ≤ a) (hb : 0 ≤ b) (h : ∀ k, bt a k = 1 ↔ bt b k = 1) : a = b := by
  have h1 := bt_sub_le ha hb (fun k => (h k).mp)
  have h2 := bt_sub_le hb ha (fun k => (h k).mpr)
  omega
/-- the streets that a walk has left after i steps -/
def nwk (M : mm_M) (w : Nat) : Nat → Int
  | 0 => 2 ^ (M 2 4).toNat - 1
  | i + 1 => clr (nwk M w i) (M (w + 1) i / 2).toNat
theorem nwk_b {M : mm_M} {w : Nat} (ht : tW M) (hv : wV M w) : ∀ i : Nat, i ≤ M w 2 → 0 ≤ nwk M w i ∧ nwk M w i < 1073741824
  | 0, _ => by
    have h1 := ht.1
    have h2 := pw_le (k := (M 2 4).toNat) (n := 30) (by omega)
    have h3 := pw_lt (k := (M 2 4).toNat) (by omega)
    simp only [nwk]
    omega
  | i + 1, h => by
    have h1 := ht.1
    have h2 := hv.2.2 i (by omega)
    exact (clr_spec (nwk_b ht hv i (by omega)) (by omega)).1
theorem nwk_bt {M : mm_M} {w : Nat} (ht : tW M) (hv : wV M w) {k : Nat} (hk : k < 32) : ∀ i : Nat, i ≤ M w 2 → (bt (nwk M w i) k = 1 ↔ (k < M 2 4 ∧ ∀ j : Nat, j < i → M (w + 1) j / 2 ≠ k))
  | 0, _ => by
    have h1 := ht.1
    have h2 := bt_all (M 2 4).toNat k
    simp only [nwk]
    rw [h2]
    split
    · exact ⟨fun _ => ⟨by omega, fun j hj => by omega⟩, fun _ => rfl⟩
    · exact ⟨fun h => by omega, fun h => by omega⟩
  | i + 1, h => by
    have h1 := ht.1
    have h2 := hv.2.2 i (by omega)
    have h3 := (clr_spec (nwk_b ht hv i (by omega)) (s := (M (w + 1) i / 2).toNat) (by omega)).2 k hk
    have h4 := nwk_bt ht hv hk i (by omega)
    simp only [nwk]
    rw [h3]
    split
    · refine ⟨fun h => by omega, fun h => absurd ?_ (h.2 i (by omega))⟩
      omega
    · rw [h4]
      refine ⟨fun h => ⟨h.1, fun j hj => ?_⟩, fun h => ⟨h.1, fun j hj => h.2 j (by omega)⟩⟩
      by_cases e : j = i
      · subst e
        omega
      · exact h.2 j (by omega)
/-- a set of streets that aren't on the walk -/
def lft (M : mm_M) (w : Nat) (S : Int) : Prop := ∀ k : Nat, k < 32 → bt S k = 1 → wN M w k
theorem nwk_lft {M : mm_M} {w : Nat} (ht : tW M) (hv : wV M w) : lft M w (nwk M w (M w 2).toNat) := fun k hk hb i hi => ((nwk_bt ht hv hk (M w 2).toNat (by have := hv.1; omega)).mp hb).2 i (by omega)
theorem lft_r {M : mm_M} {w : Nat} {S r : Int} (h : lft M w S) (hr : 0 ≤ r ∧ r < 64) (hb : bt S (r / 2).toNat = 1) : wN M w (r / 2) := by
  have := h (r / 2).toNat (by omega) hb
  rw [show (((r / 2).toNat : Nat) : Int) = r / 2 by omega] at this
  exact this
/-- going on from a place: r steps come -/
def goR (up : Int) (w : Nat) : Nat → Int → mm_M → mm_M → Prop
  | 0, p, V, V' => onR V (nwk V w (V w 2).toNat) (cor V w p) up (-1) ∧ V' = V
  | r + 1, p, V, V' => ∃ s V1, onR V (nwk V w (V w 2).toNat) (cor V w p) up s ∧ 0 ≤ s ∧ s < 2 * V 2 4 ∧ putR V V1 w p s ∧ fr [w, w + 1] V V1 ∧ goR up w r (p + 1) V1 V'
/-- the rounds come in from a place on -/
def comL (up : Int) (w : Nat) : Nat → Int → mm_M → mm_M → Nat → Prop
  | 0, p, V, V', c => V w 2 < p ∧ V' = V ∧ c = 0
  | m + 1, p, V, V', c => p ≤ V w 2 ∧ ∃ r V1 c', goR up w r p V V1 ∧ comL up w m (p + 1) V1 V' c' ∧ c = r + c'
def comR (up : Int) (w : Nat) (V V' : mm_M) (c : Nat) : Prop := ∃ r V1 m c', goR up w r (V w 2) V V1 ∧ comL up w m 0 V1 V' c' ∧ c = r + c'
def filB (V : mm_M) (up : Int) : Int := if up = 1 then -1 else V 2 4
/-- all that is left, by the least or the greatest: r steps come -/
def filR (up : Int) (w : Nat) : Nat → mm_M → mm_M → Prop
  | 0, V, V' => whR V (nwk V w (V w 2).toNat) (cor V w (V w 2)) (filB V up) up (-1) ∧ fr [5, 6] V V'
  | r + 1, V, V' => ∃ s V0 V1, whR V (nwk V w (V w 2).toNat) (cor V w (V w 2)) (filB V up) up s ∧ 0 ≤ s ∧ s < 2 * V 2 4 ∧ fr [5, 6] V V0 ∧ putR V0 V1 w (V0 w 2) s ∧ fr [w, w + 1] V0 V1 ∧ filR up w r V1 V'
def cpyR (V V' : mm_M) (w v : Nat) : Prop := V' w 2 = V v 2 ∧ V' w 3 = V v 3 ∧ ∀ j : Nat, j < V v 2 → V' (w + 1) j = V (v + 1) j
/-- the steps in turned order -/
def revR (V V' : mm_M) (w : Nat) : Prop := V' w 2 = V w 2 ∧ V' w 3 = cor V w (V w 2) ∧ ∀ i : Nat, i < V w 2 → V' (w + 1) i = V (w + 1) ((V w 2).toNat - 1 - i)
/-- t times the first step becomes the last one -/
def rotR (V V' : mm_M) (w t : Nat) : Prop := V' w 2 = V w 2 ∧ (∀ x : Nat, x < V w 2 → V' (w + 1) x = V (w + 1) ((x + t) % (V w 2).toNat)) ∧ ((t = 0 ∨ V w 2 = 0) → V' w 3 = V w 3) ∧ (0 < t → 0 < V w 2 → V' w 3 = gl V (V (w + 1) ((t - 1) % (V w 2).toNat)))
def smR (V : mm_M) (w v : Nat) : Prop := V w 3 = V v 3 ∧ V w 2 = V v 2 ∧ ∀ i : Nat, i < V w 2 → V (w + 1) i = V (v + 1) i
def tnR (V : mm_M) (w v b : Nat) : Prop := cor V w b = V v 3 ∧ ∀ i : Nat, i < V w 2 → V (w + 1) ((i + b) % (V w 2).toNat) = V (v + 1) i
/-- by how much turned it is the other one -/
def tuR (V : mm_M) (w v : Nat) (r : Int) : Prop := (smR V w v ∧ r = 0) ∨ (¬ smR V w v ∧ ((¬ (cor V w (V w 2) = V w 3 ∧ V w 2 = V v 2) ∧ r = -1) ∨ ((cor V w (V w 2) = V w 3 ∧ V w 2 = V v 2) ∧
  ((r = -1 ∧ ∀ b : Nat, 1 ≤ b → b < V w 2 → ¬ tnR V w v b) ∨ ∃ b : Nat, r = b ∧ 1 ≤ b ∧ b < V w 2 ∧ tnR V w v b ∧ ∀ b' : Nat, 1 ≤ b' → b' < b → ¬ tnR V w v b'))))
def rdw (V : mm_M) (w p : Nat) : Nat → Int
  | 0 => 0
  | m + 1 => rdw V w p m * V 2 6 + V (w + 1) ((p + m) % (V w 2).toNat) / 2 % V 2 6
def wdR (V : mm_M) (w : Nat) (x f r : Int) : Prop := ((V 2 6 = 0 ∨ V 2 4 ≤ x) ∧ r = -1) ∨ (¬ (V 2 6 = 0 ∨ V 2 4 ≤ x) ∧ ((r = -1 ∧ ∀ p : Nat, f ≤ p → p < V w 2 → rdw V w p (V 2 7).toNat ≠ x) ∨ ∃ p : Nat, r = p ∧ f ≤ p ∧ p < V w 2 ∧ rdw V w p (V 2 7).toNat = x ∧ ∀ p' : Nat, f ≤ p' → p' < p → rdw V w p' (V 2 7).toNat ≠ x))
/-- all streets and steps go -/
def emR (V V' : mm_M) : Prop := fr [2, 8, 10, 12, 16] V V' ∧ V' 2 4 = 0 ∧ V' 2 5 = V 2 5 ∧ V' 2 6 = 0 ∧ V' 2 7 = 0 ∧ (∀ k, k < 3 → V' (8 + 2 * k) 2 = 0 ∧ V' (8 + 2 * k) 3 = 0) ∧ V' 16 1 = 0 ∧ V' 16 2 = V 16 2 ∧ V' 16 3 = V 16 3 ∧ V' 16 4 = V 16 4
def rdR (V : mm_M) (w v : Nat) : Prop := w ≠ v ∧ V v 2 ≠ 0 ∧ cor V v (V v 2) = V v 3 ∧ ∀ j : Nat, j < V v 2 → wN V w (V (v + 1) j / 2)
/-- a round comes in, its own walk is empty then; a cursor on one of the two is lost -/
def splR (V V' : mm_M) (w v : Nat) (p : Int) : Prop := V' w 2 = V w 2 + V v 2 ∧ V' w 3 = V w 3 ∧ V' v 2 = 0 ∧ V' v 3 = V v 3 ∧ (∀ i : Nat, i < V' w 2 → (i < p → V' (w + 1) i = V (w + 1) i) ∧ (p ≤ i → i < p + V v 2 → V' (w + 1) i = V (v + 1) (i - p.toNat)) ∧ (p + V v 2 ≤ i → V' (w + 1) i = V (w + 1) (i - (V v 2).toNat)))
def losF (V : mm_M) (w : Nat) : Int := if V 16 1 = w then 1 else V 16 4
def fhF (V : mm_M) (w : Nat) (s : Int) : Int := if V 16 2 = V w 2 then lv V s (cor V w (V 16 2)) else if V 16 2 = 0 then cm V s (cor V w (V 16 2)) else if V 3 s.toNat = cor V w (V 16 2) ∧ V 4 s.toNat = cor V w (V 16 2) then 2 * s else -1
def isW3 (w : Nat) : Prop := w = 8 ∨ w = 10 ∨ w = 12
theorem isW3.k {w : Nat} (h : isW3 w) : isK w := by
  rcases h with h | h | h
  · exact Or.inl h
  · exact Or.inr (Or.inl h)
  · exact Or.inr (Or.inr (Or.inl h))
/-- the steps walked the other way -/
def flp (V : mm_M) (s : Int) : Int := if V 3 (s / 2).toNat = V 4 (s / 2).toNat then s else if s % 2 = 0 then s + 1 else s - 1
def tsR (V V' : mm_M) (w : Nat) : Prop := V' w 2 = V w 2 ∧ V' w 3 = V w 3 ∧ ∀ i : Nat, i < V w 2 → V' (w + 1) i = flp V (V (w + 1) i)
/-- the streets behind one have their numbers anew -/
def renR (V V' : mm_M) (w : Nat) (s : Int) : Prop := V' w 2 = V w 2 ∧ V' w 3 = V w 3 ∧ ∀ i : Nat, i < V w 2 → V' (w + 1) i = if s < V (w + 1) i / 2 then V (w + 1) i - 2 else V (w + 1) i
/-- a round is given out -/
def givR (V V' : mm_M) (w v : Nat) (a b : Int) : Prop := V' w 2 = V w 2 - (b - a) ∧ V' w 3 = V w 3 ∧ V' v 2 = b - a ∧ V' v 3 = cor V w a ∧ (∀ i : Nat, i < V w 2 - (b - a) → (i < a → V' (w + 1) i = V (w + 1) i) ∧ (a ≤ i → V' (w + 1) i = V (w + 1) (i + (b - a).toNat))) ∧ ∀ i : Nat, i < b - a → V' (v + 1) i = V (w + 1) (a.toNat + i)
/-- a street is walked at an end -/
def wsF (V : mm_M) (w : Nat) (s a : Int) : Int := if a = 1 then cm V s (V w 3) else lv V s (cor V w (V w 2))
def wsR (V V' : mm_M) (w : Nat) (s a r : Int) : Prop := ((wsF V w s a = -1 ∨ ¬ wN V w s) ∧ r = -9 ∧ V' = V) ∨ (wsF V w s a ≠ -1 ∧ wN V w s ∧ fr [w, w + 1] V V' ∧
  ((a = 1 ∧ r = sr V (wsF V w s a) ∧ ∃ V1, fr [w, w + 1] V V1 ∧ putR V V1 w 0 (wsF V w s a) ∧ V' = mm_up V1 w 3 r) ∨ (a = 0 ∧ r = gl V (wsF V w s a) ∧ putR V V' w (V w 2) (wsF V w s a))))
/-- cut down to k steps; the first street behind the one that stood there, up or down -/
def ctW (V : mm_M) (w k : Nat) : mm_M := mm_up V w 2 k
def nxS (V : mm_M) (w k : Nat) (up s : Int) : Prop := whR (ctW V w k) (nwk (ctW V w k) w k) (cor (ctW V w k) w k) (V (w + 1) k / 2) up s
def nxR (up : Int) (w : Nat) (V V' : mm_M) (r : Int) : Prop := (r = -1 ∧ ∀ k : Nat, k < V w 2 → nxS V w k up (-1)) ∨
  ∃ k : Nat, r = k ∧ k < V w 2 ∧ (∀ j : Nat, k < j → j < V w 2 → nxS V w j up (-1)) ∧ ∃ s V1 V2 m, nxS V w k up s ∧ 0 ≤ s ∧ s < 2 * V 2 4 ∧ fr [w, w + 1, 5, 6] V V1 ∧ V1 w 2 = k ∧ V1 w 3 = V w 3 ∧ V1 (w + 1) = V (w + 1) ∧ putR V1 V2 w k s ∧ fr [w, w + 1] V1 V2 ∧ filR up w m V2 V'
/-- the cursor: whether it can go on, or back; its place as it is told -/
def hsP (V : mm_M) (f : Int) : Prop := V 16 1 ≠ 0 ∧ V 16 4 = 0 ∧ (f ≠ 0 → V 16 2 < V (V 16 1).toNat 2) ∧ (f = 0 → 0 < V 16 2)
def paF (V : mm_M) (f : Int) : Int := if V 16 1 ≠ 0 ∧ V 16 4 = 0 then (if f = 0 then V 16 2 - 1 else V 16 2) else -2
/-- the cursor goes on, or back -/
def tlP (V : mm_M) (f : Int) : Int := if f = 0 then V 16 2 - 1 else V 16 2
def tlR (V V' : mm_M) (f r : Int) : Prop := (¬ hsP V f ∧ r = -9 ∧ V' = V) ∨ (hsP V f ∧ r = V ((V 16 1).toNat + 1) (tlP V f).toNat ∧ fr [16] V V' ∧ V' 16 1 = V 16 1 ∧ V' 16 4 = V 16 4 ∧ V' 16 3 = tlP V f ∧ V' 16 2 = if f = 0 then V 16 2 - 1 else V 16 2 + 1)
/-- the told step is exchanged -/
def etO (V : mm_M) : Int := V ((V 16 1).toNat + 1) (V 16 3).toNat
def etS (V : mm_M) (s : Int) : Int := bw V s (sr V (etO V)) (gl V (etO V))
def etP (V : mm_M) (s : Int) : Prop := (V 16 1 ≠ 0 ∧ V 16 4 = 0 ∧ 0 ≤ V 16 3) ∧ etS V s ≠ -1 ∧ ∀ i : Nat, i < V (V 16 1).toNat 2 → V ((V 16 1).toNat + 1) i / 2 = s → (i : Int) = V 16 3
def etR (V V' : mm_M) (s r : Int) : Prop := (¬ etP V s ∧ r = -9 ∧ V' = V) ∨ (etP V s ∧ r = etO V ∧ V' = mm_up V ((V 16 1).toNat + 1) (V 16 3).toNat (etS V s))
/-- a street comes in at the cursor -/
def liP (V : mm_M) (s : Int) : Prop := (V 16 1 ≠ 0 ∧ V 16 4 = 0) ∧ wN V (V 16 1).toNat s ∧ fhF V (V 16 1).toNat s ≠ -1
def liR (V V' : mm_M) (s r : Int) : Prop := (¬ liP V s ∧ r = -9 ∧ V' = V) ∨ (liP V s ∧ r = V 16 2 + 1 ∧ ∃ V1, fr [(V 16 1).toNat, (V 16 1).toNat + 1] V V1 ∧ putR V V1 (V 16 1).toNat (V 16 2) (fhF V (V 16 1).toNat s) ∧
  fr [(V 16 1).toNat, (V 16 1).toNat + 1, 16] V V' ∧ V' (V 16 1).toNat 2 = V1 (V 16 1).toNat 2 ∧ V' ((V 16 1).toNat + 1) = V1 ((V 16 1).toNat + 1) ∧ V' (V 16 1).toNat 3 = (if V 16 2 = 0 then sr V (fhF V (V 16 1).toNat s) else V (V 16 1).toNat 3) ∧ V' 16 1 = V 16 1 ∧ V' 16 2 = V 16 2 + 1 ∧ V' 16 3 = -1 ∧ V' 16 4 = V 16 4)
/-- the told step is taken out -/
def rtP (V : mm_M) : Prop := (V 16 1 ≠ 0 ∧ V 16 4 = 0 ∧ 0 ≤ V 16 3) ∧ (V 16 3 = 0 ∨ V 16 3 = V (V 16 1).toNat 2 - 1 ∨ sr V (etO V) = gl V (etO V))
def rtR (V V' : mm_M) (r : Int) : Prop := (¬ rtP V ∧ r = -9 ∧ V' = V) ∨ (rtP V ∧ r = etO V ∧ ∃ V1, fr [(V 16 1).toNat, (V 16 1).toNat + 1] V V1 ∧ takR V V1 (V 16 1).toNat (V 16 3) ∧
  fr [(V 16 1).toNat, (V 16 1).toNat + 1, 16] V V' ∧ V' (V 16 1).toNat 2 = V1 (V 16 1).toNat 2 ∧ V' ((V 16 1).toNat + 1) = V1 ((V 16 1).toNat + 1) ∧ V' (V 16 1).toNat 3 = (if V 16 3 = 0 ∧ V 16 3 ≠ V (V 16 1).toNat 2 - 1 then gl V (etO V) else V (V 16 1).toNat 3) ∧ V' 16 1 = V 16 1 ∧ V' 16 2 = (if V 16 3 < V 16 2 then V 16 2 - 1 else V 16 2) ∧ V' 16 3 = -1 ∧ V' 16 4 = V 16 4)
end
section
/-! when two states are the same to all who ask: town, walks, cursor, counters; and what the relations make of the same states -/
def TE (A B : mm_M) : Prop := A 2 4 = B 2 4 ∧ A 2 5 = B 2 5 ∧ A 2 6 = B 2 6 ∧ A 2 7 = B 2 7 ∧ ∀ i : Nat, i < A 2 4 → A 3 i = B 3 i ∧ A 4 i = B 4 i
def SW (A B : mm_M) (w : Nat) : Prop := A w 2 = B w 2 ∧ A w 3 = B w 3 ∧ ∀ i : Nat, i < A w 2 → A (w + 1) i = B (w + 1) i
theorem TE.rf {A : mm_M} : TE A A := ⟨rfl, rfl, rfl, rfl, fun _ _ => ⟨rfl, rfl⟩⟩
theorem SW.rf {A : mm_M} {w : Nat} : SW A A w := ⟨rfl, rfl, fun _ _ => rfl⟩
theorem TE.sy {A B : mm_M} (h : TE A B) : TE B A := ⟨h.1.symm, h.2.1.symm, h.2.2.1.symm, h.2.2.2.1.symm, fun i hi => by have := h.2.2.2.2 i (by rw [h.1]; exact hi); exact ⟨this.1.symm, this.2.symm⟩⟩
theorem SW.sy {A B : mm_M} {w : Nat} (h : SW A B w) : SW B A w := ⟨h.1.symm, h.2.1.symm, fun i hi => (h.2.2 i (by rw [h.1]; exact hi)).symm⟩
theorem TE.tr {A B C : mm_M} (h : TE A B) (g : TE B C) : TE A C := ⟨h.1.trans g.1, h.2.1.trans g.2.1, h.2.2.1.trans g.2.2.1, h.2.2.2.1.trans g.2.2.2.1, fun i hi => by have a := h.2.2.2.2 i hi; have b := g.2.2.2.2 i (by rw [← h.1]; exact hi); exact ⟨a.1.trans b.1, a.2.trans b.2⟩⟩
theorem SW.tr {A B C : mm_M} {w : Nat} (h : SW A B w) (g : SW B C w) : SW A C w := ⟨h.1.trans g.1, h.2.1.trans g.2.1, fun i hi => (h.2.2 i hi).trans (g.2.2 i (by rw [← h.1]; exact hi))⟩
theorem TE.of {A B : mm_M} (h2 : B 2 = A 2) (h3 : B 3 = A 3) (h4 : B 4 = A 4) : TE A B := by
  unfold TE
  rw [h2, h3, h4]
  exact ⟨rfl, rfl, rfl, rfl, fun _ _ => ⟨rfl, rfl⟩⟩
theorem TE.ofr {S : List Nat} {A B : mm_M} (h : fr S A B) (h2 : 2 ∉ S) (h3 : 3 ∉ S) (h4 : 4 ∉ S) : TE A B := .of (h 2 h2) (h 3 h3) (h 4 h4)
theorem SW.of {A B : mm_M} {w : Nat} (h2 : B w = A w) (h3 : B (w + 1) = A (w + 1)) : SW A B w := by
  unfold SW
  rw [h2, h3]
  exact ⟨rfl, rfl, fun _ _ => rfl⟩
theorem SW.ofr {S : List Nat} {A B : mm_M} {w : Nat} (h : fr S A B) (h2 : w ∉ S) (h3 : w + 1 ∉ S) : SW A B w := .of (h w h2) (h (w + 1) h3)
theorem TE.frk {A B : mm_M} {w : Nat} (hw : isK w) (h : fr [w, w + 1] A B) : TE A B := .of (h.k hw).1 (h.k hw).2.1 (h.k hw).2.2
theorem TE.fr5 {A B : mm_M} (h : fr [5, 6] A B) : TE A B := .ofr h (by simp) (by simp) (by simp)
theorem SW.fr5 {A B : mm_M} {w : Nat} (hw : isK w) (h : fr [5, 6] A B) : SW A B w := by
  have := wk_no hw
  exact .ofr h (by simp; omega) (by simp; omega)
theorem tW.te {A B : mm_M} (h : TE A B) (h1 : tW A) (h2 : ∀ i : Nat, i < 30 → (0 ≤ B 3 i ∧ B 3 i < 10) ∧ (0 ≤ B 4 i ∧ B 4 i < 10)) : tW B := by
  obtain ⟨a, b, c, d, e⟩ := h1
  obtain ⟨f, g, i, j, -⟩ := h
  exact ⟨by omega, h2, by omega, by omega, by omega⟩
theorem gl_te {A B : mm_M} {s : Int} (h : TE A B) (hs : 0 ≤ s ∧ s < 2 * A 2 4) : gl A s = gl B s := by
  have := h.2.2.2.2 (s / 2).toNat (by omega)
  unfold gl
  rw [this.1, this.2]
theorem sr_te {A B : mm_M} {s : Int} (h : TE A B) (hs : 0 ≤ s ∧ s < 2 * A 2 4) : sr A s = sr B s := by
  have := h.2.2.2.2 (s / 2).toNat (by omega)
  unfold sr
  rw [this.1, this.2]
theorem lv_te {A B : mm_M} {s c : Int} (h : TE A B) (hs : 0 ≤ s ∧ s < A 2 4) : lv A s c = lv B s c := by
  have := h.2.2.2.2 s.toNat (by omega)
  unfold lv
  rw [this.1, this.2, h.2.1]
theorem cm_te {A B : mm_M} {s c : Int} (h : TE A B) (hs : 0 ≤ s ∧ s < A 2 4) : cm A s c = cm B s c := by
  have := h.2.2.2.2 s.toNat (by omega)
  unfold cm
  rw [this.1, this.2, h.2.1]
theorem lv_in {A : mm_M} {s c : Int} (hs : 0 ≤ s ∧ s < A 2 4) : lv A s c = -1 ∨ (0 ≤ lv A s c ∧ lv A s c < 2 * A 2 4 ∧ lv A s c / 2 = s) := by
  unfold lv
  split
  · right; omega
  · split
    · right; omega
    · left; rfl
theorem cm_in {A : mm_M} {s c : Int} (hs : 0 ≤ s ∧ s < A 2 4) : cm A s c = -1 ∨ (0 ≤ cm A s c ∧ cm A s c < 2 * A 2 4 ∧ cm A s c / 2 = s) := by
  unfold cm
  split
  · right; omega
  · split
    · right; omega
    · left; rfl
theorem bw_te {A B : mm_M} {s a b : Int} (h : TE A B) (hs : 0 ≤ s ∧ s < A 2 4) : bw A s a b = bw B s a b := by
  have e := lv_te (c := a) h hs
  rcases lv_in (c := a) hs with g | g
  · unfold bw
    rw [← e, g, if_neg (by omega), if_neg (by omega)]
  · unfold bw
    rw [← e, ← gl_te h ⟨g.1, g.2.1⟩]
theorem cor_te {A B : mm_M} {w : Nat} {p : Int} (h : TE A B) (hw : SW A B w) (hv : wV A w) : cor A w p = cor B w p := by
  unfold cor
  rw [← hw.1]
  by_cases hp : 0 < p ∧ p ≤ A w 2
  · have h1 := hv.2.2 (p - 1).toNat (by omega)
    rw [if_pos hp, if_pos hp, ← hw.2.2 (p - 1).toNat (by omega), gl_te h h1]
  · rw [if_neg hp, if_neg hp, hw.2.1]
theorem stp_te {A B : mm_M} {w : Nat} {p : Int} (hw : SW A B w) : stp A w p = stp B w p := by
  unfold stp
  rw [← hw.1]
  by_cases hp : 0 ≤ p ∧ p < A w 2
  · rw [if_pos hp, if_pos hp, ← hw.2.2 p.toNat (by omega)]
  · rw [if_neg hp, if_neg hp]
theorem nwk_te {A B : mm_M} {w : Nat} (h : TE A B) (hw : SW A B w) : ∀ i : Nat, i ≤ A w 2 → nwk A w i = nwk B w i
  | 0, _ => by
    simp only [nwk]
    rw [h.1]
  | i + 1, hi => by
    simp only [nwk]
    rw [nwk_te h hw i (by omega), hw.2.2 i (by omega)]
theorem wN_te {A B : mm_M} {w : Nat} {s : Int} (hw : SW A B w) : wN A w s ↔ wN B w s := by
  unfold wN
  rw [← hw.1]
  exact ⟨fun h i hi => by rw [← hw.2.2 i hi]; exact h i hi, fun h i hi => by rw [hw.2.2 i hi]; exact h i hi⟩
theorem oc_te {F G : Nat → Int} {S c : Int} : ∀ n : Nat, (∀ i, i < n → F i = G i) → oc F S c n = oc G S c n
  | 0, _ => rfl
  | n + 1, h => by
    simp only [oc]
    rw [oc_te n (fun i hi => h i (by omega)), h n (by omega)]
theorem odn_te {F G T U : Nat → Int} {n : Nat} {ow S : Int} (h : ∀ i, i < n → F i = G i) (g : ∀ i, i < n → T i = U i) : ∀ c : Nat, odn F T n ow S c = odn G U n ow S c
  | 0 => rfl
  | c + 1 => by
    simp only [odn]
    rw [odn_te h g c, oc_te n h, oc_te n g]
theorem HG_te {F G T U : Nat → Int} {n : Nat} {S : Int} (h : ∀ i, i < n → F i = G i) (g : ∀ i, i < n → T i = U i) (hH : HG F T n S) : HG G U n S := by
  intro P h1 h2 k hk hb
  rw [← h k hk]
  refine hH P (fun k hk hb => ?_) ?_ k hk hb
  · rw [h k hk, g k hk]
    exact h1 k hk hb
  · obtain ⟨k, hk, hb, hp⟩ := h2
    exact ⟨k, hk, hb, by rw [h k hk]; exact hp⟩
theorem ST_te1 {F G T U : Nat → Int} {n : Nat} {ow S c : Int} (h : ∀ i, i < n → F i = G i) (g : ∀ i, i < n → T i = U i) (hS : ST F T n ow S c) : ST G U n ow S c := by
  unfold ST at hS ⊢
  rw [odn_te h g, oc_te n h, oc_te n g] at hS
  rcases hS with hS | hS
  · exact Or.inl hS
  · exact Or.inr ⟨HG_te h g hS.1, hS.2⟩
/-- whether the state's town can be walked so -/
def STV (A : mm_M) (S c : Int) : Prop := ST (A 3) (A 4) (A 2 4).toNat (A 2 5) S c
theorem ST_te0 {A B : mm_M} {S c : Int} (h : TE A B) (hS : STV A S c) : STV B S c := by
  unfold STV at hS ⊢
  rw [← h.1, ← h.2.1]
  exact ST_te1 (fun i hi => (h.2.2.2.2 i (by omega)).1) (fun i hi => (h.2.2.2.2 i (by omega)).2) hS
theorem ST_te {A B : mm_M} {S c : Int} (h : TE A B) : STV A S c ↔ STV B S c := ⟨ST_te0 h, ST_te0 h.sy⟩
theorem whS_te {A B : mm_M} {S c : Int} {s : Nat} (h : TE A B) (hs : s < (A 2 4).toNat) (hw : whS A S c s) : whS B S c s := by
  have e := lv_te (c := c) (s := (s : Int)) h (by omega)
  obtain ⟨h1, h2, h3⟩ := hw
  have h4 : STV A (clr S s) (gl A (lv A s c)) := h3
  rcases lv_in (A := A) (c := c) (s := (s : Int)) (by omega) with g | g
  · omega
  · rw [gl_te h ⟨g.1, g.2.1⟩, e] at h4
    rw [e] at h2
    exact ⟨h1, h2, ST_te0 h h4⟩
theorem onR_det {A B : mm_M} {S c up r r' : Int} (h : TE A B) (hu : up = 0 ∨ up = 1) (h1 : onR A S c up r) (h2 : onR B S c up r') : r = r' := by
  have e : (B 2 4).toNat = (A 2 4).toNat := by rw [h.1]
  have el : ∀ s : Nat, s < (A 2 4).toNat → lv A s c = lv B s c := fun s hs => lv_te h (by omega)
  unfold onR at h1 h2
  rw [e] at h2
  rcases h1 with ⟨a, h1⟩ | ⟨s, h1, b1, a1, a2, a3⟩ <;> rcases h2 with ⟨b, h2⟩ | ⟨t, h2, d1, c1, c2, c3⟩
  · omega
  · have := h1 t h2 d1
    rw [el t h2] at this
    omega
  · have := h2 s h1 b1
    rw [← el s h1] at this
    omega
  · rcases Nat.lt_trichotomy s t with g | g | g
    · rcases hu with hu | hu
      · have := a3 t h2 (fun e => by omega) (fun _ => g) d1
        rw [el t h2] at this
        omega
      · have := c3 s h1 (fun _ => g) (fun e => by omega) b1
        rw [← el s h1] at this
        omega
    · subst g
      rw [a1, c1, el s h1]
    · rcases hu with hu | hu
      · have := c3 s h1 (fun e => by omega) (fun _ => g) b1
        rw [← el s h1] at this
        omega
      · have := a3 t h2 (fun _ => g) (fun e => by omega) d1
        rw [el t h2] at this
        omega
theorem whR_det {A B : mm_M} {S c b up r r' : Int} (h : TE A B) (hu : up = 0 ∨ up = 1) (h1 : whR A S c b up r) (h2 : whR B S c b up r') : r = r' := by
  have e : (B 2 4).toNat = (A 2 4).toNat := by rw [h.1]
  have el : ∀ s : Nat, s < (A 2 4).toNat → lv A s c = lv B s c := fun s hs => lv_te h (by omega)
  have ew : ∀ s : Nat, s < (A 2 4).toNat → whS A S c s → whS B S c s := fun s hs => whS_te h hs
  have ew2 : ∀ s : Nat, s < (A 2 4).toNat → whS B S c s → whS A S c s := fun s hs => whS_te h.sy (by omega)
  unfold whR at h1 h2
  rw [e] at h2
  rcases h1 with ⟨a, h1⟩ | ⟨s, h1, p1, p2, b1, a1, a2, a3⟩ <;> rcases h2 with ⟨b, h2⟩ | ⟨t, h2, q1, q2, d1, c1, c2, c3⟩
  · omega
  · exact absurd (ew2 t h2 d1) (h1 t h2 q1 q2)
  · exact absurd (ew s h1 b1) (h2 s h1 p1 p2)
  · rcases Nat.lt_trichotomy s t with g | g | g
    · rcases hu with hu | hu
      · exact absurd (ew2 t h2 d1) (a3 t h2 (fun e => by omega) (fun _ => ⟨q2 hu, g⟩))
      · exact absurd (ew s h1 b1) (c3 s h1 (fun _ => ⟨p1 hu, g⟩) (fun e => by omega))
    · subst g
      rw [a1, c1, el s h1]
    · rcases hu with hu | hu
      · exact absurd (ew s h1 b1) (c3 s h1 (fun e => by omega) (fun _ => ⟨p2 hu, g⟩))
      · exact absurd (ew2 t h2 d1) (a3 t h2 (fun _ => ⟨q1 hu, g⟩) (fun e => by omega))
theorem put_det {A A' B B' : mm_M} {w : Nat} {p s : Int} (h : SW A B w) (h1 : putR A A' w p s) (h2 : putR B B' w p s) : SW A' B' w := by
  have e := h.1
  rcases h1 with ⟨a0, a1, a2, a3⟩ | ⟨a0, rfl⟩ <;> rcases h2 with ⟨b0, b1, b2, b3⟩ | ⟨b0, rfl⟩
  · refine ⟨by omega, by rw [a2, b2]; exact h.2.1, fun i hi => ?_⟩
    obtain ⟨c1, c2, c3⟩ := a3 i (by omega)
    obtain ⟨d1, d2, d3⟩ := b3 i (by omega)
    rcases Int.lt_trichotomy (i : Int) p with g | g | g
    · rw [c1 g, d1 g]
      exact h.2.2 i (by omega)
    · rw [c2 g, d2 g]
    · rw [c3 g, d3 g]
      exact h.2.2 (i - 1) (by omega)
  · rw [e] at a0
    exact absurd a0 b0
  · rw [← e] at b0
    exact absurd b0 a0
  · exact h
theorem tak_det {A A' B B' : mm_M} {w : Nat} {p : Int} (h : SW A B w) (h1 : takR A A' w p) (h2 : takR B B' w p) : SW A' B' w := by
  have e := h.1
  rcases h1 with ⟨a0, a1, a2, a3⟩ | ⟨a0, rfl⟩ <;> rcases h2 with ⟨b0, b1, b2, b3⟩ | ⟨b0, rfl⟩
  · refine ⟨by omega, by rw [a2, b2]; exact h.2.1, fun i hi => ?_⟩
    obtain ⟨c1, c2⟩ := a3 i (by omega)
    obtain ⟨d1, d2⟩ := b3 i (by omega)
    rcases Int.lt_or_le (i : Int) p with g | g
    · rw [c1 g, d1 g]
      exact h.2.2 i (by omega)
    · rw [c2 g, d2 g]
      exact h.2.2 (i + 1) (by omega)
  · rw [e] at a0
    exact absurd a0 b0
  · rw [← e] at b0
    exact absurd b0 a0
  · exact h
theorem goR_det {up : Int} {w : Nat} (hu : up = 0 ∨ up = 1) (hw : isK w) : ∀ (r r' : Nat) (p : Int) (A B A' B' : mm_M), TE A B → SW A B w → wV A w → goR up w r p A A' → goR up w r' p B B' → r = r' ∧ SW A' B' w
  | 0, 0, p, A, B, A', B', hT, hW, hv, h1, h2 => ⟨rfl, by rw [h1.2, h2.2]; exact hW⟩
  | 0, r' + 1, p, A, B, A', B', hT, hW, hv, h1, h2 => by
    have v1 := hv.1
    obtain ⟨s, V1, g1, g2, -⟩ := h2
    have := h1.1
    rw [nwk_te hT hW _ (by omega), hW.1, cor_te hT hW hv] at this
    have := onR_det hT hu this g1
    omega
  | r + 1, 0, p, A, B, A', B', hT, hW, hv, h1, h2 => by
    have v1 := hv.1
    obtain ⟨s, V1, g1, g2, -⟩ := h1
    rw [nwk_te hT hW _ (by omega), hW.1, cor_te hT hW hv] at g1
    have := onR_det hT hu g1 h2.1
    omega
  | r + 1, r' + 1, p, A, B, A', B', hT, hW, hv, h1, h2 => by
    have v1 := hv.1
    obtain ⟨s, A1, g1, g2, g3, g4, g5, g6⟩ := h1
    obtain ⟨t, B1, k1, k2, k3, k4, k5, k6⟩ := h2
    rw [nwk_te hT hW _ (by omega), hW.1, cor_te hT hW hv] at g1
    have e := onR_det hT hu g1 k1
    subst e
    have h9 := goR_det hu hw r r' (p + 1) A1 B1 A' B' ((TE.frk hw g5).sy.tr (hT.tr (TE.frk hw k5))) (put_det hW g4 k4) (put_wV hw hv ⟨g2, g3⟩ g5 g4) g6 k6
    exact ⟨by omega, h9.2⟩
theorem goR_fr {up : Int} {w : Nat} : ∀ (r : Nat) (p : Int) (A A' : mm_M), goR up w r p A A' → fr [w, w + 1] A A'
  | 0, p, A, A', h => by rw [h.2]; exact fr.rf
  | r + 1, p, A, A', h => by
    obtain ⟨s, A1, g1, g2, g3, g4, g5, g6⟩ := h
    exact g5.tr (goR_fr r (p + 1) A1 A' g6)
theorem goR_wV {up : Int} {w : Nat} (hw : isK w) : ∀ (r : Nat) (p : Int) (A A' : mm_M), wV A w → goR up w r p A A' → wV A' w
  | 0, p, A, A', hv, h => by rw [h.2]; exact hv
  | r + 1, p, A, A', hv, h => by
    obtain ⟨s, A1, g1, g2, g3, g4, g5, g6⟩ := h
    exact goR_wV hw r (p + 1) A1 A' (put_wV hw hv ⟨g2, g3⟩ g5 g4) g6
theorem comL_det {up : Int} {w : Nat} (hu : up = 0 ∨ up = 1) (hw : isK w) : ∀ (m m' : Nat) (p : Int) (A B A' B' : mm_M) (c c' : Nat), TE A B → SW A B w → wV A w → comL up w m p A A' c → comL up w m' p B B' c' → c = c' ∧ SW A' B' w
  | 0, 0, p, A, B, A', B', c, c', hT, hW, hv, h1, h2 => ⟨by rw [h1.2.2, h2.2.2], by rw [h1.2.1, h2.2.1]; exact hW⟩
  | 0, m' + 1, p, A, B, A', B', c, c', hT, hW, hv, h1, h2 => by
    have a := h1.1
    have b := h2.1
    rw [hW.1] at a
    omega
  | m + 1, 0, p, A, B, A', B', c, c', hT, hW, hv, h1, h2 => by
    have a := h1.1
    have b := h2.1
    rw [hW.1] at a
    omega
  | m + 1, m' + 1, p, A, B, A', B', c, c', hT, hW, hv, h1, h2 => by
    obtain ⟨-, r, A1, x, g1, g2, g3⟩ := h1
    obtain ⟨-, r', B1, y, k1, k2, k3⟩ := h2
    have h8 := goR_det hu hw r r' p A B A1 B1 hT hW hv g1 k1
    have h9 := comL_det hu hw m m' (p + 1) A1 B1 A' B' x y ((TE.frk hw (goR_fr _ _ _ _ g1)).sy.tr (hT.tr (TE.frk hw (goR_fr _ _ _ _ k1)))) h8.2 (goR_wV hw _ _ _ _ hv g1) g2 k2
    exact ⟨by omega, h9.2⟩
theorem comR_det {up : Int} {w : Nat} {A B A' B' : mm_M} {c c' : Nat} (hu : up = 0 ∨ up = 1) (hw : isK w) (hT : TE A B) (hW : SW A B w) (hv : wV A w) (h1 : comR up w A A' c) (h2 : comR up w B B' c') : c = c' ∧ SW A' B' w := by
  obtain ⟨r, A1, m, x, g1, g2, g3⟩ := h1
  obtain ⟨r', B1, m', y, k1, k2, k3⟩ := h2
  rw [← hW.1] at k1
  have h8 := goR_det hu hw r r' _ A B A1 B1 hT hW hv g1 k1
  have h9 := comL_det hu hw m m' 0 A1 B1 A' B' x y ((TE.frk hw (goR_fr _ _ _ _ g1)).sy.tr (hT.tr (TE.frk hw (goR_fr _ _ _ _ k1)))) h8.2 (goR_wV hw _ _ _ _ hv g1) g2 k2
  exact ⟨by omega, h9.2⟩
theorem filR_det {up : Int} {w : Nat} (hu : up = 0 ∨ up = 1) (hw : isK w) : ∀ (r r' : Nat) (A B A' B' : mm_M), TE A B → SW A B w → wV A w → filR up w r A A' → filR up w r' B B' → r = r' ∧ SW A' B' w
  | 0, 0, A, B, A', B', hT, hW, hv, h1, h2 => ⟨rfl, (SW.fr5 hw h1.2).sy.tr (hW.tr (SW.fr5 hw h2.2))⟩
  | 0, r' + 1, A, B, A', B', hT, hW, hv, h1, h2 => by
    have v1 := hv.1
    obtain ⟨s, V0, V1, g1, g2, -⟩ := h2
    have := h1.1
    rw [nwk_te hT hW _ (by omega), cor_te hT hW hv, hW.1, show filB A up = filB B up by unfold filB; rw [hT.1]] at this
    have := whR_det hT hu this g1
    omega
  | r + 1, 0, A, B, A', B', hT, hW, hv, h1, h2 => by
    have v1 := hv.1
    obtain ⟨s, V0, V1, g1, g2, -⟩ := h1
    rw [nwk_te hT hW _ (by omega), cor_te hT hW hv, hW.1, show filB A up = filB B up by unfold filB; rw [hT.1]] at g1
    have := whR_det hT hu g1 h2.1
    omega
  | r + 1, r' + 1, A, B, A', B', hT, hW, hv, h1, h2 => by
    have v1 := hv.1
    obtain ⟨s, A0, A1, g1, g2, g3, g4, g5, g6, g7⟩ := h1
    obtain ⟨t, B0, B1, k1, k2, k3, k4, k5, k6, k7⟩ := h2
    rw [nwk_te hT hW _ (by omega), cor_te hT hW hv, hW.1, show filB A up = filB B up by unfold filB; rw [hT.1]] at g1
    have e := whR_det hT hu g1 k1
    subst e
    have hW0 : SW A0 B0 w := (SW.fr5 hw g4).sy.tr (hW.tr (SW.fr5 hw k4))
    have hT0 : TE A0 B0 := (TE.fr5 g4).sy.tr (hT.tr (TE.fr5 k4))
    rw [← hW0.1] at k5
    have hv0 : wV A0 w := by
      have := wk_no hw
      exact hv.to (g4 w (by simp; omega)) (g4 (w + 1) (by simp; omega)) (g4 2 (by simp))
    have e2 : A0 2 4 = A 2 4 := by rw [g4 2 (by simp)]
    have h9 := filR_det hu hw r r' A1 B1 A' B' ((TE.frk hw g6).sy.tr (hT0.tr (TE.frk hw k6))) (put_det hW0 g5 k5) (put_wV hw hv0 ⟨g2, by omega⟩ g6 g5) g7 k7
    exact ⟨by omega, h9.2⟩
theorem cpy_det {A A' B B' : mm_M} {w v : Nat} (h : SW A B v) (h1 : cpyR A A' w v) (h2 : cpyR B B' w v) : SW A' B' w := by
  refine ⟨by rw [h1.1, h2.1, h.1], by rw [h1.2.1, h2.2.1, h.2.1], fun i hi => ?_⟩
  rw [h1.1] at hi
  rw [h1.2.2 i hi, h2.2.2 i (by rw [← h.1]; exact hi)]
  exact h.2.2 i hi
theorem rev_det {A A' B B' : mm_M} {w : Nat} (hT : TE A B) (h : SW A B w) (hv : wV A w) (h1 : revR A A' w) (h2 : revR B B' w) : SW A' B' w := by
  refine ⟨by rw [h1.1, h2.1, h.1], by rw [h1.2.1, h2.2.1, cor_te hT h hv, h.1], fun i hi => ?_⟩
  rw [h1.1] at hi
  rw [h1.2.2 i hi, h2.2.2 i (by rw [← h.1]; exact hi), ← h.1]
  exact h.2.2 _ (by omega)
theorem rot_det {A A' B B' : mm_M} {w t : Nat} (hT : TE A B) (h : SW A B w) (hv : wV A w) (h1 : rotR A A' w t) (h2 : rotR B B' w t) : SW A' B' w := by
  have v1 := hv.1
  obtain ⟨a1, a2, a3, a4⟩ := h1
  obtain ⟨b1, b2, b3, b4⟩ := h2
  refine ⟨by rw [a1, b1, h.1], ?_, fun i hi => ?_⟩
  · by_cases e : t = 0 ∨ A w 2 = 0
    · rw [a3 e, b3 (by rw [← h.1]; exact e), h.2.1]
    · have hm := Nat.mod_lt (t - 1) (show 0 < (A w 2).toNat by omega)
      rw [a4 (by omega) (by omega), b4 (by omega) (by have := h.1; omega), ← h.1, ← h.2.2 _ (by omega)]
      exact gl_te hT (hv.2.2 _ (by omega))
  · rw [a1] at hi
    have hm := Nat.mod_lt (i + t) (show 0 < (A w 2).toNat by omega)
    rw [a2 i hi, b2 i (by rw [← h.1]; exact hi), ← h.1]
    exact h.2.2 _ (by omega)
theorem smR_te {A B : mm_M} {w v : Nat} (h : SW A B w) (g : SW A B v) : smR A w v ↔ smR B w v := by
  unfold smR
  rw [← h.1, ← g.1, ← h.2.1, ← g.2.1]
  refine ⟨fun ⟨a, b, c⟩ => ⟨a, b, fun i hi => ?_⟩, fun ⟨a, b, c⟩ => ⟨a, b, fun i hi => ?_⟩⟩
  · rw [← h.2.2 i hi, ← g.2.2 i (by omega)]
    exact c i hi
  · rw [h.2.2 i hi, g.2.2 i (by omega)]
    exact c i hi
theorem tnR_te {A B : mm_M} {w v b : Nat} (hT : TE A B) (h : SW A B w) (g : SW A B v) (hv : wV A w) (e : A w 2 = A v 2) : tnR A w v b ↔ tnR B w v b := by
  unfold tnR
  rw [← h.1, ← g.2.1, cor_te hT h hv]
  have v1 := hv.1
  refine ⟨fun ⟨a, c⟩ => ⟨a, fun i hi => ?_⟩, fun ⟨a, c⟩ => ⟨a, fun i hi => ?_⟩⟩
  · have hm := Nat.mod_lt (i + b) (show 0 < (A w 2).toNat by omega)
    rw [← h.2.2 _ (by omega), ← g.2.2 i (by omega)]
    exact c i hi
  · have hm := Nat.mod_lt (i + b) (show 0 < (A w 2).toNat by omega)
    rw [h.2.2 _ (by omega), g.2.2 i (by omega)]
    exact c i hi
theorem tuR_det {A B : mm_M} {w v : Nat} {r r' : Int} (hT : TE A B) (h : SW A B w) (g : SW A B v) (hv : wV A w) (h1 : tuR A w v r) (h2 : tuR B w v r') : r = r' := by
  have es := smR_te h g
  have en := fun b e => tnR_te (b := b) hT h g hv e
  unfold tuR at h1 h2
  rw [← es, ← h.1, ← g.1, ← h.2.1, ← cor_te hT h hv] at h2
  rcases h1 with ⟨a1, a2⟩ | ⟨a1, a2⟩ <;> rcases h2 with ⟨b1, b2⟩ | ⟨b1, b2⟩
  · omega
  · exact absurd a1 b1
  · exact absurd b1 a1
  · rcases a2 with ⟨c1, c2⟩ | ⟨c1, c2⟩ <;> rcases b2 with ⟨d1, d2⟩ | ⟨d1, d2⟩
    · omega
    · exact absurd d1 c1
    · exact absurd c1 d1
    · rcases c2 with ⟨k1, k2⟩ | ⟨b, k1, k2, k3, k4, k5⟩ <;> rcases d2 with ⟨l1, l2⟩ | ⟨b', l1, l2, l3, l4, l5⟩
      · omega
      · exact absurd ((en b' c1.2).mpr l4) (k2 b' l2 l3)
      · exact absurd ((en b c1.2).mp k4) (l2 b k2 k3)
      · rcases Nat.lt_trichotomy b b' with e | e | e
        · exact absurd ((en b c1.2).mp k4) (l5 b k2 e)
        · omega
        · exact absurd ((en b' c1.2).mpr l4) (k5 b' l2 e)
theorem rdw_te {A B : mm_M} {w p : Nat} (hT : TE A B) (h : SW A B w) (h0 : 0 < A w 2) : ∀ m : Nat, rdw A w p m = rdw B w p m
  | 0 => rfl
  | m + 1 => by
    have hm := Nat.mod_lt (p + m) (show 0 < (A w 2).toNat by omega)
    simp only [rdw]
    rw [rdw_te hT h h0 m, hT.2.2.1, ← h.1, h.2.2 _ (by omega)]
theorem wdR_det {A B : mm_M} {w : Nat} {x f r r' : Int} (hT : TE A B) (h : SW A B w) (h1 : wdR A w x f r) (h2 : wdR B w x f r') : r = r' := by
  have er := fun (p : Nat) (hp : (p : Int) < A w 2) => rdw_te (p := p) hT h (by omega) (B 2 7).toNat
  unfold wdR at h1 h2
  rw [← h.1, ← hT.1, ← hT.2.2.1] at h2
  rw [hT.2.2.2.1] at h1
  rcases h1 with ⟨a1, a2⟩ | ⟨a1, a2⟩ <;> rcases h2 with ⟨b1, b2⟩ | ⟨b1, b2⟩
  · omega
  · exact absurd a1 b1
  · exact absurd b1 a1
  · rcases a2 with ⟨k1, k2⟩ | ⟨b, k1, k2, k3, k4, k5⟩ <;> rcases b2 with ⟨l1, l2⟩ | ⟨b', l1, l2, l3, l4, l5⟩
    · omega
    · exact absurd (by rw [er b' l3]; exact l4) (k2 b' l2 l3)
    · exact absurd (by rw [← er b k3]; exact k4) (l2 b k2 k3)
    · rcases Nat.lt_trichotomy b b' with e | e | e
      · exact absurd (by rw [← er b k3]; exact k4) (l5 b k2 e)
      · omega
      · exact absurd (by rw [er b' l3]; exact l4) (k5 b' l2 e)
theorem rdR_te {A B : mm_M} {w v : Nat} (hT : TE A B) (h : SW A B w) (g : SW A B v) (hv : wV A v) : rdR A w v ↔ rdR B w v := by
  unfold rdR
  rw [← g.1, ← g.2.1, cor_te hT g hv]
  refine ⟨fun ⟨a, b, c, d⟩ => ⟨a, b, c, fun j hj => ?_⟩, fun ⟨a, b, c, d⟩ => ⟨a, b, c, fun j hj => ?_⟩⟩
  · rw [← g.2.2 j hj, ← wN_te h]
    exact d j hj
  · rw [g.2.2 j hj, wN_te h]
    exact d j hj
theorem spl_det {A A' B B' : mm_M} {w v : Nat} {p : Int} (h : SW A B w) (g : SW A B v) (hw : 0 ≤ A w 2) (hv : 0 ≤ A v 2) (hp : 0 ≤ p ∧ p ≤ A w 2) (h1 : splR A A' w v p) (h2 : splR B B' w v p) : SW A' B' w ∧ SW A' B' v := by
  obtain ⟨a1, a2, a3, a4, a5⟩ := h1
  obtain ⟨b1, b2, b3, b4, b5⟩ := h2
  have e1 := h.1
  have e2 := g.1
  refine ⟨⟨by omega, by rw [a2, b2, h.2.1], fun i hi => ?_⟩, ⟨by rw [a3, b3], by rw [a4, b4, g.2.1], fun i hi => by omega⟩⟩
  obtain ⟨c1, c2, c3⟩ := a5 i hi
  obtain ⟨d1, d2, d3⟩ := b5 i (by omega)
  rcases Int.lt_or_le (i : Int) p with k | k
  · rw [c1 k, d1 k]
    exact h.2.2 i (by omega)
  · rcases Int.lt_or_le (i : Int) (p + A v 2) with l | l
    · rw [c2 k l, d2 k (by omega)]
      exact g.2.2 _ (by omega)
    · rw [c3 l, d3 (by omega), ← e2]
      exact h.2.2 _ (by omega)
theorem flp_te {A B : mm_M} {s : Int} (h : TE A B) (hs : 0 ≤ s ∧ s < 2 * A 2 4) : flp A s = flp B s := by
  have := h.2.2.2.2 (s / 2).toNat (by omega)
  unfold flp
  rw [this.1, this.2]
theorem ts_det {A A' B B' : mm_M} {w : Nat} (hT : TE A B) (h : SW A B w) (hv : wV A w) (h1 : tsR A A' w) (h2 : tsR B B' w) : SW A' B' w := by
  refine ⟨by rw [h1.1, h2.1, h.1], by rw [h1.2.1, h2.2.1, h.2.1], fun i hi => ?_⟩
  rw [h1.1] at hi
  rw [h1.2.2 i hi, h2.2.2 i (by rw [← h.1]; exact hi), ← h.2.2 i hi]
  exact flp_te hT (hv.2.2 i hi)
theorem ren_det {A A' B B' : mm_M} {w : Nat} {s : Int} (h : SW A B w) (h1 : renR A A' w s) (h2 : renR B B' w s) : SW A' B' w := by
  refine ⟨by rw [h1.1, h2.1, h.1], by rw [h1.2.1, h2.2.1, h.2.1], fun i hi => ?_⟩
  rw [h1.1] at hi
  rw [h1.2.2 i hi, h2.2.2 i (by rw [← h.1]; exact hi), ← h.2.2 i hi]
theorem giv_det {A A' B B' : mm_M} {w v : Nat} {a b : Int} (hT : TE A B) (h : SW A B w) (hv : wV A w) (ha : 0 ≤ a ∧ a ≤ b ∧ b ≤ A w 2) (h1 : givR A A' w v a b) (h2 : givR B B' w v a b) : SW A' B' w ∧ SW A' B' v := by
  obtain ⟨a1, a2, a3, a4, a5, a6⟩ := h1
  obtain ⟨b1, b2, b3, b4, b5, b6⟩ := h2
  have e1 := h.1
  refine ⟨⟨by omega, by rw [a2, b2, h.2.1], fun i hi => ?_⟩, ⟨by omega, by rw [a4, b4, cor_te hT h hv], fun i hi => ?_⟩⟩
  · obtain ⟨c1, c2⟩ := a5 i (by omega)
    obtain ⟨d1, d2⟩ := b5 i (by omega)
    rcases Int.lt_or_le (i : Int) a with k | k
    · rw [c1 k, d1 k]
      exact h.2.2 i (by omega)
    · rw [c2 k, d2 k]
      exact h.2.2 _ (by omega)
  · rw [a6 i (by omega), b6 i (by omega)]
    exact h.2.2 _ (by omega)
theorem wsF_te {A B : mm_M} {w : Nat} {s a : Int} (hT : TE A B) (h : SW A B w) (hv : wV A w) (hs : 0 ≤ s ∧ s < A 2 4) : wsF A w s a = wsF B w s a := by
  unfold wsF
  rw [cm_te hT hs, lv_te hT hs, h.2.1, h.1, cor_te hT h hv]
theorem wsF_in {A : mm_M} {w : Nat} {s a : Int} (hs : 0 ≤ s ∧ s < A 2 4) : wsF A w s a = -1 ∨ (0 ≤ wsF A w s a ∧ wsF A w s a < 2 * A 2 4 ∧ wsF A w s a / 2 = s) := by
  unfold wsF
  split
  · exact cm_in hs
  · exact lv_in hs
theorem ws_det {A A' B B' : mm_M} {w : Nat} {s a r r' : Int} (hT : TE A B) (h : SW A B w) (hw : isK w) (hv : wV A w) (hs : 0 ≤ s ∧ s < A 2 4) (h1 : wsR A A' w s a r) (h2 : wsR B B' w s a r') : r = r' ∧ SW A' B' w := by
  unfold wsR at h1 h2
  have hin := wsF_in (A := A) (w := w) (a := a) hs
  rw [← wsF_te hT h hv hs, ← wN_te h] at h2
  rcases h1 with ⟨a1, a2, a3⟩ | ⟨a1, a2, a3, a4⟩ <;> rcases h2 with ⟨b1, b2, b3⟩ | ⟨b1, b2, b3, b4⟩
  · exact ⟨by omega, by rw [a3, b3]; exact h⟩
  · rcases a1 with a1 | a1
    · exact absurd a1 b1
    · exact absurd b2 a1
  · rcases b1 with b1 | b1
    · exact absurd b1 a1
    · exact absurd a2 b1
  · rcases a4 with ⟨c1, c2, A1, c3, c4, c5⟩ | ⟨c1, c2, c3⟩ <;> rcases b4 with ⟨d1, d2, B1, d3, d4, d5⟩ | ⟨d1, d2, d3⟩
    · have e : r = r' := by rw [c2, d2, sr_te hT (by omega)]
      refine ⟨e, ?_⟩
      have g := put_det h c4 d4
      rw [c5, d5, e]
      have hz := wk_no hw
      refine ⟨by simpa [mm_up] using g.1, by simp [mm_up], fun i hi => ?_⟩
      rw [mm_up_o _ (by omega), mm_up_o _ (by omega)]
      exact g.2.2 i (by simpa [mm_up] using hi)
    · omega
    · omega
    · refine ⟨by rw [c2, d2, gl_te hT (by omega)], ?_⟩
      rw [← h.1] at d3
      exact put_det h c3 d3
theorem ct_TE {A : mm_M} {w k : Nat} (hw : isK w) : TE A (ctW A w k) := by
  have hz := wk_no hw
  exact .of (mm_up_o _ (by omega)) (mm_up_o _ (by omega)) (mm_up_o _ (by omega))
theorem ct_SW {A B : mm_M} {w k : Nat} (h : SW A B w) (hk : k < A w 2) : SW (ctW A w k) (ctW B w k) w := by
  refine ⟨by simp [ctW, mm_up], by simpa [ctW, mm_up] using h.2.1, fun i hi => ?_⟩
  have hi2 : (i : Int) < k := by simpa [ctW, mm_up] using hi
  rw [ctW, ctW, mm_up_o _ (by omega), mm_up_o _ (by omega)]
  exact h.2.2 i (by omega)
theorem ct_wV {A : mm_M} {w k : Nat} (hw : isK w) (hv : wV A w) (hk : k < A w 2) : wV (ctW A w k) w := by
  have hz := wk_no hw
  have v1 := hv.1
  refine ⟨by simp [ctW, mm_up]; omega, by simpa [ctW, mm_up] using hv.2.1, fun i hi => ?_⟩
  have hi2 : (i : Int) < k := by simpa [ctW, mm_up] using hi
  rw [ctW, mm_up_o _ (by omega), mm_up_o _ (by omega)]
  exact hv.2.2 i (by omega)
theorem nxS_det {A B : mm_M} {w k : Nat} {up s s' : Int} (hu : up = 0 ∨ up = 1) (hT : TE A B) (h : SW A B w) (hw : isK w) (hv : wV A w) (hk : k < A w 2) (h1 : nxS A w k up s) (h2 : nxS B w k up s') : s = s' := by
  have hT2 : TE (ctW A w k) (ctW B w k) := ((ct_TE hw).sy.tr hT).tr (ct_TE hw)
  have hS := ct_SW h hk
  have hV := ct_wV hw hv hk
  unfold nxS at h1 h2
  rw [nwk_te hT2 hS k (by simp [ctW, mm_up]), cor_te hT2 hS hV, h.2.2 k (by omega)] at h1
  exact whR_det hT2 hu h1 h2
theorem nx_det {A A' B B' : mm_M} {w : Nat} {up r r' : Int} (hu : up = 0 ∨ up = 1) (hT : TE A B) (h : SW A B w) (hw : isK w) (hv : wV A w) (h1 : nxR up w A A' r) (h2 : nxR up w B B' r') : r = r' ∧ (0 ≤ r → SW A' B' w) := by
  have e1 := h.1
  have hd := fun k s s' hk => nxS_det (k := k) (s := s) (s' := s') hu hT h hw hv hk
  rcases h1 with ⟨a1, a2⟩ | ⟨k, a1, a2, a3, s, A1, A2, m, a4, a5, a6, a7, a8, a9, a10, a11, a12, a13⟩ <;> rcases h2 with ⟨b1, b2⟩ | ⟨l, b1, b2, b3, t, B1, B2, m2, b4, b5, b6, b7, b8, b9, b10, b11, b12, b13⟩
  · exact ⟨by omega, fun _ => by omega⟩
  · have := hd l _ _ (by omega) (a2 l (by omega)) b4
    omega
  · have := hd k _ _ (by omega) a4 (b2 k (by omega))
    omega
  · rcases Nat.lt_trichotomy k l with g | g | g
    · have := hd l _ _ (by omega) (a3 l g (by omega)) b4
      omega
    · subst g
      have e := hd k _ _ a2 a4 b4
      subst e
      refine ⟨by omega, fun _ => ?_⟩
      have hz := wk_no hw
      have hT1 : TE A1 B1 := ((TE.ofr a7 (by simp; omega) (by simp; omega) (by simp; omega)).sy.tr hT).tr (TE.ofr b7 (by simp; omega) (by simp; omega) (by simp; omega))
      have hS1 : SW A1 B1 w := ⟨by omega, by rw [a9, b9, h.2.1], fun i hi => by rw [a10, b10]; exact h.2.2 i (by omega)⟩
      have hv1 : wV A1 w := by
        have v1 := hv.1
        refine ⟨by omega, by rw [a9]; exact hv.2.1, fun i hi => ?_⟩
        rw [a10, a7 2 (by simp; omega)]
        exact hv.2.2 i (by omega)
      exact (filR_det hu hw m m2 A2 B2 A' B' ((TE.frk hw a12).sy.tr (hT1.tr (TE.frk hw b12))) (put_det hS1 a11 b11) (put_wV hw hv1 ⟨a5, by rw [a7 2 (by simp; omega)]; exact a6⟩ a12 a11) a13 b13).2
    · have := hd k _ _ a2 a4 (b3 k g (by omega))
      omega
/-- a set of just the streets that aren't on the walk -/
def lfX (M : mm_M) (w : Nat) (S : Int) : Prop := ∀ k : Nat, k < 32 → (bt S k = 1 ↔ ((k : Int) < M 2 4 ∧ wN M w k))
theorem nwk_lfX {M : mm_M} {w : Nat} (ht : tW M) (hv : wV M w) : lfX M w (nwk M w (M w 2).toNat) := fun k hk => by
  have v1 := hv.1
  rw [nwk_bt ht hv hk (M w 2).toNat (by omega)]
  exact ⟨fun h => ⟨h.1, fun i hi => h.2 i (by omega)⟩, fun h => ⟨h.1, fun i hi => h.2 i (by omega)⟩⟩
theorem onR_bits {M : mm_M} {S S' c up r : Int} (h : ∀ s : Nat, s < (M 2 4).toNat → (bt S s = 1 ↔ bt S' s = 1)) (hr : onR M S c up r) : onR M S' c up r := by
  rcases hr with ⟨a, b⟩ | ⟨s, a, b, c1, c2, c3⟩
  · exact Or.inl ⟨a, fun s hs hb => b s hs ((h s hs).mpr hb)⟩
  · exact Or.inr ⟨s, a, (h s a).mp b, c1, c2, fun t ht e1 e2 hb => c3 t ht e1 e2 ((h t ht).mpr hb)⟩
/-- what was put in -/
theorem put_at {M M' : mm_M} {w : Nat} {p s : Int} (h : putR M M' w p s) (hp : 0 ≤ p ∧ p ≤ M w 2 ∧ M w 2 < 30) : M' w 2 = M w 2 + 1 ∧ M' w 3 = M w 3 ∧ M' (w + 1) p.toNat = s := by
  rcases h with ⟨h0, h1, h2, h3⟩ | h
  · exact ⟨h1, h2, (h3 p.toNat (by omega)).2.1 (by omega)⟩
  · exact absurd hp h.1
theorem put_cor {M M' : mm_M} {w : Nat} {p s : Int} (hw : isK w) (hf : fr [w, w + 1] M M') (h : putR M M' w p s) (hp : 0 ≤ p ∧ p ≤ M w 2 ∧ M w 2 < 30) : cor M' w (p + 1) = gl M s := by
  obtain ⟨h1, h2, h3⟩ := put_at h hp
  have e := hf.k hw
  unfold cor
  rw [if_pos (by omega), show p + 1 - 1 = p by omega, h3]
  unfold gl
  rw [e.2.1, e.2.2]
theorem put_wN' {M M' : mm_M} {w : Nat} {p s t : Int} (h : putR M M' w p s) (hp : 0 ≤ p ∧ p ≤ M w 2 ∧ M w 2 < 30) (hN : wN M' w t) : wN M w t ∧ s / 2 ≠ t := by
  obtain ⟨h1, h2, h3⟩ := put_at h hp
  rcases h with ⟨h0, -, -, h4⟩ | h
  · refine ⟨fun i hi => ?_, ?_⟩
    · rcases Int.lt_or_le (i : Int) p with g | g
      · rw [← (h4 i (by omega)).1 g]
        exact hN i (by omega)
      · have := (h4 (i + 1) (by omega)).2.2 (by omega)
        rw [show i + 1 - 1 = i by omega] at this
        rw [← this]
        exact hN (i + 1) (by omega)
    · have := hN p.toNat (by omega)
      rw [h3] at this
      exact this
  · exact absurd hp h.1
theorem lfX_put {M M' : mm_M} {w : Nat} {p s S : Int} (hw : isK w) (hS : 0 ≤ S ∧ S < 1073741824) (hs : 0 ≤ s ∧ s < 60) (hl : lfX M w S) (hf : fr [w, w + 1] M M') (h : putR M M' w p s) (hp : 0 ≤ p ∧ p ≤ M w 2 ∧ M w 2 < 30) : lfX M' w (clr S (s / 2).toNat) := fun k hk => by
  rw [(clr_spec hS (s := (s / 2).toNat) (by omega)).2 k hk, (hf.k hw).1]
  split
  · refine ⟨fun h => by omega, fun h2 => ?_⟩
    have := (put_wN' h hp h2.2).2
    omega
  · rw [hl k hk]
    refine ⟨fun h2 => ⟨h2.1, put_wN h2.2 (by omega) h⟩, fun h2 => ⟨h2.1, (put_wN' h hp h2.2).1⟩⟩
/-- a walk with all places taken has nothing left -/
theorem full_on {M : mm_M} {w : Nat} {S c up : Int} (ht : tW M) (hv : wV M w) (hD : wD M w) (h : M 2 4 ≤ M w 2) (hl : lfX M w S) : onR M S c up (-1) := by
  have t1 := ht.1
  refine Or.inl ⟨rfl, fun s hs hb => ?_⟩
  have := wD_lt hv hD (s := (s : Int)) (by omega) ((hl s (by omega)).mp hb).2
  omega
/-- nothing is left to be walked whole -/
theorem full_wh {M : mm_M} {w : Nat} {S c b up : Int} (ht : tW M) (hv : wV M w) (hD : wD M w) (h : M 2 4 ≤ M w 2) (hl : lfX M w S) : whR M S c b up (-1) := by
  have t1 := ht.1
  refine Or.inl ⟨rfl, fun s hs _ _ hw => ?_⟩
  have := wD_lt hv hD (s := (s : Int)) (by omega) ((hl s (by omega)).mp hw.1).2
  omega
theorem whR_te {A B : mm_M} {S c b up r : Int} (h : TE A B) (h1 : whR A S c b up r) : whR B S c b up r := by
  have e : (B 2 4).toNat = (A 2 4).toNat := by rw [h.1]
  unfold whR at h1 ⊢
  rw [e]
  rcases h1 with ⟨a, h1⟩ | ⟨s, h1, p1, p2, b1, a1, a2, a3⟩
  · exact Or.inl ⟨a, fun s hs g1 g2 g3 => h1 s hs g1 g2 (whS_te h.sy (by omega) g3)⟩
  · exact Or.inr ⟨s, h1, p1, p2, whS_te h h1 b1, by rw [a1]; exact lv_te h (by omega), a2, fun t ht g1 g2 g3 => a3 t ht g1 g2 (whS_te h.sy (by omega) g3)⟩
theorem sm_tn {M : mm_M} {w v : Nat} (hv : 0 ≤ M w 2) : smR M w v ↔ (M w 2 = M v 2 ∧ tnR M w v 0) := by
  unfold smR tnR
  have hc : cor M w ((0 : Nat) : Int) = M w 3 := by unfold cor; rw [if_neg (by omega)]
  rw [hc]
  refine ⟨fun ⟨a, b, c⟩ => ⟨b, a, fun i hi => ?_⟩, fun ⟨b, a, c⟩ => ⟨a, b, fun i hi => ?_⟩⟩
  · rw [show (i + 0) % (M w 2).toNat = i from Nat.mod_eq_of_lt (by omega)]
    exact c i hi
  · have := c i hi
    rw [show (i + 0) % (M w 2).toNat = i from Nat.mod_eq_of_lt (by omega)] at this
    exact this
theorem mod_cst {i b n : Nat} : (((i : Int) + (b : Int)) % (n : Int)).toNat = (i + b) % n := by
  rw [show (i : Int) + (b : Int) = ((i + b : Nat) : Int) by omega, ← Int.natCast_emod, Int.toNat_natCast]
theorem mod_pw {s m : Nat} {y : Nat} : y % s ^ (m + 1) = y / s % s ^ m * s + y % s := by
  rw [Nat.pow_succ, Nat.mul_comm, Nat.mod_mul, Nat.mul_comm s, Nat.add_comm]
theorem mod_pwI {s y : Int} {m : Nat} (hs : 0 < s) (hy : 0 ≤ y) : y % s ^ (m + 1) = y / s % s ^ m * s + y % s := by
  obtain ⟨a, rfl⟩ := Int.eq_ofNat_of_zero_le hy
  obtain ⟨b, rfl⟩ := Int.eq_ofNat_of_zero_le (show 0 ≤ s by omega)
  have := mod_pw (s := b) (m := m) (y := a)
  exact_mod_cast this
/-- the town's words are not more than its signs make -/
def WI (M : mm_M) : Prop := 0 < M 2 6 → M 2 4 ≤ M 2 6 ^ (M 2 7).toNat
theorem rot_0 {V : mm_M} {w : Nat} (hv : wV V w) : rotR V V w 0 := by
  have v1 := hv.1
  exact ⟨rfl, fun x hx => by rw [show (x + 0) % (V w 2).toNat = x from Nat.mod_eq_of_lt (by omega)], fun _ => rfl, fun h => by omega⟩
theorem gl_in {V : mm_M} {s : Int} (ht : tW V) (hs : 0 ≤ s ∧ s < 2 * V 2 4) : 0 ≤ gl V s ∧ gl V s < 10 := by
  have t1 := ht.1
  have t2 := ht.2.1 (s / 2).toNat (by omega)
  unfold gl
  split <;> omega
theorem rot_wV {V V' : mm_M} {w t : Nat} (ht : tW V) (hv : wV V w) (h2 : V' 2 = V 2) (h : rotR V V' w t) : wV V' w := by
  obtain ⟨a, b, c⟩ := hv
  obtain ⟨h1, h3, h4, h5⟩ := h
  have hm : 0 < V w 2 → ∀ x, x % (V w 2).toNat < (V w 2).toNat := fun h x => Nat.mod_lt _ (by omega)
  refine ⟨by rw [h1]; exact a, ?_, fun i hi => ?_⟩
  · by_cases e : t = 0 ∨ V w 2 = 0
    · rw [h4 e]; exact b
    · rw [h5 (by omega) (by omega)]
      have := hm (by omega) (t - 1)
      exact gl_in ht (c _ (by omega))
  · rw [h1] at hi
    rw [h3 i hi, h2]
    have := hm (by omega) (i + t)
    exact c _ (by omega)
theorem mod_inj {i j t n : Nat} (hi : i < n) (hj : j < n) (h : (i + t) % n = (j + t) % n) : i = j := by
  have h1 := Nat.div_add_mod (i + t) n
  have h2 := Nat.div_add_mod (j + t) n
  rw [h] at h1
  rcases Nat.lt_trichotomy ((i + t) / n) ((j + t) / n) with h3 | h3 | h3
  · have : n * ((i + t) / n) + n ≤ n * ((j + t) / n) := by rw [← Nat.mul_succ]; exact Nat.mul_le_mul_left n h3
    omega
  · rw [h3] at h1; omega
  · have : n * ((j + t) / n) + n ≤ n * ((i + t) / n) := by rw [← Nat.mul_succ]; exact Nat.mul_le_mul_left n h3
    omega
theorem rot_wD {V V' : mm_M} {w t : Nat} (hd : wD V w) (h : rotR V V' w t) : wD V' w := by
  obtain ⟨h1, h3, -, -⟩ := h
  intro i j hi hj e
  rw [h1] at hi hj
  rw [h3 i hi, h3 j hj] at e
  have hm : ∀ x, x % (V w 2).toNat < (V w 2).toNat := fun x => Nat.mod_lt _ (by omega)
  have a := hm (i + t)
  have b := hm (j + t)
  exact mod_inj (by omega) (by omega) (hd _ _ (by omega) (by omega) e)
/-- once more: the first one out, behind the last one in -/
theorem rot_s {V V1 V2 V3 V4 : mm_M} {w t : Nat} (hw : isK w) (hv : wV V w) (h0 : 0 < V w 2) (hr : rotR V V1 w t) (h2 : V1 2 = V 2 ∧ V1 3 = V 3 ∧ V1 4 = V 4) (ht : takR V1 V2 w 0) (hf2 : fr [w, w + 1] V1 V2) (h3 : V3 w 2 = V2 w 2 ∧ V3 w 3 = gl V1 (V1 (w + 1) 0) ∧ V3 (w + 1) = V2 (w + 1)) (hp : putR V3 V4 w (V3 w 2) (V1 (w + 1) 0)) : rotR V V4 w (t + 1) := by
  have v1 := hv.1
  obtain ⟨r1, r2, r3, r4⟩ := hr
  obtain ⟨e2, e3, e4⟩ := h2
  obtain ⟨n, hn⟩ := Int.eq_ofNat_of_zero_le v1.1
  rcases ht with ⟨a1, a2, a3, a4⟩ | ⟨a1, -⟩
  · rcases hp with ⟨b1, b2, b3, b4⟩ | ⟨b1, -⟩
    · have s0 := r2 0 (by omega)
      rw [hn] at r1 r2 s0
      simp only [Int.toNat_natCast, Nat.zero_add] at r2 s0
      refine ⟨by rw [b2, h3.1, a2, r1, hn]; omega, fun x hx => ?_, fun h => by omega, fun _ _ => ?_⟩
      · rw [hn] at hx ⊢
        simp only [Int.toNat_natCast]
        obtain ⟨c1, c2, c3⟩ := b4 x (by rw [h3.1, a2, r1]; omega)
        by_cases e : x = n - 1
        · rw [c2 (by rw [h3.1, a2, r1]; omega), s0]
          subst e
          rw [show n - 1 + (t + 1) = t + n by omega, Nat.add_mod_right]
        · rw [c1 (by rw [h3.1, a2, r1]; omega), h3.2.2, (a4 x (by rw [r1]; omega)).2 (by omega), r2 (x + 1) (by omega)]
          congr 2
          omega
      · rw [b3, h3.2.1, s0, hn]
        unfold gl
        rw [e3, e4]
        simp
    · exact absurd ⟨by rw [h3.1, a2, r1]; omega, Int.le_refl _, by rw [h3.1, a2, r1]; omega⟩ b1
  · exact absurd ⟨Int.le_refl _, by rw [r1]; exact h0⟩ a1
theorem rdw_b0 {V : mm_M} {w p : Nat} (hs : 0 < V 2 6) : ∀ m, 0 ≤ rdw V w p m
  | 0 => by simp [rdw]
  | m + 1 => by
    have h1 := rdw_b0 (w := w) (p := p) hs m
    have h2 := Int.emod_nonneg (V (w + 1) ((p + m) % (V w 2).toNat) / 2) (show V 2 6 ≠ 0 by omega)
    have h3 := Int.mul_nonneg h1 (show 0 ≤ V 2 6 by omega)
    simp only [rdw]
    omega
def CE (A B : mm_M) : Prop := A 16 1 = B 16 1 ∧ (A 16 1 ≠ 0 → A 16 4 = B 16 4 ∧ (A 16 4 = 0 → A 16 2 = B 16 2 ∧ A 16 3 = B 16 3))
def NE (A B : mm_M) : Prop := A 1 4 = B 1 4 ∧ A 1 5 = B 1 5 ∧ A 1 6 = B 1 6
/-- the same to all who ask -/
def SE (A B : mm_M) : Prop := TE A B ∧ (∀ w, isW3 w → SW A B w) ∧ CE A B ∧ NE A B
theorem CE.rf {A : mm_M} : CE A A := ⟨rfl, fun _ => ⟨rfl, fun _ => ⟨rfl, rfl⟩⟩⟩
theorem CE.sy {A B : mm_M} (h : CE A B) : CE B A := ⟨h.1.symm, fun g => by have k := h.2 (by rw [h.1]; exact g); exact ⟨k.1.symm, fun l => by have := k.2 (by rw [k.1]; exact l); exact ⟨this.1.symm, this.2.symm⟩⟩⟩
theorem CE.tr {A B C : mm_M} (h : CE A B) (g : CE B C) : CE A C := ⟨h.1.trans g.1, fun k => by
  have a := h.2 k
  have b := g.2 (by rw [← h.1]; exact k)
  exact ⟨a.1.trans b.1, fun l => by have c := a.2 l; have d := b.2 (by rw [← a.1]; exact l); exact ⟨c.1.trans d.1, c.2.trans d.2⟩⟩⟩
theorem CE.of {A B : mm_M} (h : B 16 = A 16) : CE A B := by
  unfold CE
  rw [h]
  exact ⟨rfl, fun _ => ⟨rfl, fun _ => ⟨rfl, rfl⟩⟩⟩
theorem NE.of {A B : mm_M} (h : B 1 = A 1) : NE A B := by
  unfold NE
  rw [h]
  exact ⟨rfl, rfl, rfl⟩
theorem SE.rf {A : mm_M} : SE A A := ⟨.rf, fun _ _ => .rf, .rf, rfl, rfl, rfl⟩
theorem SE.sy {A B : mm_M} (h : SE A B) : SE B A := ⟨h.1.sy, fun w hw => (h.2.1 w hw).sy, h.2.2.1.sy, h.2.2.2.1.symm, h.2.2.2.2.1.symm, h.2.2.2.2.2.symm⟩
theorem SE.tr {A B C : mm_M} (h : SE A B) (g : SE B C) : SE A C := ⟨h.1.tr g.1, fun w hw => (h.2.1 w hw).tr (g.2.1 w hw), h.2.2.1.tr g.2.2.1, h.2.2.2.1.trans g.2.2.2.1, h.2.2.2.2.1.trans g.2.2.2.2.1, h.2.2.2.2.2.trans g.2.2.2.2.2⟩
/-- what nobody asks for: the counts of ways, the walk that is tried -/
theorem SE.scr {A B : mm_M} (h : fr [5, 6, 14, 15] A B) : SE A B := ⟨.ofr h (by simp) (by simp) (by simp), fun w hw => by
  rcases hw with rfl | rfl | rfl <;> exact .ofr h (by simp) (by simp), .of (h 16 (by simp)), .of (h 1 (by simp))⟩
theorem lv_sr {V : mm_M} {s c : Int} (hs : 0 ≤ s) (h : lv V s c ≠ -1) : sr V (lv V s c) = c := by
  unfold lv at h ⊢
  by_cases h1 : V 3 s.toNat = c
  · rw [if_pos h1]
    unfold sr
    rw [if_pos (by omega), show 2 * s / 2 = s by omega, h1]
  · rw [if_neg h1] at h ⊢
    by_cases h2 : V 2 5 = 0 ∧ V 4 s.toNat = c
    · rw [if_pos h2]
      unfold sr
      rw [if_neg (by omega), show (2 * s + 1) / 2 = s by omega, h2.2]
    · rw [if_neg h2] at h
      exact absurd rfl h
theorem bw_cc {V : mm_M} {s c : Int} (hs : 0 ≤ s) : bw V s c c = if V 3 s.toNat = c ∧ V 4 s.toNat = c then 2 * s else -1 := by
  unfold bw lv
  by_cases h1 : V 3 s.toNat = c
  · rw [if_pos h1]
    unfold gl
    rw [if_pos (show 2 * s % 2 = 0 by omega), show 2 * s / 2 = s by omega]
    by_cases h2 : V 4 s.toNat = c
    · rw [if_pos ⟨by omega, h2⟩, if_pos ⟨h1, h2⟩]
    · rw [if_neg (fun h => h2 h.2), if_neg (fun h => h2 h.2)]
  · rw [if_neg h1, if_neg (show ¬ (V 3 s.toNat = c ∧ V 4 s.toNat = c) from fun h => h1 h.1)]
    by_cases h2 : V 2 5 = 0 ∧ V 4 s.toNat = c
    · rw [if_pos h2]
      unfold gl
      rw [if_neg (show ¬ (2 * s + 1) % 2 = 0 by omega), show (2 * s + 1) / 2 = s by omega, if_neg (fun h => h1 h.2)]
    · rw [if_neg h2, if_neg (by omega)]
theorem loop_sr {V : mm_M} {s : Int} : sr V s = gl V s ↔ V 3 (s / 2).toNat = V 4 (s / 2).toNat := by
  unfold sr gl
  split
  · exact Iff.rfl
  · exact ⟨fun h => h.symm, fun h => h.symm⟩
end
