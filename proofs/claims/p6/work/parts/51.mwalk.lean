/-! the model's walks: walk k is the places from 30 k on of row 20, its length M 21 k, its begin M 22 k -/
def mV (M : mm_M) (k : Nat) : Prop := (0 ≤ M 21 k ∧ M 21 k ≤ 30) ∧ (0 ≤ M 22 k ∧ M 22 k < 10) ∧ ∀ i : Nat, i < M 21 k → 0 ≤ M 20 (30 * k + i) ∧ M 20 (30 * k + i) < 2 * M 17 1
def mD (M : mm_M) (k : Nat) : Prop := ∀ i j : Nat, i < M 21 k → j < M 21 k → M 20 (30 * k + i) / 2 = M 20 (30 * k + j) / 2 → i = j
def corX (M : mm_M) (k : Nat) (p : Int) : Int := if p = 0 then M 22 k else glX M (M 20 (30 * k + (p - 1).toNat))
def sp_X5_stepOf : mm_S := fun av M d Q => match av with
  | [.inr (.inr (.inl o)), .inl k, .inl i] =>  o = 17 ∧ (0 ≤ k ∧ k < 4) ∧ (0 ≤ i ∧ i < 30) ∧ Q (.inl (some (mm_I (M 20 (30 * k.toNat + i.toNat))))) M d
  | _ => False
def ct_X5_stepOf : List (Nat × mm_Ca) := []
abbrev rr_X5_stepOf (Q : mm_Q) := mm_run (mm_look flX5) (mm_look ct_X5_stepOf) mm_x0 (mm_look ([] : List (Nat × Int))) (fun _ => none) 1 0 (fun _ _ => none) Q kdX5_stepOf
set_option maxRecDepth 20000 in
theorem rn_X5_stepOf : mm_RN flX5 ct_X5_stepOf mm_x0 [] 1 0 3 kdX5_stepOf sp_X5_stepOf := by
  intro av M d Q h
  unfold sp_X5_stepOf at h
  split at h
  · rename_i o k i
    obtain ⟨rfl, hk, hi, hq⟩ := h
    refine ⟨Nat.le_of_ble_eq_true rfl, mm_run_at (stop := []) (S := mm_F0) kkX5_stepOf 80 ?_ mm_F0h⟩
    simp only [mm_wp, mm_op, mm_nxt, mm_jmp, mm_at, mm_in, mm_nth, mm_set, mm_ok, mm_isL, mm_ret, mm_isRet, mm_bool, mm_call, mm_push, mm_rv, mm_cats, mm_cat, mm_look, mm_ft, mm_fv, mm_pf, mm_thr, mm_ent, mm_pad, mm_fl, beq_self_eq_true, cond_true, cond_false, Nat.reduceBEq, Nat.reduceEqDiff, List.drop_succ_cons, List.drop_zero, List.take_succ_cons, List.take_zero, List.reverse_cons, List.reverse_nil, List.nil_append, List.cons_append, List.length_cons, List.length_nil, Nat.reduceAdd, Nat.reduceSub, Nat.reduceLeDiff, Bool.not_false, Bool.and_true, Bool.true_and, Nat.zero_add, true_and, and_true, Nat.le_refl, true_or, or_true, reduceCtorEq, Nat.add_zero, Nat.reduceLT, Bool.and_self, Bool.not_true, Fin.isValue, Nat.reduceLeDiff, List.take_nil, List.drop_nil, mm_i1, mm_i2, mm_i3, mm_i4, mm_i5, mm_i6, mm_i7, mm_i16, mm_i17, mm_i18, mm_i19, mm_i20, mm_i21, mm_i22, mm_i23, mm_l3, mm_l4, mm_l5, mm_l6, mm_l7, mm_l18, mm_l19, mm_l20, mm_l21, mm_l22, kdX5_stepOf, ct_X5_stepOf, flX5]
    have e : (k * 30 + i).toNat = 30 * k.toNat + i.toNat := by omega
    rw [e]
    refine ⟨by omega, by omega, hq⟩
  · exact h.elim
theorem me_X5_stepOf {l : Launch} (hl : l.stackTraces = false) : mm_Met l yX5_stepOf cX5_stepOf 3 (some .int) [] 6 100 0 sp_X5_stepOf := mm_mt hl rn_X5_stepOf ⟨by decide, rfl⟩ kkX5_stepOf rfl ⟨by decide, by decide⟩ flkX5 (fun _ h => nomatch h) (trivial) (mm_xe0 _)
def sp_X5_cornerOf : mm_S := fun av M d Q => match av with
  | [.inr (.inr (.inl o)), .inl k, .inl p] =>  o = 17 ∧ tX M ∧ (0 ≤ k ∧ k < 4) ∧ mV M k.toNat ∧ (0 ≤ p ∧ p ≤ M 21 k.toNat) ∧ ∀ r, r = corX M k.toNat p ∧ 0 ≤ r ∧ r < 10 → Q (.inl (some (mm_I r))) M d
  | _ => False
def ct_X5_cornerOf : List (Nat × mm_Ca) := [(98, (0, 3, 14, sp_X5_stepOf, 0)), (102, (0, 2, 14, sp_X5_comesTo, 0))]
abbrev rr_X5_cornerOf (Q : mm_Q) := mm_run (mm_look flX5) (mm_look ct_X5_cornerOf) mm_x0 (mm_look ([] : List (Nat × Int))) (fun _ => none) 1 0 (fun _ _ => none) Q kdX5_cornerOf
set_option maxRecDepth 20000 in
theorem rn_X5_cornerOf : mm_RN flX5 ct_X5_cornerOf mm_x0 [] 1 0 3 kdX5_cornerOf sp_X5_cornerOf := by
  intro av M d Q h
  unfold sp_X5_cornerOf at h
  split at h
  · rename_i o k p
    obtain ⟨rfl, ht, hk, hv, hp, hq⟩ := h
    have t1 := ht.1
    obtain ⟨v1, v2, v3⟩ := id hv
    refine ⟨Nat.le_of_ble_eq_true rfl, mm_run_at (stop := []) (S := mm_F0) kkX5_cornerOf 80 ?_ mm_F0h⟩
    simp only [mm_wp, mm_op, mm_nxt, mm_jmp, mm_at, mm_in, mm_nth, mm_set, mm_ok, mm_isL, mm_ret, mm_isRet, mm_bool, mm_call, mm_push, mm_rv, mm_cats, mm_cat, mm_look, mm_ft, mm_fv, mm_pf, mm_thr, mm_ent, mm_pad, mm_fl, beq_self_eq_true, cond_true, cond_false, Nat.reduceBEq, Nat.reduceEqDiff, List.drop_succ_cons, List.drop_zero, List.take_succ_cons, List.take_zero, List.reverse_cons, List.reverse_nil, List.nil_append, List.cons_append, List.length_cons, List.length_nil, Nat.reduceAdd, Nat.reduceSub, Nat.reduceLeDiff, Bool.not_false, Bool.and_true, Bool.true_and, Nat.zero_add, true_and, and_true, Nat.le_refl, true_or, or_true, reduceCtorEq, Nat.add_zero, Nat.reduceLT, Bool.and_self, Bool.not_true, Fin.isValue, Nat.reduceLeDiff, List.take_nil, List.drop_nil, mm_i1, mm_i2, mm_i3, mm_i4, mm_i5, mm_i6, mm_i7, mm_i16, mm_i17, mm_i18, mm_i19, mm_i20, mm_i21, mm_i22, mm_i23, mm_l3, mm_l4, mm_l5, mm_l6, mm_l7, mm_l18, mm_l19, mm_l20, mm_l21, mm_l22, kdX5_cornerOf, ct_X5_cornerOf, flX5, sp_X5_stepOf, sp_X5_comesTo]
    refine ⟨⟨by omega, by omega⟩, fun h => ⟨hk, by omega, ht, ?_, fun r hr => hq r ⟨?_, hr.2⟩⟩, fun h => ⟨by omega, hq _ ⟨?_, v2⟩⟩⟩
    · exact v3 (p - 1).toNat (by omega)
    · unfold corX
      rw [if_neg h]
      exact hr.1
    · unfold corX
      rw [if_pos h]
  · exact h.elim
theorem me_X5_cornerOf {l : Launch} (hl : l.stackTraces = false) : mm_Met l yX5_cornerOf cX5_cornerOf 3 (some .int) [] 7 122 0 sp_X5_cornerOf := mm_mt hl rn_X5_cornerOf ⟨by decide, rfl⟩ kkX5_cornerOf rfl ⟨by decide, by decide⟩ flkX5 (fun _ h => nomatch h) (⟨mm_pe (me_X5_stepOf hl) mwX5_stepOf (mm_t6 158 rfl rfl) (Nat.le_of_ble_eq_true rfl) (Nat.le_of_ble_eq_true rfl), mm_pe (me_X5_comesTo hl) mwX5_comesTo (mm_t6 189 rfl rfl) (Nat.le_of_ble_eq_true rfl) (Nat.le_of_ble_eq_true rfl), trivial⟩) (mm_xe0 _)
def sp_X5_placeOf : mm_S := fun av M d Q => match av with
  | [.inr (.inr (.inl o)), .inl k, .inl s] =>  o = 17 ∧ tX M ∧ (0 ≤ k ∧ k < 4) ∧ mV M k.toNat ∧ InI s ∧ ∀ r, ((r = -1 ∧ ∀ i : Nat, i < M 21 k.toNat → M 20 (30 * k.toNat + i) / 2 ≠ s) ∨ (0 ≤ r ∧ r < M 21 k.toNat ∧ M 20 (30 * k.toNat + r.toNat) / 2 = s ∧ ∀ i : Nat, i < r → M 20 (30 * k.toNat + i) / 2 ≠ s)) → Q (.inl (some (mm_I r))) M d
  | _ => False
def ct_X5_placeOf : List (Nat × mm_Ca) := [(98, (0, 3, 14, sp_X5_stepOf, 0))]
abbrev rr_X5_placeOf (Q : mm_Q) := mm_run (mm_look flX5) (mm_look ct_X5_placeOf) mm_x0 (mm_look ([] : List (Nat × Int))) (fun _ => none) 1 0 (fun _ _ => none) Q kdX5_placeOf
set_option maxRecDepth 20000 in
theorem lp_X5_placeOf {M : mm_M} {d : List Nat} {Q : mm_Q} {k s : Int} {n : Nat} (ht : tX M) (hk : 0 ≤ k ∧ k < 4) (hv : mV M k.toNat) (hs : InI s) (hn : M 21 k.toNat = n) (hq : ∀ r, ((r = -1 ∧ ∀ i : Nat, i < M 21 k.toNat → M 20 (30 * k.toNat + i) / 2 ≠ s) ∨ (0 ≤ r ∧ r < M 21 k.toNat ∧ M 20 (30 * k.toNat + r.toNat) / 2 = s ∧ ∀ i : Nat, i < r → M 20 (30 * k.toNat + i) / 2 ≠ s)) → Q (.inl (some (mm_I r))) M d) : ∀ (j i : Nat), i + j = n → (∀ x : Nat, x < i → M 20 (30 * k.toNat + x) / 2 ≠ s) → rr_X5_placeOf Q 2 [some (mm_R 17), some (mm_I k), some (mm_I s), some (mm_I i)] [] M d 0 := by
  obtain ⟨v1, v2, v3⟩ := id hv
  have t1 := ht.1
  intro j
  induction j with
  | zero =>
    intro i hi hj
    refine mm_run_at (stop := [2]) (S := rr_X5_placeOf Q) kkX5_placeOf 60 ?_ (fun _ _ _ _ _ _ _ h => h)
    simp only [mm_wp, mm_op, mm_nxt, mm_jmp, mm_at, mm_in, mm_nth, mm_set, mm_ok, mm_isL, mm_ret, mm_isRet, mm_bool, mm_call, mm_push, mm_rv, mm_cats, mm_cat, mm_look, mm_ft, mm_fv, mm_pf, mm_thr, mm_ent, mm_pad, mm_fl, beq_self_eq_true, cond_true, cond_false, Nat.reduceBEq, Nat.reduceEqDiff, List.drop_succ_cons, List.drop_zero, List.take_succ_cons, List.take_zero, List.reverse_cons, List.reverse_nil, List.nil_append, List.cons_append, List.length_cons, List.length_nil, Nat.reduceAdd, Nat.reduceSub, Nat.reduceLeDiff, Bool.not_false, Bool.and_true, Bool.true_and, Nat.zero_add, true_and, and_true, Nat.le_refl, true_or, or_true, reduceCtorEq, Nat.add_zero, Nat.reduceLT, Bool.and_self, Bool.not_true, Fin.isValue, Nat.reduceLeDiff, List.take_nil, List.drop_nil, mm_i1, mm_i2, mm_i3, mm_i4, mm_i5, mm_i6, mm_i7, mm_i16, mm_i17, mm_i18, mm_i19, mm_i20, mm_i21, mm_i22, mm_i23, mm_l3, mm_l4, mm_l5, mm_l6, mm_l7, mm_l18, mm_l19, mm_l20, mm_l21, mm_l22, kdX5_placeOf, ct_X5_placeOf, flX5, sp_X5_stepOf]
    exact ⟨by omega, ⟨by omega, by omega⟩, ⟨by omega, by omega⟩, fun _ => hq _ (Or.inl ⟨rfl, fun x h => hj x (by omega)⟩), fun h => by omega⟩
  | succ j ih =>
    intro i hi hj
    have v4 := v3 i (by omega)
    have e2 := Int.tdiv_eq_ediv_of_nonneg v4.1 (b := 2)
    refine mm_run_at (stop := [2]) (S := rr_X5_placeOf Q) kkX5_placeOf 60 ?_ (fun _ _ _ _ _ _ _ h => h)
    simp only [mm_wp, mm_op, mm_nxt, mm_jmp, mm_at, mm_in, mm_nth, mm_set, mm_ok, mm_isL, mm_ret, mm_isRet, mm_bool, mm_call, mm_push, mm_rv, mm_cats, mm_cat, mm_look, mm_ft, mm_fv, mm_pf, mm_thr, mm_ent, mm_pad, mm_fl, beq_self_eq_true, cond_true, cond_false, Nat.reduceBEq, Nat.reduceEqDiff, List.drop_succ_cons, List.drop_zero, List.take_succ_cons, List.take_zero, List.reverse_cons, List.reverse_nil, List.nil_append, List.cons_append, List.length_cons, List.length_nil, Nat.reduceAdd, Nat.reduceSub, Nat.reduceLeDiff, Bool.not_false, Bool.and_true, Bool.true_and, Nat.zero_add, true_and, and_true, Nat.le_refl, true_or, or_true, reduceCtorEq, Nat.add_zero, Nat.reduceLT, Bool.and_self, Bool.not_true, Fin.isValue, Nat.reduceLeDiff, List.take_nil, List.drop_nil, mm_i1, mm_i2, mm_i3, mm_i4, mm_i5, mm_i6, mm_i7, mm_i16, mm_i17, mm_i18, mm_i19, mm_i20, mm_i21, mm_i22, mm_i23, mm_l3, mm_l4, mm_l5, mm_l6, mm_l7, mm_l18, mm_l19, mm_l20, mm_l21, mm_l22, kdX5_placeOf, ct_X5_placeOf, flX5, sp_X5_stepOf, Int.toNat_natCast, e2]
    refine ⟨by omega, ⟨by omega, by omega⟩, ⟨by omega, by omega⟩, fun h => by omega, fun _ => ⟨hk, by omega, ⟨by omega, by omega⟩, ⟨by omega, by omega⟩, by omega, ⟨by omega, by omega⟩, hs, fun h => ?_, fun h => ?_⟩⟩
    · refine ih (i + 1) (by omega) (fun x hx => ?_)
      by_cases e : x = i
      · subst e
        exact h
      · exact hj x (by omega)
    · exact hq _ (Or.inr ⟨by omega, by omega, h, fun x h => hj x (by omega)⟩)
set_option maxRecDepth 20000 in
theorem rn_X5_placeOf : mm_RN flX5 ct_X5_placeOf mm_x0 [] 1 0 4 kdX5_placeOf sp_X5_placeOf := by
  intro av M d Q h
  unfold sp_X5_placeOf at h
  split at h
  · rename_i o k s
    obtain ⟨rfl, ht, hk, hv, hs, hq⟩ := h
    have v1 := hv.1
    obtain ⟨n, hn⟩ := Int.eq_ofNat_of_zero_le v1.1
    refine ⟨Nat.le_of_ble_eq_true rfl, mm_run_at (stop := [2]) (S := rr_X5_placeOf Q) kkX5_placeOf 80 ?_ (fun _ _ _ _ _ _ _ h => h)⟩
    simp only [mm_wp, mm_op, mm_nxt, mm_jmp, mm_at, mm_in, mm_nth, mm_set, mm_ok, mm_isL, mm_ret, mm_isRet, mm_bool, mm_call, mm_push, mm_rv, mm_cats, mm_cat, mm_look, mm_ft, mm_fv, mm_pf, mm_thr, mm_ent, mm_pad, mm_fl, beq_self_eq_true, cond_true, cond_false, Nat.reduceBEq, Nat.reduceEqDiff, List.drop_succ_cons, List.drop_zero, List.take_succ_cons, List.take_zero, List.reverse_cons, List.reverse_nil, List.nil_append, List.cons_append, List.length_cons, List.length_nil, Nat.reduceAdd, Nat.reduceSub, Nat.reduceLeDiff, Bool.not_false, Bool.and_true, Bool.true_and, Nat.zero_add, true_and, and_true, Nat.le_refl, true_or, or_true, reduceCtorEq, Nat.add_zero, Nat.reduceLT, Bool.and_self, Bool.not_true, Fin.isValue, Nat.reduceLeDiff, List.take_nil, List.drop_nil, mm_i1, mm_i2, mm_i3, mm_i4, mm_i5, mm_i6, mm_i7, mm_i16, mm_i17, mm_i18, mm_i19, mm_i20, mm_i21, mm_i22, mm_i23, mm_l3, mm_l4, mm_l5, mm_l6, mm_l7, mm_l18, mm_l19, mm_l20, mm_l21, mm_l22, kdX5_placeOf, ct_X5_placeOf, flX5, sp_X5_stepOf]
    exact lp_X5_placeOf ht hk hv hs hn hq n 0 (by omega) (fun j hj => by omega)
  · exact h.elim
theorem me_X5_placeOf {l : Launch} (hl : l.stackTraces = false) : mm_Met l yX5_placeOf cX5_placeOf 4 (some .int) [] 7 122 0 sp_X5_placeOf := mm_mt hl rn_X5_placeOf ⟨by decide, rfl⟩ kkX5_placeOf rfl ⟨by decide, by decide⟩ flkX5 (fun _ h => nomatch h) (⟨mm_pe (me_X5_stepOf hl) mwX5_stepOf (mm_t6 158 rfl rfl) (Nat.le_of_ble_eq_true rfl) (Nat.le_of_ble_eq_true rfl), trivial⟩) (mm_xe0 _)

