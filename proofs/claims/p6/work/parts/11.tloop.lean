/-! the class's town: loops -/
def sp_X3_powerOf : mm_S := fun av M d Q => match av with
  | [.inl a, .inl b] =>  (2 ≤ a ∧ a ≤ 5) ∧ (0 ≤ b ∧ b ≤ 4) ∧ Q (.inl (some (mm_I (a ^ b.toNat)))) M d
  | _ => False
def ct_X3_powerOf : List (Nat × mm_Ca) := []
abbrev rr_X3_powerOf (Q : mm_Q) := mm_run (mm_look flX3) (mm_look ct_X3_powerOf) mm_x0 (mm_look ([] : List (Nat × Int))) (fun _ => none) 1 0 (fun _ _ => none) Q kdX3_powerOf
set_option maxRecDepth 20000 in
theorem lp_X3_powerOf {M : mm_M} {d : List Nat} {Q : mm_Q} {a : Int} {b : Nat} (ha : 2 ≤ a ∧ a ≤ 5) (hb : b ≤ 4) (hq : Q (.inl (some (mm_I (a ^ b)))) M d) : ∀ (k i : Nat), i + k = b → rr_X3_powerOf Q 4 [some (mm_I a), some (mm_I b), some (mm_I (a ^ i)), some (mm_I i)] [] M d 0 := by
  intro k
  induction k with
  | zero =>
    intro i hi
    refine mm_run_at (stop := [4]) (S := rr_X3_powerOf Q) kkX3_powerOf 60 ?_ (fun _ _ _ _ _ _ _ h => h)
    simp only [mm_wp, mm_op, mm_nxt, mm_jmp, mm_at, mm_in, mm_nth, mm_set, mm_ok, mm_isL, mm_ret, mm_isRet, mm_bool, mm_call, mm_push, mm_rv, mm_cats, mm_cat, mm_look, mm_ft, mm_fv, mm_pf, mm_thr, mm_ent, mm_pad, mm_fl, beq_self_eq_true, cond_true, cond_false, Nat.reduceBEq, Nat.reduceEqDiff, List.drop_succ_cons, List.drop_zero, List.take_succ_cons, List.take_zero, List.reverse_cons, List.reverse_nil, List.nil_append, List.cons_append, List.length_cons, List.length_nil, Nat.reduceAdd, Nat.reduceSub, Nat.reduceLeDiff, Bool.not_false, Bool.and_true, Bool.true_and, Nat.zero_add, true_and, and_true, Nat.le_refl, true_or, or_true, reduceCtorEq, Nat.add_zero, Nat.reduceLT, Bool.and_self, Bool.not_true, Fin.isValue, Nat.reduceLeDiff, List.take_nil, List.drop_nil, mm_i1, mm_i2, mm_i3, mm_i4, mm_i5, mm_i6, mm_i7, mm_i16, mm_i17, mm_i18, mm_i19, mm_i20, mm_i21, mm_i22, mm_i23, mm_l3, mm_l4, mm_l5, mm_l6, mm_l7, mm_l18, mm_l19, mm_l20, mm_l21, mm_l22, kdX3_powerOf, ct_X3_powerOf, flX3]
    have e : i = b := by omega
    subst e
    exact ⟨⟨by omega, by omega⟩, ⟨by omega, by omega⟩, fun _ => hq, fun h => by omega⟩
  | succ k ih =>
    intro i hi
    refine mm_run_at (stop := [4]) (S := rr_X3_powerOf Q) kkX3_powerOf 60 ?_ (fun _ _ _ _ _ _ _ h => h)
    simp only [mm_wp, mm_op, mm_nxt, mm_jmp, mm_at, mm_in, mm_nth, mm_set, mm_ok, mm_isL, mm_ret, mm_isRet, mm_bool, mm_call, mm_push, mm_rv, mm_cats, mm_cat, mm_look, mm_ft, mm_fv, mm_pf, mm_thr, mm_ent, mm_pad, mm_fl, beq_self_eq_true, cond_true, cond_false, Nat.reduceBEq, Nat.reduceEqDiff, List.drop_succ_cons, List.drop_zero, List.take_succ_cons, List.take_zero, List.reverse_cons, List.reverse_nil, List.nil_append, List.cons_append, List.length_cons, List.length_nil, Nat.reduceAdd, Nat.reduceSub, Nat.reduceLeDiff, Bool.not_false, Bool.and_true, Bool.true_and, Nat.zero_add, true_and, and_true, Nat.le_refl, true_or, or_true, reduceCtorEq, Nat.add_zero, Nat.reduceLT, Bool.and_self, Bool.not_true, Fin.isValue, Nat.reduceLeDiff, List.take_nil, List.drop_nil, mm_i1, mm_i2, mm_i3, mm_i4, mm_i5, mm_i6, mm_i7, mm_i16, mm_i17, mm_i18, mm_i19, mm_i20, mm_i21, mm_i22, mm_i23, mm_l3, mm_l4, mm_l5, mm_l6, mm_l7, mm_l18, mm_l19, mm_l20, mm_l21, mm_l22, kdX3_powerOf, ct_X3_powerOf, flX3]
    exact ⟨⟨by omega, by omega⟩, ⟨by omega, by omega⟩, fun h => by omega, fun h => by rw [← Int.pow_succ]; exact ih (i + 1) (by omega)⟩
set_option maxRecDepth 20000 in
theorem rn_X3_powerOf : mm_RN flX3 ct_X3_powerOf mm_x0 [] 1 0 4 kdX3_powerOf sp_X3_powerOf := by
  intro av M d Q h
  unfold sp_X3_powerOf at h
  split at h
  · rename_i a b
    obtain ⟨ha, hb, hq⟩ := h
    obtain ⟨b, rfl⟩ := Int.eq_ofNat_of_zero_le hb.1
    refine ⟨Nat.le_of_ble_eq_true rfl, mm_run_at (stop := [4]) (S := rr_X3_powerOf Q) kkX3_powerOf 80 ?_ (fun _ _ _ _ _ _ _ h => h)⟩
    simp only [mm_wp, mm_op, mm_nxt, mm_jmp, mm_at, mm_in, mm_nth, mm_set, mm_ok, mm_isL, mm_ret, mm_isRet, mm_bool, mm_call, mm_push, mm_rv, mm_cats, mm_cat, mm_look, mm_ft, mm_fv, mm_pf, mm_thr, mm_ent, mm_pad, mm_fl, beq_self_eq_true, cond_true, cond_false, Nat.reduceBEq, Nat.reduceEqDiff, List.drop_succ_cons, List.drop_zero, List.take_succ_cons, List.take_zero, List.reverse_cons, List.reverse_nil, List.nil_append, List.cons_append, List.length_cons, List.length_nil, Nat.reduceAdd, Nat.reduceSub, Nat.reduceLeDiff, Bool.not_false, Bool.and_true, Bool.true_and, Nat.zero_add, true_and, and_true, Nat.le_refl, true_or, or_true, reduceCtorEq, Nat.add_zero, Nat.reduceLT, Bool.and_self, Bool.not_true, Fin.isValue, Nat.reduceLeDiff, List.take_nil, List.drop_nil, mm_i1, mm_i2, mm_i3, mm_i4, mm_i5, mm_i6, mm_i7, mm_i16, mm_i17, mm_i18, mm_i19, mm_i20, mm_i21, mm_i22, mm_i23, mm_l3, mm_l4, mm_l5, mm_l6, mm_l7, mm_l18, mm_l19, mm_l20, mm_l21, mm_l22, kdX3_powerOf, ct_X3_powerOf, flX3]
    have h1 := lp_X3_powerOf ha (b := b) (by omega) hq b 0 (by omega)
    simpa using h1
  · exact h.elim
theorem me_X3_powerOf {l : Launch} (hl : l.stackTraces = false) : mm_Met l yX3_powerOf cX3_powerOf 4 (some .int) [] 6 100 0 sp_X3_powerOf := mm_mt hl rn_X3_powerOf ⟨by decide, rfl⟩ kkX3_powerOf rfl ⟨by decide, by decide⟩ flkX3 (fun _ h => nomatch h) (trivial) (mm_xe0 _)
def sp_X1_addRing : mm_S := fun av M d Q => match av with
  | [.inr (.inr (.inl o)), .inl many, .inl b] =>  o = 2 ∧ tW M ∧ (1 ≤ many ∧ many ≤ 10) ∧ (0 ≤ b ∧ b ≤ 9) ∧ M 2 4 + many ≤ 30 ∧ ∀ M', ringI M M' many b (M 2 4).toNat many.toNat → Q (.inl none) M' d
  | _ => False
def ct_X1_addRing : List (Nat × mm_Ca) := [(42, (0, 3, 11, sp_X1_addStreet, 0))]
abbrev rr_X1_addRing (Q : mm_Q) := mm_run (mm_look flX1) (mm_look ct_X1_addRing) mm_x0 (mm_look ([] : List (Nat × Int))) (fun _ => none) 0 0 (fun _ _ => none) Q kdX1_addRing
set_option maxRecDepth 20000 in
theorem lp_X1_addRing {M0 : mm_M} {d : List Nat} {Q : mm_Q} {many b : Int} {c : Nat} (hm : 1 ≤ many ∧ many ≤ 10) (hb : 0 ≤ b ∧ b ≤ 9) (hc : c + many ≤ 30) (hq : ∀ M', ringI M0 M' many b c many.toNat → Q (.inl none) M' d) : ∀ (k i : Nat) (M : mm_M), i + k = many.toNat → ringI M0 M many b c i → rr_X1_addRing Q 2 [some (mm_R 2), some (mm_I many), some (mm_I b), some (mm_I i)] [] M d 0 := by
  intro k
  induction k with
  | zero =>
    intro i M hi hI
    refine mm_run_at (stop := [2]) (S := rr_X1_addRing Q) kkX1_addRing 60 ?_ (fun _ _ _ _ _ _ _ h => h)
    simp only [mm_wp, mm_op, mm_nxt, mm_jmp, mm_at, mm_in, mm_nth, mm_set, mm_ok, mm_isL, mm_ret, mm_isRet, mm_bool, mm_call, mm_push, mm_rv, mm_cats, mm_cat, mm_look, mm_ft, mm_fv, mm_pf, mm_thr, mm_ent, mm_pad, mm_fl, beq_self_eq_true, cond_true, cond_false, Nat.reduceBEq, Nat.reduceEqDiff, List.drop_succ_cons, List.drop_zero, List.take_succ_cons, List.take_zero, List.reverse_cons, List.reverse_nil, List.nil_append, List.cons_append, List.length_cons, List.length_nil, Nat.reduceAdd, Nat.reduceSub, Nat.reduceLeDiff, Bool.not_false, Bool.and_true, Bool.true_and, Nat.zero_add, true_and, and_true, Nat.le_refl, true_or, or_true, reduceCtorEq, Nat.add_zero, Nat.reduceLT, Bool.and_self, Bool.not_true, Fin.isValue, Nat.reduceLeDiff, List.take_nil, List.drop_nil, mm_i1, mm_i2, mm_i3, mm_i4, mm_i5, mm_i6, mm_i7, mm_i16, mm_i17, mm_i18, mm_i19, mm_i20, mm_i21, mm_i22, mm_i23, mm_l3, mm_l4, mm_l5, mm_l6, mm_l7, mm_l18, mm_l19, mm_l20, mm_l21, mm_l22, kdX1_addRing, ct_X1_addRing, flX1, sp_X1_addStreet]
    have e : i = many.toNat := by omega
    subst e
    exact ⟨⟨by omega, by omega⟩, ⟨by omega, by omega⟩, fun _ => hq M hI, fun h => by omega⟩
  | succ k ih =>
    intro i M hi hI
    refine mm_run_at (stop := [2]) (S := rr_X1_addRing Q) kkX1_addRing 60 ?_ (fun _ _ _ _ _ _ _ h => h)
    simp only [mm_wp, mm_op, mm_nxt, mm_jmp, mm_at, mm_in, mm_nth, mm_set, mm_ok, mm_isL, mm_ret, mm_isRet, mm_bool, mm_call, mm_push, mm_rv, mm_cats, mm_cat, mm_look, mm_ft, mm_fv, mm_pf, mm_thr, mm_ent, mm_pad, mm_fl, beq_self_eq_true, cond_true, cond_false, Nat.reduceBEq, Nat.reduceEqDiff, List.drop_succ_cons, List.drop_zero, List.take_succ_cons, List.take_zero, List.reverse_cons, List.reverse_nil, List.nil_append, List.cons_append, List.length_cons, List.length_nil, Nat.reduceAdd, Nat.reduceSub, Nat.reduceLeDiff, Bool.not_false, Bool.and_true, Bool.true_and, Nat.zero_add, true_and, and_true, Nat.le_refl, true_or, or_true, reduceCtorEq, Nat.add_zero, Nat.reduceLT, Bool.and_self, Bool.not_true, Fin.isValue, Nat.reduceLeDiff, List.take_nil, List.drop_nil, mm_i1, mm_i2, mm_i3, mm_i4, mm_i5, mm_i6, mm_i7, mm_i16, mm_i17, mm_i18, mm_i19, mm_i20, mm_i21, mm_i22, mm_i23, mm_l3, mm_l4, mm_l5, mm_l6, mm_l7, mm_l18, mm_l19, mm_l20, mm_l21, mm_l22, kdX1_addRing, ct_X1_addRing, flX1, sp_X1_addStreet]
    obtain ⟨t1, t2, t3, t4, t5, t6⟩ := id hI
    rw [Int.tmod_eq_emod_of_nonneg (show 0 ≤ (i : Int) + b by omega)]
    have hr := Int.emod_nonneg ((i : Int) + b) (show many ≠ 0 by omega)
    have hr2 := Int.emod_lt_of_pos ((i : Int) + b) (show 0 < many by omega)
    have ha := addS_spec (a := i) (b := ((i : Int) + b) % many) (n := c + i) t1 (by omega) (by omega) (by omega) (by omega)
    refine ⟨⟨by omega, by omega⟩, ⟨by omega, by omega⟩, fun h => by omega, fun h => ⟨⟨by omega, by omega⟩, ⟨by omega, by omega⟩, by omega, t1, by omega, by omega, by omega, ?_⟩⟩
    refine ih (i + 1) (addS M i (((i : Int) + b) % many)) (by omega) ⟨ha.1, t2.tr ha.2.1, fun j hj => (ha.2.2.1 j hj).trans (t3 j hj), by rw [ha.2.2.2.1]; omega, fun j hj => ?_, fun k hk => ?_⟩
    · have := ha.2.2.2.2.1 j (by omega)
      rw [this.1, this.2]
      exact t5 j hj
    · by_cases hk2 : k = i
      · subst hk2
        exact ha.2.2.2.2.2
      · have := ha.2.2.2.2.1 (c + k) (by omega)
        rw [this.1, this.2]
        exact t6 k (by omega)
set_option maxRecDepth 20000 in
theorem rn_X1_addRing : mm_RN flX1 ct_X1_addRing mm_x0 [] 0 0 4 kdX1_addRing sp_X1_addRing := by
  intro av M d Q h
  unfold sp_X1_addRing at h
  split at h
  · rename_i o many b
    obtain ⟨rfl, ht, hm, hb, hc, hq⟩ := h
    have h1 := ht.1
    refine ⟨Nat.le_of_ble_eq_true rfl, mm_run_at (stop := [2]) (S := rr_X1_addRing Q) kkX1_addRing 80 ?_ (fun _ _ _ _ _ _ _ h => h)⟩
    simp only [mm_wp, mm_op, mm_nxt, mm_jmp, mm_at, mm_in, mm_nth, mm_set, mm_ok, mm_isL, mm_ret, mm_isRet, mm_bool, mm_call, mm_push, mm_rv, mm_cats, mm_cat, mm_look, mm_ft, mm_fv, mm_pf, mm_thr, mm_ent, mm_pad, mm_fl, beq_self_eq_true, cond_true, cond_false, Nat.reduceBEq, Nat.reduceEqDiff, List.drop_succ_cons, List.drop_zero, List.take_succ_cons, List.take_zero, List.reverse_cons, List.reverse_nil, List.nil_append, List.cons_append, List.length_cons, List.length_nil, Nat.reduceAdd, Nat.reduceSub, Nat.reduceLeDiff, Bool.not_false, Bool.and_true, Bool.true_and, Nat.zero_add, true_and, and_true, Nat.le_refl, true_or, or_true, reduceCtorEq, Nat.add_zero, Nat.reduceLT, Bool.and_self, Bool.not_true, Fin.isValue, Nat.reduceLeDiff, List.take_nil, List.drop_nil, mm_i1, mm_i2, mm_i3, mm_i4, mm_i5, mm_i6, mm_i7, mm_i16, mm_i17, mm_i18, mm_i19, mm_i20, mm_i21, mm_i22, mm_i23, mm_l3, mm_l4, mm_l5, mm_l6, mm_l7, mm_l18, mm_l19, mm_l20, mm_l21, mm_l22, kdX1_addRing, ct_X1_addRing, flX1, sp_X1_addStreet]
    exact lp_X1_addRing (c := (M 2 4).toNat) hm hb (by omega) hq many.toNat 0 M (by omega) ⟨ht, fr.rf, fun _ _ => rfl, by omega, fun _ _ => ⟨rfl, rfl⟩, fun k hk => by omega⟩
  · exact h.elim
theorem me_X1_addRing {l : Launch} (hl : l.stackTraces = false) : mm_Met l yX1_addRing cX1_addRing 4 none [] 8 142 0 sp_X1_addRing := mm_mt hl rn_X1_addRing ⟨by decide, rfl⟩ kkX1_addRing rfl ⟨by decide, by decide⟩ flkX1 (fun _ h => nomatch h) (⟨mm_pe (me_X1_addStreet hl) mwX1_addStreet (mm_t3 125 rfl rfl) (Nat.le_of_ble_eq_true rfl) (Nat.le_of_ble_eq_true rfl), trivial⟩) (mm_xe0 _)
def sp_X1_becomeWords : mm_S := fun av M d Q => match av with
  | [.inr (.inr (.inl o)), .inl a, .inl b] =>  o = 2 ∧ tW M ∧ M 2 4 = 0 ∧ (2 ≤ a ∧ a ≤ 5) ∧ (1 ≤ b ∧ b ≤ 4) ∧ a ^ b.toNat ≤ 30 ∧ ∀ M', wordI (mm_up (mm_up (mm_up M 2 6 a) 2 7 b) 2 5 1) M' a (a ^ (b.toNat - 1)) (a ^ b.toNat).toNat → Q (.inl none) M' d
  | _ => False
def ct_X1_becomeWords : List (Nat × mm_Ca) := [(46, (1, 2, 0, sp_X3_powerOf, 0)), (42, (0, 3, 11, sp_X1_addStreet, 0))]
abbrev rr_X1_becomeWords (Q : mm_Q) := mm_run (mm_look flX1) (mm_look ct_X1_becomeWords) mm_x0 (mm_look ([] : List (Nat × Int))) (fun _ => none) 0 0 (fun _ _ => none) Q kdX1_becomeWords
set_option maxRecDepth 20000 in
theorem lp_X1_becomeWords {M0 : mm_M} {d : List Nat} {Q : mm_Q} {a b hd : Int} {n : Nat} (ha : 2 ≤ a ∧ a ≤ 5) (hh : 1 ≤ hd ∧ hd ≤ 10) (hn : hd * a = n) (h30 : n ≤ 30) (hda : n ≤ 10 * a) (hq : ∀ M', wordI M0 M' a hd n → Q (.inl none) M' d) : ∀ (k i : Nat) (M : mm_M), i + k = n → wordI M0 M a hd i → rr_X1_becomeWords Q 37 [some (mm_R 2), some (mm_I a), some (mm_I b), some (mm_I hd), some (mm_I i)] [] M d 0 := by
  intro k
  induction k with
  | zero =>
    intro i M hi hI
    refine mm_run_at (stop := [37]) (S := rr_X1_becomeWords Q) kkX1_becomeWords 60 ?_ (fun _ _ _ _ _ _ _ h => h)
    simp only [mm_wp, mm_op, mm_nxt, mm_jmp, mm_at, mm_in, mm_nth, mm_set, mm_ok, mm_isL, mm_ret, mm_isRet, mm_bool, mm_call, mm_push, mm_rv, mm_cats, mm_cat, mm_look, mm_ft, mm_fv, mm_pf, mm_thr, mm_ent, mm_pad, mm_fl, beq_self_eq_true, cond_true, cond_false, Nat.reduceBEq, Nat.reduceEqDiff, List.drop_succ_cons, List.drop_zero, List.take_succ_cons, List.take_zero, List.reverse_cons, List.reverse_nil, List.nil_append, List.cons_append, List.length_cons, List.length_nil, Nat.reduceAdd, Nat.reduceSub, Nat.reduceLeDiff, Bool.not_false, Bool.and_true, Bool.true_and, Nat.zero_add, true_and, and_true, Nat.le_refl, true_or, or_true, reduceCtorEq, Nat.add_zero, Nat.reduceLT, Bool.and_self, Bool.not_true, Fin.isValue, Nat.reduceLeDiff, List.take_nil, List.drop_nil, mm_i1, mm_i2, mm_i3, mm_i4, mm_i5, mm_i6, mm_i7, mm_i16, mm_i17, mm_i18, mm_i19, mm_i20, mm_i21, mm_i22, mm_i23, mm_l3, mm_l4, mm_l5, mm_l6, mm_l7, mm_l18, mm_l19, mm_l20, mm_l21, mm_l22, kdX1_becomeWords, ct_X1_becomeWords, flX1, sp_X3_powerOf, sp_X1_addStreet]
    rw [hn]
    have e : i = n := by omega
    subst e
    exact ⟨⟨by omega, by omega⟩, ⟨by omega, by omega⟩, fun _ => hq M hI, fun h => by omega⟩
  | succ k ih =>
    intro i M hi hI
    refine mm_run_at (stop := [37]) (S := rr_X1_becomeWords Q) kkX1_becomeWords 60 ?_ (fun _ _ _ _ _ _ _ h => h)
    simp only [mm_wp, mm_op, mm_nxt, mm_jmp, mm_at, mm_in, mm_nth, mm_set, mm_ok, mm_isL, mm_ret, mm_isRet, mm_bool, mm_call, mm_push, mm_rv, mm_cats, mm_cat, mm_look, mm_ft, mm_fv, mm_pf, mm_thr, mm_ent, mm_pad, mm_fl, beq_self_eq_true, cond_true, cond_false, Nat.reduceBEq, Nat.reduceEqDiff, List.drop_succ_cons, List.drop_zero, List.take_succ_cons, List.take_zero, List.reverse_cons, List.reverse_nil, List.nil_append, List.cons_append, List.length_cons, List.length_nil, Nat.reduceAdd, Nat.reduceSub, Nat.reduceLeDiff, Bool.not_false, Bool.and_true, Bool.true_and, Nat.zero_add, true_and, and_true, Nat.le_refl, true_or, or_true, reduceCtorEq, Nat.add_zero, Nat.reduceLT, Bool.and_self, Bool.not_true, Fin.isValue, Nat.reduceLeDiff, List.take_nil, List.drop_nil, mm_i1, mm_i2, mm_i3, mm_i4, mm_i5, mm_i6, mm_i7, mm_i16, mm_i17, mm_i18, mm_i19, mm_i20, mm_i21, mm_i22, mm_i23, mm_l3, mm_l4, mm_l5, mm_l6, mm_l7, mm_l18, mm_l19, mm_l20, mm_l21, mm_l22, kdX1_becomeWords, ct_X1_becomeWords, flX1, sp_X3_powerOf, sp_X1_addStreet]
    rw [hn]
    obtain ⟨t1, t2, t3, t4, t6⟩ := id hI
    rw [Int.tmod_eq_emod_of_nonneg (show 0 ≤ (i : Int) by omega), Int.tdiv_eq_ediv_of_nonneg (show 0 ≤ (i : Int) by omega)]
    have hr := Int.emod_nonneg (i : Int) (show hd ≠ 0 by omega)
    have hr2 := Int.emod_lt_of_pos (i : Int) (show 0 < hd by omega)
    have hr3 := Int.ediv_nonneg (show 0 ≤ (i : Int) by omega) (show 0 ≤ a by omega)
    have hr4 : (i : Int) / a < 10 := Int.ediv_lt_of_lt_mul (by omega) (by omega)
    have ha := addS_spec (a := (i : Int) / a) (b := (i : Int) % hd) (n := i) t1 (by omega) (by omega) (by omega) (by omega)
    refine ⟨⟨by omega, by omega⟩, ⟨by omega, by omega⟩, fun h => by omega, fun h => ⟨⟨by omega, by omega⟩, ⟨by omega, by omega⟩, by omega, ⟨by omega, by omega⟩, ⟨by omega, by omega⟩, by omega, t1, by omega, by omega, by omega, ?_⟩⟩
    refine ih (i + 1) (addS M (i / a) (i % hd)) (by omega) ⟨ha.1, t2.tr ha.2.1, fun j hj => (ha.2.2.1 j hj).trans (t3 j hj), by rw [ha.2.2.2.1]; omega, fun k hk => ?_⟩
    by_cases hk2 : k = i
    · subst hk2
      exact ha.2.2.2.2.2
    · have := ha.2.2.2.2.1 k (by omega)
      rw [this.1, this.2]
      exact t6 k (by omega)
set_option maxRecDepth 20000 in
theorem rn_X1_becomeWords : mm_RN flX1 ct_X1_becomeWords mm_x0 [] 0 0 5 kdX1_becomeWords sp_X1_becomeWords := by
  intro av M d Q h
  unfold sp_X1_becomeWords at h
  split at h
  · rename_i o a b
    obtain ⟨rfl, ht, h0, ha, hb, hn, hq⟩ := h
    refine ⟨Nat.le_of_ble_eq_true rfl, mm_run_at (stop := [37]) (S := rr_X1_becomeWords Q) kkX1_becomeWords 80 ?_ (fun _ _ _ _ _ _ _ h => h)⟩
    simp only [mm_wp, mm_op, mm_nxt, mm_jmp, mm_at, mm_in, mm_nth, mm_set, mm_ok, mm_isL, mm_ret, mm_isRet, mm_bool, mm_call, mm_push, mm_rv, mm_cats, mm_cat, mm_look, mm_ft, mm_fv, mm_pf, mm_thr, mm_ent, mm_pad, mm_fl, beq_self_eq_true, cond_true, cond_false, Nat.reduceBEq, Nat.reduceEqDiff, List.drop_succ_cons, List.drop_zero, List.take_succ_cons, List.take_zero, List.reverse_cons, List.reverse_nil, List.nil_append, List.cons_append, List.length_cons, List.length_nil, Nat.reduceAdd, Nat.reduceSub, Nat.reduceLeDiff, Bool.not_false, Bool.and_true, Bool.true_and, Nat.zero_add, true_and, and_true, Nat.le_refl, true_or, or_true, reduceCtorEq, Nat.add_zero, Nat.reduceLT, Bool.and_self, Bool.not_true, Fin.isValue, Nat.reduceLeDiff, List.take_nil, List.drop_nil, mm_i1, mm_i2, mm_i3, mm_i4, mm_i5, mm_i6, mm_i7, mm_i16, mm_i17, mm_i18, mm_i19, mm_i20, mm_i21, mm_i22, mm_i23, mm_l3, mm_l4, mm_l5, mm_l6, mm_l7, mm_l18, mm_l19, mm_l20, mm_l21, mm_l22, kdX1_becomeWords, ct_X1_becomeWords, flX1, sp_X3_powerOf, sp_X1_addStreet]
    obtain ⟨b, rfl⟩ := Int.eq_ofNat_of_zero_le (show 0 ≤ b by omega)
    obtain ⟨b, rfl⟩ : ∃ k, b = k + 1 := ⟨b - 1, by omega⟩
    have e : (((b + 1 : Nat) : Int) - 1).toNat = b := by omega
    have hp : a ^ (b + 1) = a ^ b * a := Int.pow_succ ..
    have hp1 : 1 ≤ a ^ b := Int.pow_pos (by omega)
    have hn' : a ^ b * a ≤ 30 := by rw [← hp]; exact hn
    have hd10 : a ^ b ≤ 15 := by
      have : a ^ b * 2 ≤ a ^ b * a := Int.mul_le_mul_of_nonneg_left (by omega) (by omega)
      omega
    have hd9 : a ^ b ≤ 10 := by
      have hb4 : b ≤ 3 := by omega
      have hb5 : b = 0 ∨ b = 1 ∨ b = 2 ∨ b = 3 := by omega
      have ha5 : a = 2 ∨ a = 3 ∨ a = 4 ∨ a = 5 := by omega
      rcases hb5 with rfl | rfl | rfl | rfl <;> rcases ha5 with rfl | rfl | rfl | rfl <;> omega
    have hg0 : 0 ≤ a ^ b * a := Int.mul_nonneg (by omega) (by omega)
    have hda : a ^ b * a ≤ 10 * a := Int.mul_le_mul_of_nonneg_right hd9 (by omega)
    refine ⟨ha, ⟨by omega, by omega⟩, ?_⟩
    rw [e]
    refine ⟨⟨by omega, by omega⟩, ⟨by omega, by omega⟩, fun h => by omega, fun _ => ⟨⟨by omega, by omega⟩, ⟨by omega, by omega⟩, fun _ => ?_, fun h => by omega⟩⟩
    refine lp_X1_becomeWords (hd := a ^ b) (n := (a ^ b * a).toNat) ha ⟨by omega, by omega⟩ (by omega) (by omega) (by omega) (fun M' h => hq M' (by rw [show ((b + 1 : Nat) : Int).toNat = b + 1 by omega, hp]; exact h)) (a ^ b * a).toNat 0 _ (by omega) ⟨?_, fr.rf, fun _ _ => rfl, by simp [mm_up, h0], fun k hk => by omega⟩
    obtain ⟨t1, t2, t3, t4, t5⟩ := ht
    exact ⟨by simp [mm_up, h0], by simpa [mm_up] using t2, by simp [mm_up], by simp [mm_up]; omega, by simp [mm_up]; omega⟩
  · exact h.elim
theorem me_X1_becomeWords {l : Launch} (hl : l.stackTraces = false) : mm_Met l yX1_becomeWords cX1_becomeWords 5 none [] 8 142 0 sp_X1_becomeWords := mm_mt hl rn_X1_becomeWords ⟨by decide, rfl⟩ kkX1_becomeWords rfl ⟨by decide, by decide⟩ flkX1 (fun _ h => nomatch h) (⟨mm_peN (host := RX3) (me_X3_powerOf hl) mwX3_powerOf (by decide +kernel) (Nat.le_of_ble_eq_true rfl) (Nat.le_of_ble_eq_true rfl), mm_pe (me_X1_addStreet hl) mwX1_addStreet (mm_t3 125 rfl rfl) (Nat.le_of_ble_eq_true rfl) (Nat.le_of_ble_eq_true rfl), trivial⟩) (mm_xe0 _)
def sp_X1_dropAll : mm_S := fun av M d Q => match av with
  | [.inr (.inr (.inl o))] =>  o = 2 ∧ Q (.inl none) (mm_up (mm_up (mm_up (mm_up M 2 4 0) 2 5 0) 2 6 0) 2 7 0) d
  | _ => False
def ct_X1_dropAll : List (Nat × mm_Ca) := [(50, (0, 1, 11, sp_X1_endWords, 0))]
abbrev rr_X1_dropAll (Q : mm_Q) := mm_run (mm_look flX1) (mm_look ct_X1_dropAll) mm_x0 (mm_look ([] : List (Nat × Int))) (fun _ => none) 0 0 (fun _ _ => none) Q kdX1_dropAll
set_option maxRecDepth 20000 in
theorem rn_X1_dropAll : mm_RN flX1 ct_X1_dropAll mm_x0 [] 0 0 1 kdX1_dropAll sp_X1_dropAll := by
  intro av M d Q h
  unfold sp_X1_dropAll at h
  split at h
  · rename_i o
    obtain ⟨rfl, hq⟩ := h
    refine ⟨Nat.le_of_ble_eq_true rfl, mm_run_at (stop := []) (S := mm_F0) kkX1_dropAll 80 ?_ mm_F0h⟩
    simp only [mm_wp, mm_op, mm_nxt, mm_jmp, mm_at, mm_in, mm_nth, mm_set, mm_ok, mm_isL, mm_ret, mm_isRet, mm_bool, mm_call, mm_push, mm_rv, mm_cats, mm_cat, mm_look, mm_ft, mm_fv, mm_pf, mm_thr, mm_ent, mm_pad, mm_fl, beq_self_eq_true, cond_true, cond_false, Nat.reduceBEq, Nat.reduceEqDiff, List.drop_succ_cons, List.drop_zero, List.take_succ_cons, List.take_zero, List.reverse_cons, List.reverse_nil, List.nil_append, List.cons_append, List.length_cons, List.length_nil, Nat.reduceAdd, Nat.reduceSub, Nat.reduceLeDiff, Bool.not_false, Bool.and_true, Bool.true_and, Nat.zero_add, true_and, and_true, Nat.le_refl, true_or, or_true, reduceCtorEq, Nat.add_zero, Nat.reduceLT, Bool.and_self, Bool.not_true, Fin.isValue, Nat.reduceLeDiff, List.take_nil, List.drop_nil, mm_i1, mm_i2, mm_i3, mm_i4, mm_i5, mm_i6, mm_i7, mm_i16, mm_i17, mm_i18, mm_i19, mm_i20, mm_i21, mm_i22, mm_i23, mm_l3, mm_l4, mm_l5, mm_l6, mm_l7, mm_l18, mm_l19, mm_l20, mm_l21, mm_l22, kdX1_dropAll, ct_X1_dropAll, flX1, sp_X1_endWords]
    repeat' (first | assumption | apply And.intro | (intro _) | apply hq)
    all_goals (try simp only [InI] at *)
    all_goals first | omega | ((repeat' split) <;> omega)
  · exact h.elim
theorem me_X1_dropAll {l : Launch} (hl : l.stackTraces = false) : mm_Met l yX1_dropAll cX1_dropAll 1 none [] 7 120 0 sp_X1_dropAll := mm_mt hl rn_X1_dropAll ⟨by decide, rfl⟩ kkX1_dropAll rfl ⟨by decide, by decide⟩ flkX1 (fun _ h => nomatch h) (⟨mm_pe (me_X1_endWords hl) mwX1_endWords (mm_t1 143 rfl rfl) (Nat.le_of_ble_eq_true rfl) (Nat.le_of_ble_eq_true rfl), trivial⟩) (mm_xe0 _)
def sp_X1_dropStreet : mm_S := fun av M d Q => match av with
  | [.inr (.inr (.inl o)), .inl s] =>  o = 2 ∧ tW M ∧ (0 ≤ s ∧ s < M 2 4) ∧ ∀ M', tW M' ∧ fr [2, 3, 4] M M' ∧ (∀ j, j ≠ 4 → M' 2 j = M 2 j) ∧ M' 2 4 = M 2 4 - 1 ∧ (∀ i : Nat, i < s → M' 3 i = M 3 i ∧ M' 4 i = M 4 i) ∧ (∀ i : Nat, s ≤ i → i + 1 < M 2 4 → M' 3 i = M 3 (i + 1) ∧ M' 4 i = M 4 (i + 1)) → Q (.inl none) M' d
  | _ => False
def ct_X1_dropStreet : List (Nat × mm_Ca) := []
abbrev rr_X1_dropStreet (Q : mm_Q) := mm_run (mm_look flX1) (mm_look ct_X1_dropStreet) mm_x0 (mm_look ([] : List (Nat × Int))) (fun _ => none) 0 0 (fun _ _ => none) Q kdX1_dropStreet
set_option maxRecDepth 20000 in
theorem lp_X1_dropStreet {M0 : mm_M} {d : List Nat} {Q : mm_Q} {s n : Nat} {x2 : Int} (hs : s < n) (h30 : n ≤ 30) (hn : M0 2 4 = n) (hq : ∀ M', tW M' ∧ fr [3, 4] M0 M' ∧ (∀ i : Nat, i < s → M' 3 i = M0 3 i ∧ M' 4 i = M0 4 i) ∧ (∀ i : Nat, s ≤ i → i + 1 < n → M' 3 i = M0 3 (i + 1) ∧ M' 4 i = M0 4 (i + 1)) → Q (.inl none) (mm_up M' 2 4 (n - 1)) d) : ∀ (k i : Nat) (M : mm_M), i + k + 1 = n → s ≤ i → tW M → fr [3, 4] M0 M → (∀ j : Nat, j < s → M 3 j = M0 3 j ∧ M 4 j = M0 4 j) → (∀ j : Nat, s ≤ j → j < i → M 3 j = M0 3 (j + 1) ∧ M 4 j = M0 4 (j + 1)) → (∀ j : Nat, i ≤ j → M 3 j = M0 3 j ∧ M 4 j = M0 4 j) → rr_X1_dropStreet Q 15 [some (mm_R 2), some (mm_I s), some (mm_I i)] [] M d 0 := by
  intro k
  induction k with
  | zero =>
    intro i M hi hsi ht hf h1 h2 h3
    refine mm_run_at (stop := [15]) (S := rr_X1_dropStreet Q) kkX1_dropStreet 60 ?_ (fun _ _ _ _ _ _ _ h => h)
    simp only [mm_wp, mm_op, mm_nxt, mm_jmp, mm_at, mm_in, mm_nth, mm_set, mm_ok, mm_isL, mm_ret, mm_isRet, mm_bool, mm_call, mm_push, mm_rv, mm_cats, mm_cat, mm_look, mm_ft, mm_fv, mm_pf, mm_thr, mm_ent, mm_pad, mm_fl, beq_self_eq_true, cond_true, cond_false, Nat.reduceBEq, Nat.reduceEqDiff, List.drop_succ_cons, List.drop_zero, List.take_succ_cons, List.take_zero, List.reverse_cons, List.reverse_nil, List.nil_append, List.cons_append, List.length_cons, List.length_nil, Nat.reduceAdd, Nat.reduceSub, Nat.reduceLeDiff, Bool.not_false, Bool.and_true, Bool.true_and, Nat.zero_add, true_and, and_true, Nat.le_refl, true_or, or_true, reduceCtorEq, Nat.add_zero, Nat.reduceLT, Bool.and_self, Bool.not_true, Fin.isValue, Nat.reduceLeDiff, List.take_nil, List.drop_nil, mm_i1, mm_i2, mm_i3, mm_i4, mm_i5, mm_i6, mm_i7, mm_i16, mm_i17, mm_i18, mm_i19, mm_i20, mm_i21, mm_i22, mm_i23, mm_l3, mm_l4, mm_l5, mm_l6, mm_l7, mm_l18, mm_l19, mm_l20, mm_l21, mm_l22, kdX1_dropStreet, ct_X1_dropStreet, flX1]
    have e4 : M 2 4 = n := by rw [hf 2 (by simp)]; exact hn
    rw [e4]
    exact ⟨⟨by omega, by omega⟩, ⟨by omega, by omega⟩, fun _ => hq M ⟨ht, hf, h1, fun j hj hj2 => h2 j hj (by omega)⟩, fun h => by omega⟩
  | succ k ih =>
    intro i M hi hsi ht hf h1 h2 h3
    refine mm_run_at (stop := [15]) (S := rr_X1_dropStreet Q) kkX1_dropStreet 60 ?_ (fun _ _ _ _ _ _ _ h => h)
    simp only [mm_wp, mm_op, mm_nxt, mm_jmp, mm_at, mm_in, mm_nth, mm_set, mm_ok, mm_isL, mm_ret, mm_isRet, mm_bool, mm_call, mm_push, mm_rv, mm_cats, mm_cat, mm_look, mm_ft, mm_fv, mm_pf, mm_thr, mm_ent, mm_pad, mm_fl, beq_self_eq_true, cond_true, cond_false, Nat.reduceBEq, Nat.reduceEqDiff, List.drop_succ_cons, List.drop_zero, List.take_succ_cons, List.take_zero, List.reverse_cons, List.reverse_nil, List.nil_append, List.cons_append, List.length_cons, List.length_nil, Nat.reduceAdd, Nat.reduceSub, Nat.reduceLeDiff, Bool.not_false, Bool.and_true, Bool.true_and, Nat.zero_add, true_and, and_true, Nat.le_refl, true_or, or_true, reduceCtorEq, Nat.add_zero, Nat.reduceLT, Bool.and_self, Bool.not_true, Fin.isValue, Nat.reduceLeDiff, List.take_nil, List.drop_nil, mm_i1, mm_i2, mm_i3, mm_i4, mm_i5, mm_i6, mm_i7, mm_i16, mm_i17, mm_i18, mm_i19, mm_i20, mm_i21, mm_i22, mm_i23, mm_l3, mm_l4, mm_l5, mm_l6, mm_l7, mm_l18, mm_l19, mm_l20, mm_l21, mm_l22, kdX1_dropStreet, ct_X1_dropStreet, flX1]
    have e4 : M 2 4 = n := by rw [hf 2 (by simp)]; exact hn
    have e5 : ((i : Int) + 1).toNat = i + 1 := by omega
    have e6 : ∀ v : Int, mm_up M 3 i v 4 = M 4 := fun v => by funext k; simp [mm_up]
    simp only [e4, e5, Int.toNat_natCast, e6]
    obtain ⟨t1, t2, t3, t4, t5⟩ := id ht
    have b1 := t2 (i + 1) (by omega)
    refine ⟨⟨by omega, by omega⟩, ⟨by omega, by omega⟩, fun h => by omega, fun _ => ⟨by omega, by omega, by omega, by omega, ?_⟩⟩
    refine ih (i + 1) (mm_up (mm_up M 3 i (M 3 (i + 1))) 4 i (M 4 (i + 1))) (by omega) (by omega) ⟨by simpa [mm_up] using t1, fun j hj => ?_, by simpa [mm_up] using t3, by simpa [mm_up] using t4, by simpa [mm_up] using t5⟩ ((hf.up (by simp)).up (by simp)) (fun j hj => ?_) (fun j hj hj2 => ?_) (fun j hj => ?_)
    · have b2 := t2 j hj
      simp only [mm_up]
      constructor <;> split <;> first | omega | simp_all
    · have := h1 j hj
      simp [mm_up, show j ≠ i by omega, this]
    · by_cases e : j = i
      · subst e
        have := h3 (j + 1) (by omega)
        simp [mm_up, this]
      · have := h2 j hj (by omega)
        simp [mm_up, e, this]
    · have := h3 j (by omega)
      simp [mm_up, show j ≠ i by omega, this]
set_option maxRecDepth 20000 in
theorem rn_X1_dropStreet : mm_RN flX1 ct_X1_dropStreet mm_x0 [] 0 0 3 kdX1_dropStreet sp_X1_dropStreet := by
  intro av M d Q h
  unfold sp_X1_dropStreet at h
  split at h
  · rename_i o s
    obtain ⟨rfl, ht, hs, hq⟩ := h
    obtain ⟨s, rfl⟩ := Int.eq_ofNat_of_zero_le hs.1
    have h1 := ht.1
    obtain ⟨n, hn⟩ := Int.eq_ofNat_of_zero_le h1.1
    refine ⟨Nat.le_of_ble_eq_true rfl, mm_run_at (stop := [15]) (S := rr_X1_dropStreet Q) kkX1_dropStreet 80 ?_ (fun _ _ _ _ _ _ _ h => h)⟩
    simp only [mm_wp, mm_op, mm_nxt, mm_jmp, mm_at, mm_in, mm_nth, mm_set, mm_ok, mm_isL, mm_ret, mm_isRet, mm_bool, mm_call, mm_push, mm_rv, mm_cats, mm_cat, mm_look, mm_ft, mm_fv, mm_pf, mm_thr, mm_ent, mm_pad, mm_fl, beq_self_eq_true, cond_true, cond_false, Nat.reduceBEq, Nat.reduceEqDiff, List.drop_succ_cons, List.drop_zero, List.take_succ_cons, List.take_zero, List.reverse_cons, List.reverse_nil, List.nil_append, List.cons_append, List.length_cons, List.length_nil, Nat.reduceAdd, Nat.reduceSub, Nat.reduceLeDiff, Bool.not_false, Bool.and_true, Bool.true_and, Nat.zero_add, true_and, and_true, Nat.le_refl, true_or, or_true, reduceCtorEq, Nat.add_zero, Nat.reduceLT, Bool.and_self, Bool.not_true, Fin.isValue, Nat.reduceLeDiff, List.take_nil, List.drop_nil, mm_i1, mm_i2, mm_i3, mm_i4, mm_i5, mm_i6, mm_i7, mm_i16, mm_i17, mm_i18, mm_i19, mm_i20, mm_i21, mm_i22, mm_i23, mm_l3, mm_l4, mm_l5, mm_l6, mm_l7, mm_l18, mm_l19, mm_l20, mm_l21, mm_l22, kdX1_dropStreet, ct_X1_dropStreet, flX1]
    rw [hn] at hs h1 ⊢
    refine ⟨⟨by omega, by omega⟩, fun h => by omega, fun _ => ⟨⟨by omega, by omega⟩, ⟨by omega, by omega⟩, fun _ => ?_, fun h => by omega⟩⟩
    refine lp_X1_dropStreet (n := n) (x2 := 0) (by omega) (by omega) hn (fun M' hM => hq _ ?_) (n - s - 1) s M (by omega) (Nat.le_refl _) ht fr.rf (fun _ _ => ⟨rfl, rfl⟩) (fun j a b => by omega) (fun _ _ => ⟨rfl, rfl⟩)
    obtain ⟨⟨t1, t2, t3, t4, t5⟩, q2, q3, q4⟩ := hM
    have e2 := q2 2 (by simp)
    refine ⟨⟨by simp [mm_up]; omega, by simpa [mm_up] using t2, by simpa [mm_up] using t3, by simpa [mm_up] using t4, by simpa [mm_up] using t5⟩, (q2.mono (by simp)).up (by simp), fun j hj => by simp [mm_up, hj, e2], by simp [mm_up, hn], fun i hi => by simpa [mm_up] using q3 i (by omega), fun i hi hi2 => by simpa [mm_up] using q4 i (by omega) (by omega)⟩
  · exact h.elim
theorem me_X1_dropStreet {l : Launch} (hl : l.stackTraces = false) : mm_Met l yX1_dropStreet cX1_dropStreet 3 none [] 6 100 0 sp_X1_dropStreet := mm_mt hl rn_X1_dropStreet ⟨by decide, rfl⟩ kkX1_dropStreet rfl ⟨by decide, by decide⟩ flkX1 (fun _ h => nomatch h) (trivial) (mm_xe0 _)
def sp_X1_swapEnds : mm_S := fun av M d Q => match av with
  | [.inr (.inr (.inl o))] =>  o = 2 ∧ tW M ∧ ∀ M', tW M' ∧ fr [3, 4] M M' ∧ (∀ i : Nat, i < M 2 4 → M' 3 i = M 4 i ∧ M' 4 i = M 3 i) → Q (.inl none) M' d
  | _ => False
def ct_X1_swapEnds : List (Nat × mm_Ca) := []
abbrev rr_X1_swapEnds (Q : mm_Q) := mm_run (mm_look flX1) (mm_look ct_X1_swapEnds) mm_x0 (mm_look ([] : List (Nat × Int))) (fun _ => none) 0 0 (fun _ _ => none) Q kdX1_swapEnds
set_option maxRecDepth 20000 in
theorem lp_X1_swapEnds {M0 : mm_M} {d : List Nat} {Q : mm_Q} {n : Nat} (h30 : n ≤ 30) (hn : M0 2 4 = n) (hq : ∀ M', tW M' ∧ fr [3, 4] M0 M' ∧ (∀ i : Nat, i < n → M' 3 i = M0 4 i ∧ M' 4 i = M0 3 i) → Q (.inl none) M' d) : ∀ (k i : Nat) (M : mm_M) (x2 : Option mm_V), i + k = n → tW M → fr [3, 4] M0 M → (∀ j : Nat, j < i → M 3 j = M0 4 j ∧ M 4 j = M0 3 j) → (∀ j : Nat, i ≤ j → M 3 j = M0 3 j ∧ M 4 j = M0 4 j) → rr_X1_swapEnds Q 2 [some (mm_R 2), some (mm_I i), x2] [] M d 0 := by
  intro k
  induction k with
  | zero =>
    intro i M x2 hi ht hf h1 h3
    refine mm_run_at (stop := [2]) (S := rr_X1_swapEnds Q) kkX1_swapEnds 60 ?_ (fun _ _ _ _ _ _ _ h => h)
    simp only [mm_wp, mm_op, mm_nxt, mm_jmp, mm_at, mm_in, mm_nth, mm_set, mm_ok, mm_isL, mm_ret, mm_isRet, mm_bool, mm_call, mm_push, mm_rv, mm_cats, mm_cat, mm_look, mm_ft, mm_fv, mm_pf, mm_thr, mm_ent, mm_pad, mm_fl, beq_self_eq_true, cond_true, cond_false, Nat.reduceBEq, Nat.reduceEqDiff, List.drop_succ_cons, List.drop_zero, List.take_succ_cons, List.take_zero, List.reverse_cons, List.reverse_nil, List.nil_append, List.cons_append, List.length_cons, List.length_nil, Nat.reduceAdd, Nat.reduceSub, Nat.reduceLeDiff, Bool.not_false, Bool.and_true, Bool.true_and, Nat.zero_add, true_and, and_true, Nat.le_refl, true_or, or_true, reduceCtorEq, Nat.add_zero, Nat.reduceLT, Bool.and_self, Bool.not_true, Fin.isValue, Nat.reduceLeDiff, List.take_nil, List.drop_nil, mm_i1, mm_i2, mm_i3, mm_i4, mm_i5, mm_i6, mm_i7, mm_i16, mm_i17, mm_i18, mm_i19, mm_i20, mm_i21, mm_i22, mm_i23, mm_l3, mm_l4, mm_l5, mm_l6, mm_l7, mm_l18, mm_l19, mm_l20, mm_l21, mm_l22, kdX1_swapEnds, ct_X1_swapEnds, flX1]
    have e4 : M 2 4 = n := by rw [hf 2 (by simp)]; exact hn
    rw [e4]
    exact ⟨⟨by omega, by omega⟩, ⟨by omega, by omega⟩, fun _ => hq M ⟨ht, hf, fun j hj => h1 j (by omega)⟩, fun h => by omega⟩
  | succ k ih =>
    intro i M x2 hi ht hf h1 h3
    refine mm_run_at (stop := [2]) (S := rr_X1_swapEnds Q) kkX1_swapEnds 60 ?_ (fun _ _ _ _ _ _ _ h => h)
    simp only [mm_wp, mm_op, mm_nxt, mm_jmp, mm_at, mm_in, mm_nth, mm_set, mm_ok, mm_isL, mm_ret, mm_isRet, mm_bool, mm_call, mm_push, mm_rv, mm_cats, mm_cat, mm_look, mm_ft, mm_fv, mm_pf, mm_thr, mm_ent, mm_pad, mm_fl, beq_self_eq_true, cond_true, cond_false, Nat.reduceBEq, Nat.reduceEqDiff, List.drop_succ_cons, List.drop_zero, List.take_succ_cons, List.take_zero, List.reverse_cons, List.reverse_nil, List.nil_append, List.cons_append, List.length_cons, List.length_nil, Nat.reduceAdd, Nat.reduceSub, Nat.reduceLeDiff, Bool.not_false, Bool.and_true, Bool.true_and, Nat.zero_add, true_and, and_true, Nat.le_refl, true_or, or_true, reduceCtorEq, Nat.add_zero, Nat.reduceLT, Bool.and_self, Bool.not_true, Fin.isValue, Nat.reduceLeDiff, List.take_nil, List.drop_nil, mm_i1, mm_i2, mm_i3, mm_i4, mm_i5, mm_i6, mm_i7, mm_i16, mm_i17, mm_i18, mm_i19, mm_i20, mm_i21, mm_i22, mm_i23, mm_l3, mm_l4, mm_l5, mm_l6, mm_l7, mm_l18, mm_l19, mm_l20, mm_l21, mm_l22, kdX1_swapEnds, ct_X1_swapEnds, flX1]
    have e4 : M 2 4 = n := by rw [hf 2 (by simp)]; exact hn
    have e6 : ∀ v : Int, mm_up M 3 i v 4 = M 4 := fun v => by funext k; simp [mm_up]
    simp only [e4, Int.toNat_natCast, e6]
    obtain ⟨t1, t2, t3, t4, t5⟩ := id ht
    have b1 := t2 i (by omega)
    refine ⟨⟨by omega, by omega⟩, ⟨by omega, by omega⟩, fun h => by omega, fun _ => ⟨by omega, by omega, by omega, by omega, ?_⟩⟩
    refine ih (i + 1) (mm_up (mm_up M 3 i (M 4 i)) 4 i (M 3 i)) _ (by omega) ⟨by simpa [mm_up] using t1, fun j hj => ?_, by simpa [mm_up] using t3, by simpa [mm_up] using t4, by simpa [mm_up] using t5⟩ ((hf.up (by simp)).up (by simp)) (fun j hj => ?_) (fun j hj => ?_)
    · have b2 := t2 j hj
      simp only [mm_up]
      constructor <;> split <;> first | omega | simp_all
    · by_cases e : j = i
      · subst e
        have := h3 j (by omega)
        simp [mm_up, this]
      · have := h1 j (by omega)
        simp [mm_up, e, this]
    · have := h3 j (by omega)
      simp [mm_up, show j ≠ i by omega, this]
set_option maxRecDepth 20000 in
theorem rn_X1_swapEnds : mm_RN flX1 ct_X1_swapEnds mm_x0 [] 0 0 3 kdX1_swapEnds sp_X1_swapEnds := by
  intro av M d Q h
  unfold sp_X1_swapEnds at h
  split at h
  · rename_i o
    obtain ⟨rfl, ht, hq⟩ := h
    have h1 := ht.1
    obtain ⟨n, hn⟩ := Int.eq_ofNat_of_zero_le h1.1
    refine ⟨Nat.le_of_ble_eq_true rfl, mm_run_at (stop := [2]) (S := rr_X1_swapEnds Q) kkX1_swapEnds 80 ?_ (fun _ _ _ _ _ _ _ h => h)⟩
    simp only [mm_wp, mm_op, mm_nxt, mm_jmp, mm_at, mm_in, mm_nth, mm_set, mm_ok, mm_isL, mm_ret, mm_isRet, mm_bool, mm_call, mm_push, mm_rv, mm_cats, mm_cat, mm_look, mm_ft, mm_fv, mm_pf, mm_thr, mm_ent, mm_pad, mm_fl, beq_self_eq_true, cond_true, cond_false, Nat.reduceBEq, Nat.reduceEqDiff, List.drop_succ_cons, List.drop_zero, List.take_succ_cons, List.take_zero, List.reverse_cons, List.reverse_nil, List.nil_append, List.cons_append, List.length_cons, List.length_nil, Nat.reduceAdd, Nat.reduceSub, Nat.reduceLeDiff, Bool.not_false, Bool.and_true, Bool.true_and, Nat.zero_add, true_and, and_true, Nat.le_refl, true_or, or_true, reduceCtorEq, Nat.add_zero, Nat.reduceLT, Bool.and_self, Bool.not_true, Fin.isValue, Nat.reduceLeDiff, List.take_nil, List.drop_nil, mm_i1, mm_i2, mm_i3, mm_i4, mm_i5, mm_i6, mm_i7, mm_i16, mm_i17, mm_i18, mm_i19, mm_i20, mm_i21, mm_i22, mm_i23, mm_l3, mm_l4, mm_l5, mm_l6, mm_l7, mm_l18, mm_l19, mm_l20, mm_l21, mm_l22, kdX1_swapEnds, ct_X1_swapEnds, flX1]
    exact lp_X1_swapEnds (n := n) (by omega) hn (fun M' h => hq M' ⟨h.1, h.2.1, fun i hi => h.2.2 i (by omega)⟩) n 0 M none (by omega) ht fr.rf (fun j hj => by omega) (fun _ _ => ⟨rfl, rfl⟩)
  · exact h.elim
theorem me_X1_swapEnds {l : Launch} (hl : l.stackTraces = false) : mm_Met l yX1_swapEnds cX1_swapEnds 3 none [] 6 100 0 sp_X1_swapEnds := mm_mt hl rn_X1_swapEnds ⟨by decide, rfl⟩ kkX1_swapEnds rfl ⟨by decide, by decide⟩ flkX1 (fun _ h => nomatch h) (trivial) (mm_xe0 _)

