/-! the class: isSound, digest -/
def sp_X3_numberOf : mm_S := fun av M d Q => match av with
  | [.inl f] =>  (f = 0 ∨ f = 1) ∧ ∀ r, (r = 0 ∨ r = 1) → Q (.inl (some (mm_I r))) M d
  | _ => False
def ct_X3_numberOf : List (Nat × mm_Ca) := []
abbrev rr_X3_numberOf (Q : mm_Q) := mm_run (mm_look flX3) (mm_look ct_X3_numberOf) mm_x0 (mm_look ([] : List (Nat × Int))) (fun _ => none) 1 0 (fun _ _ => none) Q kdX3_numberOf
set_option maxRecDepth 20000 in
theorem rn_X3_numberOf : mm_RN flX3 ct_X3_numberOf mm_x0 [] 1 0 1 kdX3_numberOf sp_X3_numberOf := by
  intro av M d Q h
  unfold sp_X3_numberOf at h
  split at h
  · rename_i f
    obtain ⟨h1, hq⟩ := h
    refine ⟨Nat.le_of_ble_eq_true rfl, mm_run_at (stop := []) (S := mm_F0) kkX3_numberOf 80 ?_ mm_F0h⟩
    simp only [mm_wp, mm_op, mm_nxt, mm_jmp, mm_at, mm_in, mm_nth, mm_set, mm_ok, mm_isL, mm_ret, mm_isRet, mm_bool, mm_call, mm_push, mm_rv, mm_cats, mm_cat, mm_look, mm_ft, mm_fv, mm_pf, mm_thr, mm_ent, mm_pad, mm_fl, beq_self_eq_true, cond_true, cond_false, Nat.reduceBEq, Nat.reduceEqDiff, List.drop_succ_cons, List.drop_zero, List.take_succ_cons, List.take_zero, List.reverse_cons, List.reverse_nil, List.nil_append, List.cons_append, List.length_cons, List.length_nil, Nat.reduceAdd, Nat.reduceSub, Nat.reduceLeDiff, Bool.not_false, Bool.and_true, Bool.true_and, Nat.zero_add, true_and, and_true, Nat.le_refl, true_or, or_true, reduceCtorEq, Nat.add_zero, Nat.reduceLT, Bool.and_self, Bool.not_true, Fin.isValue, Nat.reduceLeDiff, List.take_nil, List.drop_nil, mm_i1, mm_i2, mm_i3, mm_i4, mm_i5, mm_i6, mm_i7, mm_i16, mm_i17, mm_i18, mm_i19, mm_i20, mm_i21, mm_i22, mm_i23, mm_l3, mm_l4, mm_l5, mm_l6, mm_l7, mm_l18, mm_l19, mm_l20, mm_l21, mm_l22, kdX3_numberOf, ct_X3_numberOf, flX3]
    exact ⟨⟨by omega, by omega⟩, fun _ => hq _ (Or.inl rfl), fun _ => hq _ (Or.inr rfl)⟩
  · exact h.elim
theorem me_X3_numberOf {l : Launch} (hl : l.stackTraces = false) : mm_Met l yX3_numberOf cX3_numberOf 1 (some .int) [] 6 100 0 sp_X3_numberOf := mm_mt hl rn_X3_numberOf ⟨by decide, rfl⟩ kkX3_numberOf rfl ⟨by decide, by decide⟩ flkX3 (fun _ h => nomatch h) (trivial) (mm_xe0 _)
def sp_X3_mixed : mm_S := fun av M d Q => match av with
  | [.inr (.inl s), .inr (.inl v)] =>  ∀ r, Q (.inl (some (mm_L r))) M d
  | _ => False
def ct_X3_mixed : List (Nat × mm_Ca) := []
abbrev rr_X3_mixed (Q : mm_Q) := mm_run (mm_look flX3) (mm_look ct_X3_mixed) mm_x0 (mm_look ([(369, 31)] : List (Nat × Int))) (fun _ => none) 3 0 (fun _ _ => none) Q kdX3_mixed
set_option maxRecDepth 20000 in
theorem rn_X3_mixed : mm_RN flX3 ct_X3_mixed mm_x0 [(369, 31)] 3 0 4 kdX3_mixed sp_X3_mixed := by
  intro av M d Q h
  unfold sp_X3_mixed at h
  split at h
  · rename_i s v
    refine ⟨Nat.le_of_ble_eq_true rfl, mm_run_at (stop := []) (S := mm_F0) kkX3_mixed 80 ?_ mm_F0h⟩
    simp only [mm_wp, mm_op, mm_nxt, mm_jmp, mm_at, mm_in, mm_nth, mm_set, mm_ok, mm_isL, mm_ret, mm_isRet, mm_bool, mm_call, mm_push, mm_rv, mm_cats, mm_cat, mm_look, mm_ft, mm_fv, mm_pf, mm_thr, mm_ent, mm_pad, mm_fl, beq_self_eq_true, cond_true, cond_false, Nat.reduceBEq, Nat.reduceEqDiff, List.drop_succ_cons, List.drop_zero, List.take_succ_cons, List.take_zero, List.reverse_cons, List.reverse_nil, List.nil_append, List.cons_append, List.length_cons, List.length_nil, Nat.reduceAdd, Nat.reduceSub, Nat.reduceLeDiff, Bool.not_false, Bool.and_true, Bool.true_and, Nat.zero_add, true_and, and_true, Nat.le_refl, true_or, or_true, reduceCtorEq, Nat.add_zero, Nat.reduceLT, Bool.and_self, Bool.not_true, Fin.isValue, Nat.reduceLeDiff, List.take_nil, List.drop_nil, mm_i1, mm_i2, mm_i3, mm_i4, mm_i5, mm_i6, mm_i7, mm_i16, mm_i17, mm_i18, mm_i19, mm_i20, mm_i21, mm_i22, mm_i23, mm_l3, mm_l4, mm_l5, mm_l6, mm_l7, mm_l18, mm_l19, mm_l20, mm_l21, mm_l22, kdX3_mixed, ct_X3_mixed, flX3]
    exact h _
  · exact h.elim
theorem me_X3_mixed {l : Launch} (hl : l.stackTraces = false) : mm_Met l yX3_mixed cX3_mixed 4 (some .long) [] 6 100 0 sp_X3_mixed := mm_mt hl rn_X3_mixed ⟨by decide, rfl⟩ kkX3_mixed rfl ⟨by decide, by decide⟩ flkX3 ((by
  intro q hq
  simp only [List.mem_cons, List.not_mem_nil, or_false] at hq
  rcases hq with rfl
  · exact mm_T_U _ (mm_t2 188 rfl rfl))) (trivial) (mm_xe0 _)
def sp_X3_hasEachWordOnce : mm_S := fun av M d Q => match av with
  | [.inr (.inr (.inl o)), .inr (.inr (.inl w))] =>  o = 1 ∧ tW M ∧ isK w ∧ wV M w ∧ ∀ r, (r = 0 ∨ r = 1) → Q (.inl (some (mm_I r))) M d
  | _ => False
def ct_X3_hasEachWordOnce : List (Nat × mm_Ca) := [(237, (0, 1, 11, sp_X1_isOfWords, 0)), (92, (0, 1, 11, sp_X1_isOneWay, 0)), (55, (0, 1, 11, sp_X1_size, 0)), (260, (0, 3, 12, sp_X2_placeOfWord, 0))]
abbrev rr_X3_hasEachWordOnce (Q : mm_Q) := mm_run (mm_look flX3) (mm_look ct_X3_hasEachWordOnce) mm_x0 (mm_look ([] : List (Nat × Int))) (fun _ => none) 2 0 (fun _ _ => none) Q kdX3_hasEachWordOnce
set_option maxRecDepth 20000 in
theorem lp_X3_hasEachWordOnce {M : mm_M} {d : List Nat} {Q : mm_Q} {w n : Nat} (hk : isK w) (ht : tW M) (hv : wV M w) (hn : M 2 4 = n) (hq : ∀ r, (r = 0 ∨ r = 1) → Q (.inl (some (mm_I r))) M d) : ∀ (k i : Nat) (x3 : Option mm_V), i + k = n → rr_X3_hasEachWordOnce Q 24 [some (mm_R 1), some (mm_R w), some (mm_I i), x3] [] M d 0 := by
  have t1 := ht.1
  intro k
  induction k with
  | zero =>
    intro i x3 hi
    refine mm_run_at (stop := [24]) (S := rr_X3_hasEachWordOnce Q) kkX3_hasEachWordOnce 60 ?_ (fun _ _ _ _ _ _ _ h => h)
    simp only [mm_wp, mm_op, mm_nxt, mm_jmp, mm_at, mm_in, mm_nth, mm_set, mm_ok, mm_isL, mm_ret, mm_isRet, mm_bool, mm_call, mm_push, mm_rv, mm_cats, mm_cat, mm_look, mm_ft, mm_fv, mm_pf, mm_thr, mm_ent, mm_pad, mm_fl, beq_self_eq_true, cond_true, cond_false, Nat.reduceBEq, Nat.reduceEqDiff, List.drop_succ_cons, List.drop_zero, List.take_succ_cons, List.take_zero, List.reverse_cons, List.reverse_nil, List.nil_append, List.cons_append, List.length_cons, List.length_nil, Nat.reduceAdd, Nat.reduceSub, Nat.reduceLeDiff, Bool.not_false, Bool.and_true, Bool.true_and, Nat.zero_add, true_and, and_true, Nat.le_refl, true_or, or_true, reduceCtorEq, Nat.add_zero, Nat.reduceLT, Bool.and_self, Bool.not_true, Fin.isValue, Nat.reduceLeDiff, List.take_nil, List.drop_nil, mm_i1, mm_i2, mm_i3, mm_i4, mm_i5, mm_i6, mm_i7, mm_i16, mm_i17, mm_i18, mm_i19, mm_i20, mm_i21, mm_i22, mm_i23, mm_l3, mm_l4, mm_l5, mm_l6, mm_l7, mm_l18, mm_l19, mm_l20, mm_l21, mm_l22, kdX3_hasEachWordOnce, ct_X3_hasEachWordOnce, flX3, sp_X1_isOfWords, sp_X1_isOneWay, sp_X1_size, sp_X2_placeOfWord, wk_is hk, wk_mm hk]
    exact ⟨⟨by omega, by omega⟩, ⟨by omega, by omega⟩, fun _ => hq _ (Or.inr rfl), fun h => by omega⟩
  | succ k ih =>
    intro i x3 hi
    refine mm_run_at (stop := [24]) (S := rr_X3_hasEachWordOnce Q) kkX3_hasEachWordOnce 60 ?_ (fun _ _ _ _ _ _ _ h => h)
    simp only [mm_wp, mm_op, mm_nxt, mm_jmp, mm_at, mm_in, mm_nth, mm_set, mm_ok, mm_isL, mm_ret, mm_isRet, mm_bool, mm_call, mm_push, mm_rv, mm_cats, mm_cat, mm_look, mm_ft, mm_fv, mm_pf, mm_thr, mm_ent, mm_pad, mm_fl, beq_self_eq_true, cond_true, cond_false, Nat.reduceBEq, Nat.reduceEqDiff, List.drop_succ_cons, List.drop_zero, List.take_succ_cons, List.take_zero, List.reverse_cons, List.reverse_nil, List.nil_append, List.cons_append, List.length_cons, List.length_nil, Nat.reduceAdd, Nat.reduceSub, Nat.reduceLeDiff, Bool.not_false, Bool.and_true, Bool.true_and, Nat.zero_add, true_and, and_true, Nat.le_refl, true_or, or_true, reduceCtorEq, Nat.add_zero, Nat.reduceLT, Bool.and_self, Bool.not_true, Fin.isValue, Nat.reduceLeDiff, List.take_nil, List.drop_nil, mm_i1, mm_i2, mm_i3, mm_i4, mm_i5, mm_i6, mm_i7, mm_i16, mm_i17, mm_i18, mm_i19, mm_i20, mm_i21, mm_i22, mm_i23, mm_l3, mm_l4, mm_l5, mm_l6, mm_l7, mm_l18, mm_l19, mm_l20, mm_l21, mm_l22, kdX3_hasEachWordOnce, ct_X3_hasEachWordOnce, flX3, sp_X1_isOfWords, sp_X1_isOneWay, sp_X1_size, sp_X2_placeOfWord, wk_is hk, wk_mm hk]
    refine ⟨⟨by omega, by omega⟩, ⟨by omega, by omega⟩, fun h => by omega, fun _ => ⟨hk, ht, hv, by omega, by omega, fun r hr => ⟨⟨by omega, by omega⟩, fun _ => hq _ (Or.inl rfl), fun h => ⟨hk, ht, hv, by omega, by omega, fun r2 hr2 => ⟨⟨by omega, by omega⟩, fun _ => ih (i + 1) _ (by omega), fun _ => hq _ (Or.inl rfl)⟩⟩⟩⟩⟩
set_option maxRecDepth 20000 in
theorem rn_X3_hasEachWordOnce : mm_RN flX3 ct_X3_hasEachWordOnce mm_x0 [] 2 0 4 kdX3_hasEachWordOnce sp_X3_hasEachWordOnce := by
  intro av M d Q h
  unfold sp_X3_hasEachWordOnce at h
  split at h
  · rename_i o w
    obtain ⟨rfl, ht, hk, hv, hq⟩ := h
    have t1 := ht.1
    have t3 := ht.2.2.1
    obtain ⟨n, hn⟩ := Int.eq_ofNat_of_zero_le t1.1
    refine ⟨Nat.le_of_ble_eq_true rfl, mm_run_at (stop := [24]) (S := rr_X3_hasEachWordOnce Q) kkX3_hasEachWordOnce 80 ?_ (fun _ _ _ _ _ _ _ h => h)⟩
    simp only [mm_wp, mm_op, mm_nxt, mm_jmp, mm_at, mm_in, mm_nth, mm_set, mm_ok, mm_isL, mm_ret, mm_isRet, mm_bool, mm_call, mm_push, mm_rv, mm_cats, mm_cat, mm_look, mm_ft, mm_fv, mm_pf, mm_thr, mm_ent, mm_pad, mm_fl, beq_self_eq_true, cond_true, cond_false, Nat.reduceBEq, Nat.reduceEqDiff, List.drop_succ_cons, List.drop_zero, List.take_succ_cons, List.take_zero, List.reverse_cons, List.reverse_nil, List.nil_append, List.cons_append, List.length_cons, List.length_nil, Nat.reduceAdd, Nat.reduceSub, Nat.reduceLeDiff, Bool.not_false, Bool.and_true, Bool.true_and, Nat.zero_add, true_and, and_true, Nat.le_refl, true_or, or_true, reduceCtorEq, Nat.add_zero, Nat.reduceLT, Bool.and_self, Bool.not_true, Fin.isValue, Nat.reduceLeDiff, List.take_nil, List.drop_nil, mm_i1, mm_i2, mm_i3, mm_i4, mm_i5, mm_i6, mm_i7, mm_i16, mm_i17, mm_i18, mm_i19, mm_i20, mm_i21, mm_i22, mm_i23, mm_l3, mm_l4, mm_l5, mm_l6, mm_l7, mm_l18, mm_l19, mm_l20, mm_l21, mm_l22, kdX3_hasEachWordOnce, ct_X3_hasEachWordOnce, flX3, sp_X1_isOfWords, sp_X1_isOneWay, sp_X1_size, sp_X2_placeOfWord, wk_is hk, wk_mm hk]
    exact ⟨ht, fun r hr => ⟨inI2 (P := 0 < M 2 6) ⟨hr.1, fun h => hr.2 (by omega)⟩, fun _ => hq _ (Or.inr rfl), fun _ => ⟨ht, ⟨by omega, by omega⟩, fun _ => lp_X3_hasEachWordOnce hk ht hv hn hq n 0 none (by omega), fun _ => hq _ (Or.inr rfl)⟩⟩⟩
  · exact h.elim
theorem me_X3_hasEachWordOnce {l : Launch} (hl : l.stackTraces = false) : mm_Met l yX3_hasEachWordOnce cX3_hasEachWordOnce 4 (some .boolean) [] 9 169 0 sp_X3_hasEachWordOnce := mm_mt hl rn_X3_hasEachWordOnce ⟨by decide, rfl⟩ kkX3_hasEachWordOnce rfl ⟨by decide, by decide⟩ flkX3 (fun _ h => nomatch h) (⟨mm_pe (me_X1_isOfWords hl) mwX1_isOfWords (mm_t2 151 rfl rfl) (Nat.le_of_ble_eq_true rfl) (Nat.le_of_ble_eq_true rfl), mm_pe (me_X1_isOneWay hl) mwX1_isOneWay (mm_t1 171 rfl rfl) (Nat.le_of_ble_eq_true rfl) (Nat.le_of_ble_eq_true rfl), mm_pe (me_X1_size hl) mwX1_size (mm_t1 131 rfl rfl) (Nat.le_of_ble_eq_true rfl) (Nat.le_of_ble_eq_true rfl), mm_pe (me_X2_placeOfWord hl) mwX2_placeOfWord (mm_t2 155 rfl rfl) (Nat.le_of_ble_eq_true rfl) (Nat.le_of_ble_eq_true rfl), trivial⟩) (mm_xe0 _)
theorem in012 {r : Int} (h : r = 0 ∨ r = 1) : InI r := by rcases h with h | h <;> subst h <;> exact ⟨by omega, by omega⟩
/-- what asking leaves: but what nobody asks for -/
def qP (M M' : mm_M) : Prop := wA M' ∧ cF M M' ∧ M' 1 6 = M 1 6 ∧ fr [5, 6, 14, 15] M M'
theorem qP.c {M M' : mm_M} (h : qP M M') : cP M M' := ⟨h.1, h.2.1, h.2.2.1⟩
theorem qP.tr {M M' M'' : mm_M} (h : qP M M') (h2 : qP M' M'') : qP M M'' := ⟨h2.1, h.2.1.tr h2.2.1, h2.2.2.1.trans h.2.2.1, h.2.2.2.tr h2.2.2.2⟩
theorem wA.rfq {M : mm_M} (h : wA M) : qP M M := ⟨h, cF.rf, rfl, fr.rf⟩
theorem wA.sq {M M' : mm_M} (h : wA M) (hf : fr [5, 6] M M') : qP M M' := ⟨(h.s hf).1, (h.s hf).2.1, (h.s hf).2.2, hf.mono (by simp)⟩
theorem wA.xq {M M' : mm_M} (h : wA M) (hf : fr [14, 15, 5, 6] M M') : qP M M' := ⟨(h.x hf).1, (h.x hf).2.1, (h.x hf).2.2, hf.mono (by simp)⟩
theorem qP.se {M M' : mm_M} (h : qP M M') : SE M M' := .scr h.2.2.2
def sp_X3_isSound : mm_S := fun av M d Q => match av with
  | [.inr (.inr (.inl o))] =>  o = 1 ∧ wA M ∧ (∀ M' r, qP M M' ∧ (r = 0 ∨ r = 1) → Q (.inl (some (mm_I r))) M' d)
  | _ => False
def ct_X3_isSound : List (Nat × mm_Ca) := [(295, (0, 1, 12, sp_X2_isTrueWalk, 0)), (298, (0, 1, 10, sp_X3_kind, 0)), (132, (0, 1, 11, sp_X1_leastStart, 0)), (301, (0, 1, 11, sp_X1_waysAddUp, 0)), (150, (0, 2, 12, sp_X2_restart, 0)), (178, (0, 2, 12, sp_X2_fillUp, 0)), (218, (0, 1, 12, sp_X2_isWhole, 0)), (212, (0, 1, 12, sp_X2_isHome, 0)), (304, (0, 2, 10, sp_X3_hasEachWordOnce, 0))]
abbrev rr_X3_isSound (Q : mm_Q) := mm_run (mm_look flX3) (mm_look ct_X3_isSound) mm_x0 (mm_look ([] : List (Nat × Int))) (fun _ => none) 2 0 (fun _ _ => none) Q kdX3_isSound
set_option maxRecDepth 20000 in
theorem lp_X3_isSound {M : mm_M} {d : List Nat} {Q : mm_Q} (ha : wA M) (hq : ∀ M' r, qP M M' ∧ (r = 0 ∨ r = 1) → Q (.inl (some (mm_I r))) M' d) : ∀ (k i : Nat), i + k = 3 → rr_X3_isSound Q 2 [some (mm_R 1), some (mm_I i), none] [] M d 0 := by
  intro k
  induction k with
  | zero =>
    intro i hi
    have k14 : isK 14 := Or.inr (Or.inr (Or.inr rfl))
    refine mm_run_at (stop := [2]) (S := rr_X3_isSound Q) kkX3_isSound 80 ?_ (fun _ _ _ _ _ _ _ h => h)
    simp only [mm_wp, mm_op, mm_nxt, mm_jmp, mm_at, mm_in, mm_nth, mm_set, mm_ok, mm_isL, mm_ret, mm_isRet, mm_bool, mm_call, mm_push, mm_rv, mm_cats, mm_cat, mm_look, mm_ft, mm_fv, mm_pf, mm_thr, mm_ent, mm_pad, mm_fl, beq_self_eq_true, cond_true, cond_false, Nat.reduceBEq, Nat.reduceEqDiff, List.drop_succ_cons, List.drop_zero, List.take_succ_cons, List.take_zero, List.reverse_cons, List.reverse_nil, List.nil_append, List.cons_append, List.length_cons, List.length_nil, Nat.reduceAdd, Nat.reduceSub, Nat.reduceLeDiff, Bool.not_false, Bool.and_true, Bool.true_and, Nat.zero_add, true_and, and_true, Nat.le_refl, true_or, or_true, reduceCtorEq, Nat.add_zero, Nat.reduceLT, Bool.and_self, Bool.not_true, Fin.isValue, Nat.reduceLeDiff, List.take_nil, List.drop_nil, mm_i1, mm_i2, mm_i3, mm_i4, mm_i5, mm_i6, mm_i7, mm_i16, mm_i17, mm_i18, mm_i19, mm_i20, mm_i21, mm_i22, mm_i23, mm_l3, mm_l4, mm_l5, mm_l6, mm_l7, mm_l18, mm_l19, mm_l20, mm_l21, mm_l22, kdX3_isSound, ct_X3_isSound, flX3, sp_X2_isTrueWalk, sp_X3_kind, sp_X1_leastStart, sp_X1_waysAddUp, sp_X2_restart, sp_X2_fillUp, sp_X2_isWhole, sp_X2_isHome, sp_X3_hasEachWordOnce]
    refine ⟨⟨by omega, by omega⟩, ⟨by omega, by omega⟩, fun _ => ⟨ha, fun M1 r1 h1 => ?_⟩, fun h => by omega⟩
    have hP1 := ha.sq h1.1
    refine ⟨hP1.1.1, fun M2 r2 h2 => ⟨(hP1.1.sq h2.1).1.1, fun M3 h3 => ?_⟩⟩
    have hP2 := hP1.tr (hP1.1.sq h2.1)
    have hP3 := hP2.tr (hP2.1.sq h3)
    have h4 : ∀ r, (r = 0 ∨ r = 1) → Q (.inl (some (mm_I r))) M3 d := fun r hr => hq M3 r ⟨hP3, hr⟩
    have h40 := h4 0 (Or.inl rfl)
    have h41 := h4 1 (Or.inr rfl)
    have i0 : InI (0 : Int) := ⟨by omega, by omega⟩
    have i1 : InI (1 : Int) := ⟨by omega, by omega⟩
    have i2 : InI (2 : Int) := ⟨by omega, by omega⟩
    have ir1 : InI r1 := ⟨by omega, by omega⟩
    have ir2 : InI r2 := by rcases h2.2 with h | h <;> exact ⟨by omega, by omega⟩
    have main : 0 ≤ r2 → wV (mm_up (mm_up M3 14 2 0) 14 3 r2) 14 ∧ wD (mm_up (mm_up M3 14 2 0) 14 3 r2) 14 ∧ qP M (mm_up (mm_up M3 14 2 0) 14 3 r2) := fun h => by
      have hr : r2 < 10 := by rcases h2.2 with h9 | h9 <;> omega
      exact ⟨⟨by simp [mm_up], by simp [mm_up]; omega, fun j hj => by simp [mm_up] at hj; omega⟩, wD_0 (by simp [mm_up]), hP3.tr (hP3.1.xq ((fr.rf.up (by simp)).up (by simp)))⟩
    repeat' (first
      | assumption
      | exact wk_is k14 _ _
      | exact (main (by assumption)).1
      | exact (main (by assumption)).2.1
      | exact (main (by assumption)).2.2.1.1
      | exact inI2 (by assumption)
      | exact in012 (by assumption)
      | apply And.intro
      | (intro (h : fr _ _ _ ∧ _)
         have hP := (main (by assumption)).2.2.tr ((main (by assumption)).2.2.1.xq (h.1.mono (by simp)))
         have ht := hP.1.1
         have hv := h.2.1
         have q0 := hq _ 0 ⟨hP, Or.inl rfl⟩
         have q1 := hq _ 1 ⟨hP, Or.inr rfl⟩)
      | (intro _))
    all_goals omega
  | succ k ih =>
    intro i hi
    have hk3 : isW3 (8 + 2 * i) := by unfold isW3; omega
    have hk := hk3.k
    refine mm_run_at (stop := [2]) (S := rr_X3_isSound Q) kkX3_isSound 80 ?_ (fun _ _ _ _ _ _ _ h => h)
    simp only [mm_wp, mm_op, mm_nxt, mm_jmp, mm_at, mm_in, mm_nth, mm_set, mm_ok, mm_isL, mm_ret, mm_isRet, mm_bool, mm_call, mm_push, mm_rv, mm_cats, mm_cat, mm_look, mm_ft, mm_fv, mm_pf, mm_thr, mm_ent, mm_pad, mm_fl, beq_self_eq_true, cond_true, cond_false, Nat.reduceBEq, Nat.reduceEqDiff, List.drop_succ_cons, List.drop_zero, List.take_succ_cons, List.take_zero, List.reverse_cons, List.reverse_nil, List.nil_append, List.cons_append, List.length_cons, List.length_nil, Nat.reduceAdd, Nat.reduceSub, Nat.reduceLeDiff, Bool.not_false, Bool.and_true, Bool.true_and, Nat.zero_add, true_and, and_true, Nat.le_refl, true_or, or_true, reduceCtorEq, Nat.add_zero, Nat.reduceLT, Bool.and_self, Bool.not_true, Fin.isValue, Nat.reduceLeDiff, List.take_nil, List.drop_nil, mm_i1, mm_i2, mm_i3, mm_i4, mm_i5, mm_i6, mm_i7, mm_i16, mm_i17, mm_i18, mm_i19, mm_i20, mm_i21, mm_i22, mm_i23, mm_l3, mm_l4, mm_l5, mm_l6, mm_l7, mm_l18, mm_l19, mm_l20, mm_l21, mm_l22, kdX3_isSound, ct_X3_isSound, flX3, sp_X2_isTrueWalk, sp_X3_kind, sp_X1_leastStart, sp_X1_waysAddUp, sp_X2_restart, sp_X2_fillUp, sp_X2_isWhole, sp_X2_isHome, sp_X3_hasEachWordOnce, wk_is hk, Int.toNat_natCast]
    exact ⟨⟨by omega, by omega⟩, ⟨by omega, by omega⟩, fun h => by omega, fun _ => ⟨by omega, hk, ha.1, (ha.2.1 _ hk3).1, fun r hr => ⟨by rcases hr with h | h <;> subst h <;> exact ⟨by omega, by omega⟩, fun _ => ih (i + 1) (by omega), fun _ => hq M 0 ⟨ha.rfq, Or.inl rfl⟩⟩⟩⟩
set_option maxRecDepth 20000 in
theorem rn_X3_isSound : mm_RN flX3 ct_X3_isSound mm_x0 [] 2 0 3 kdX3_isSound sp_X3_isSound := by
  intro av M d Q h
  unfold sp_X3_isSound at h
  split at h
  · rename_i o
    obtain ⟨rfl, ha, hq⟩ := h
    refine ⟨Nat.le_of_ble_eq_true rfl, mm_run_at (stop := [2]) (S := rr_X3_isSound Q) kkX3_isSound 80 ?_ (fun _ _ _ _ _ _ _ h => h)⟩
    simp only [mm_wp, mm_op, mm_nxt, mm_jmp, mm_at, mm_in, mm_nth, mm_set, mm_ok, mm_isL, mm_ret, mm_isRet, mm_bool, mm_call, mm_push, mm_rv, mm_cats, mm_cat, mm_look, mm_ft, mm_fv, mm_pf, mm_thr, mm_ent, mm_pad, mm_fl, beq_self_eq_true, cond_true, cond_false, Nat.reduceBEq, Nat.reduceEqDiff, List.drop_succ_cons, List.drop_zero, List.take_succ_cons, List.take_zero, List.reverse_cons, List.reverse_nil, List.nil_append, List.cons_append, List.length_cons, List.length_nil, Nat.reduceAdd, Nat.reduceSub, Nat.reduceLeDiff, Bool.not_false, Bool.and_true, Bool.true_and, Nat.zero_add, true_and, and_true, Nat.le_refl, true_or, or_true, reduceCtorEq, Nat.add_zero, Nat.reduceLT, Bool.and_self, Bool.not_true, Fin.isValue, Nat.reduceLeDiff, List.take_nil, List.drop_nil, mm_i1, mm_i2, mm_i3, mm_i4, mm_i5, mm_i6, mm_i7, mm_i16, mm_i17, mm_i18, mm_i19, mm_i20, mm_i21, mm_i22, mm_i23, mm_l3, mm_l4, mm_l5, mm_l6, mm_l7, mm_l18, mm_l19, mm_l20, mm_l21, mm_l22, kdX3_isSound, ct_X3_isSound, flX3, sp_X2_isTrueWalk, sp_X3_kind, sp_X1_leastStart, sp_X1_waysAddUp, sp_X2_restart, sp_X2_fillUp, sp_X2_isWhole, sp_X2_isHome, sp_X3_hasEachWordOnce]
    exact lp_X3_isSound ha hq 3 0 (by omega)
  · exact h.elim
theorem me_X3_isSound {l : Launch} (hl : l.stackTraces = false) : mm_Met l yX3_isSound cX3_isSound 3 (some .boolean) [] 12 228 0 sp_X3_isSound := mm_mt hl rn_X3_isSound ⟨by decide, rfl⟩ kkX3_isSound rfl ⟨by decide, by decide⟩ flkX3 (fun _ h => nomatch h) (⟨mm_pe (me_X2_isTrueWalk hl) mwX2_isTrueWalk (mm_t2 94 rfl rfl) (Nat.le_of_ble_eq_true rfl) (Nat.le_of_ble_eq_true rfl), mm_pe (me_X3_kind hl) mwX3_kind (mm_t2 111 rfl rfl) (Nat.le_of_ble_eq_true rfl) (Nat.le_of_ble_eq_true rfl), mm_pe (me_X1_leastStart hl) mwX1_leastStart (mm_t2 20 rfl rfl) (Nat.le_of_ble_eq_true rfl) (Nat.le_of_ble_eq_true rfl), mm_pe (me_X1_waysAddUp hl) mwX1_waysAddUp (mm_t2 112 rfl rfl) (Nat.le_of_ble_eq_true rfl) (Nat.le_of_ble_eq_true rfl), mm_pe (me_X2_restart hl) mwX2_restart (mm_t1 147 rfl rfl) (Nat.le_of_ble_eq_true rfl) (Nat.le_of_ble_eq_true rfl), mm_pe (me_X2_fillUp hl) mwX2_fillUp (mm_t2 116 rfl rfl) (Nat.le_of_ble_eq_true rfl) (Nat.le_of_ble_eq_true rfl), mm_pe (me_X2_isWhole hl) mwX2_isWhole (mm_t2 138 rfl rfl) (Nat.le_of_ble_eq_true rfl) (Nat.le_of_ble_eq_true rfl), mm_pe (me_X2_isHome hl) mwX2_isHome (mm_t2 143 rfl rfl) (Nat.le_of_ble_eq_true rfl) (Nat.le_of_ble_eq_true rfl), mm_pe (me_X3_hasEachWordOnce hl) mwX3_hasEachWordOnce (mm_t2 147 rfl rfl) (Nat.le_of_ble_eq_true rfl) (Nat.le_of_ble_eq_true rfl), trivial⟩) (mm_xe0 _)
def sp_X3_numberAt : mm_S := fun av M d Q => match av with
  | [.inr (.inr (.inl o)), .inr (.inr (.inl w)), .inl p, .inl x] =>  o = 1 ∧ wA M ∧ isW3 w ∧ (0 ≤ x ∧ x ≤ 2) ∧ (0 ≤ p ∧ p ≤ M w 2) ∧ (x ≠ 0 → p < M w 2) ∧ ∀ r, (0 ≤ r ∧ r ≤ 60) → Q (.inl (some (mm_I r))) M d
  | _ => False
def ct_X3_numberAt : List (Nat × mm_Ca) := [(188, (0, 2, 12, sp_X2_cornerOf, 0)), (227, (0, 2, 12, sp_X2_stepOf, 0)), (363, (0, 2, 11, sp_X1_signOf, 0))]
abbrev rr_X3_numberAt (Q : mm_Q) := mm_run (mm_look flX3) (mm_look ct_X3_numberAt) mm_x0 (mm_look ([] : List (Nat × Int))) (fun _ => none) 1 0 (fun _ _ => none) Q kdX3_numberAt
set_option maxRecDepth 20000 in
theorem rn_X3_numberAt : mm_RN flX3 ct_X3_numberAt mm_x0 [] 1 0 5 kdX3_numberAt sp_X3_numberAt := by
  intro av M d Q h
  unfold sp_X3_numberAt at h
  split at h
  · rename_i o w p x
    obtain ⟨rfl, ha, hw, hx, hp, hp2, hq⟩ := h
    have hk := hw.k
    have hs := wk_is hk M d
    have hv := (ha.2.1 w hw).1
    have v1 := hv.1
    have t1 := ha.1.1
    have hip : InI p := ⟨by omega, by omega⟩
    have t4 := ha.1.2.2.2
    refine ⟨Nat.le_of_ble_eq_true rfl, mm_run_at (stop := []) (S := mm_F0) kkX3_numberAt 80 ?_ mm_F0h⟩
    simp only [mm_wp, mm_op, mm_nxt, mm_jmp, mm_at, mm_in, mm_nth, mm_set, mm_ok, mm_isL, mm_ret, mm_isRet, mm_bool, mm_call, mm_push, mm_rv, mm_cats, mm_cat, mm_look, mm_ft, mm_fv, mm_pf, mm_thr, mm_ent, mm_pad, mm_fl, beq_self_eq_true, cond_true, cond_false, Nat.reduceBEq, Nat.reduceEqDiff, List.drop_succ_cons, List.drop_zero, List.take_succ_cons, List.take_zero, List.reverse_cons, List.reverse_nil, List.nil_append, List.cons_append, List.length_cons, List.length_nil, Nat.reduceAdd, Nat.reduceSub, Nat.reduceLeDiff, Bool.not_false, Bool.and_true, Bool.true_and, Nat.zero_add, true_and, and_true, Nat.le_refl, true_or, or_true, reduceCtorEq, Nat.add_zero, Nat.reduceLT, Bool.and_self, Bool.not_true, Fin.isValue, Nat.reduceLeDiff, List.take_nil, List.drop_nil, mm_i1, mm_i2, mm_i3, mm_i4, mm_i5, mm_i6, mm_i7, mm_i16, mm_i17, mm_i18, mm_i19, mm_i20, mm_i21, mm_i22, mm_i23, mm_l3, mm_l4, mm_l5, mm_l6, mm_l7, mm_l18, mm_l19, mm_l20, mm_l21, mm_l22, kdX3_numberAt, ct_X3_numberAt, flX3, sp_X2_cornerOf, sp_X2_stepOf, sp_X1_signOf, wk_mm hk, tp1]
    refine ⟨⟨by omega, by omega⟩, fun h0 => ⟨hs, hk, ha.1, hv, hip, fun r hr => ?_⟩, fun h0 => ⟨hs, hk, ha.1, hv, hip, fun r hr => hq r ⟨by omega, by omega⟩⟩⟩
    have hs0 := hv.2.2 p.toNat (by omega)
    have er : r = M (w + 1) p.toNat := by
      rw [hr.1]
      unfold stp
      rw [if_pos (by omega)]
    refine ⟨⟨by omega, by omega⟩, by omega, ⟨by omega, by omega⟩, ⟨by omega, by omega⟩, fun h1 => ⟨ha.1, by omega, fun r1 hr1 => hq r1 ?_⟩, fun h1 => hq _ ⟨by omega, by omega⟩⟩
    by_cases h6 : 0 < M 2 6
    · have := (hr1.1 h6).2
      omega
    · have := hr1.2 (by omega)
      omega
  · exact h.elim
theorem me_X3_numberAt {l : Launch} (hl : l.stackTraces = false) : mm_Met l yX3_numberAt cX3_numberAt 5 (some .int) [] 9 164 0 sp_X3_numberAt := mm_mt hl rn_X3_numberAt ⟨by decide, rfl⟩ kkX3_numberAt rfl ⟨by decide, by decide⟩ flkX3 (fun _ h => nomatch h) (⟨mm_pe (me_X2_cornerOf hl) mwX2_cornerOf (mm_t4 35 rfl rfl) (Nat.le_of_ble_eq_true rfl) (Nat.le_of_ble_eq_true rfl), mm_pe (me_X2_stepOf hl) mwX2_stepOf (mm_t3 46 rfl rfl) (Nat.le_of_ble_eq_true rfl) (Nat.le_of_ble_eq_true rfl), mm_pe (me_X1_signOf hl) mwX1_signOf (mm_t5 78 rfl rfl) (Nat.le_of_ble_eq_true rfl) (Nat.le_of_ble_eq_true rfl), trivial⟩) (mm_xe0 _)

