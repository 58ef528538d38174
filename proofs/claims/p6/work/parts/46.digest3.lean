/-! the class: digest -/
def sp_X3_digestOfTown : mm_S := fun av M d Q => match av with
  | [.inr (.inr (.inl o)), .inr (.inl s)] =>  o = 1 ∧ wA M ∧ (∀ M' r, qP M M' → Q (.inl (some (mm_L r))) M' d)
  | _ => False
def ct_X3_digestOfTown : List (Nat × mm_Ca) := [(55, (0, 1, 11, sp_X1_size, 0)), (320, (1, 2, 0, sp_X3_mixed, 0)), (108, (0, 2, 11, sp_X1_fromOf, 0)), (105, (0, 2, 11, sp_X1_toOf, 0)), (111, (0, 2, 11, sp_X1_outOf, 0)), (114, (0, 2, 11, sp_X1_inOf, 0)), (117, (0, 1, 11, sp_X1_allStreets, 0)), (135, (0, 3, 11, sp_X1_isStartOf, 0)), (327, (1, 1, 0, sp_X3_numberOf, 0)), (129, (0, 1, 10, sp_X3_odd, 0)), (126, (0, 1, 10, sp_X3_hangs, 0)), (298, (0, 1, 10, sp_X3_kind, 0)), (139, (0, 1, 11, sp_X1_signCount, 0)), (142, (0, 1, 11, sp_X1_wordSize, 0)), (92, (0, 1, 11, sp_X1_isOneWay, 0))]
abbrev rr_X3_digestOfTown (Q : mm_Q) := mm_run (mm_look flX3) (mm_look ct_X3_digestOfTown) mm_x0 (mm_look ([] : List (Nat × Int))) (fun _ => none) 3 0 (fun _ _ => none) Q kdX3_digestOfTown
set_option maxRecDepth 20000 in
theorem lp2_X3_digestOfTown {M0 : mm_M} {d : List Nat} {Q : mm_Q} {s0 : Int} (hq : ∀ M' r, qP M0 M' → Q (.inl (some (mm_L r))) M' d) : ∀ (k i : Nat) (M : mm_M) (s : Int), i + k = 10 → qP M0 M → rr_X3_digestOfTown Q 67 [some (mm_R 1), some (mm_L s0), none, some (mm_L s), none, some (mm_I i)] [] M d 0 := by
  intro k
  induction k with
  | zero =>
    intro i M s hi hP
    refine mm_run_at (stop := [67]) (S := rr_X3_digestOfTown Q) kkX3_digestOfTown 90 ?_ (fun _ _ _ _ _ _ _ h => h)
    simp only [mm_wp, mm_op, mm_nxt, mm_jmp, mm_at, mm_in, mm_nth, mm_set, mm_ok, mm_isL, mm_ret, mm_isRet, mm_bool, mm_call, mm_push, mm_rv, mm_cats, mm_cat, mm_look, mm_ft, mm_fv, mm_pf, mm_thr, mm_ent, mm_pad, mm_fl, beq_self_eq_true, cond_true, cond_false, Nat.reduceBEq, Nat.reduceEqDiff, List.drop_succ_cons, List.drop_zero, List.take_succ_cons, List.take_zero, List.reverse_cons, List.reverse_nil, List.nil_append, List.cons_append, List.length_cons, List.length_nil, Nat.reduceAdd, Nat.reduceSub, Nat.reduceLeDiff, Bool.not_false, Bool.and_true, Bool.true_and, Nat.zero_add, true_and, and_true, Nat.le_refl, true_or, or_true, reduceCtorEq, Nat.add_zero, Nat.reduceLT, Bool.and_self, Bool.not_true, Fin.isValue, Nat.reduceLeDiff, List.take_nil, List.drop_nil, mm_i1, mm_i2, mm_i3, mm_i4, mm_i5, mm_i6, mm_i7, mm_i16, mm_i17, mm_i18, mm_i19, mm_i20, mm_i21, mm_i22, mm_i23, mm_l3, mm_l4, mm_l5, mm_l6, mm_l7, mm_l18, mm_l19, mm_l20, mm_l21, mm_l22, kdX3_digestOfTown, ct_X3_digestOfTown, flX3, sp_X1_size, sp_X3_mixed, sp_X1_fromOf, sp_X1_toOf, sp_X1_outOf, sp_X1_inOf, sp_X1_allStreets, sp_X1_isStartOf, sp_X3_numberOf, sp_X3_odd, sp_X3_hangs, sp_X3_kind, sp_X1_signCount, sp_X1_wordSize, sp_X1_isOneWay]
    refine ⟨by omega, ⟨by omega, by omega⟩, ⟨by omega, by omega⟩, fun _ => ?_, fun h => by omega⟩
    refine ⟨hP.1, fun M1 r1 h1 r2 => ?_⟩
    have hP1 := hP.1.sq h1.1
    refine ⟨by decide, hP1.1, fun r3 h3 => ⟨h3.1, fun r4 h4 r5 => ⟨by decide, hP1.1, fun M2 r6 h6 r7 => ?_⟩⟩⟩
    have hP2 := hP1.1.sq h6.1
    exact ⟨by decide, fun r8 => ⟨by decide, fun r9 => ⟨by decide, hP2.1.1, hP2.1.1.2.2.1, fun r10 h10 r11 => hq M2 r11 (hP.tr (hP1.tr hP2))⟩⟩⟩
  | succ k ih =>
    intro i M s hi hP
    refine mm_run_at (stop := [67]) (S := rr_X3_digestOfTown Q) kkX3_digestOfTown 90 ?_ (fun _ _ _ _ _ _ _ h => h)
    simp only [mm_wp, mm_op, mm_nxt, mm_jmp, mm_at, mm_in, mm_nth, mm_set, mm_ok, mm_isL, mm_ret, mm_isRet, mm_bool, mm_call, mm_push, mm_rv, mm_cats, mm_cat, mm_look, mm_ft, mm_fv, mm_pf, mm_thr, mm_ent, mm_pad, mm_fl, beq_self_eq_true, cond_true, cond_false, Nat.reduceBEq, Nat.reduceEqDiff, List.drop_succ_cons, List.drop_zero, List.take_succ_cons, List.take_zero, List.reverse_cons, List.reverse_nil, List.nil_append, List.cons_append, List.length_cons, List.length_nil, Nat.reduceAdd, Nat.reduceSub, Nat.reduceLeDiff, Bool.not_false, Bool.and_true, Bool.true_and, Nat.zero_add, true_and, and_true, Nat.le_refl, true_or, or_true, reduceCtorEq, Nat.add_zero, Nat.reduceLT, Bool.and_self, Bool.not_true, Fin.isValue, Nat.reduceLeDiff, List.take_nil, List.drop_nil, mm_i1, mm_i2, mm_i3, mm_i4, mm_i5, mm_i6, mm_i7, mm_i16, mm_i17, mm_i18, mm_i19, mm_i20, mm_i21, mm_i22, mm_i23, mm_l3, mm_l4, mm_l5, mm_l6, mm_l7, mm_l18, mm_l19, mm_l20, mm_l21, mm_l22, kdX3_digestOfTown, ct_X3_digestOfTown, flX3, sp_X1_size, sp_X3_mixed, sp_X1_fromOf, sp_X1_toOf, sp_X1_outOf, sp_X1_inOf, sp_X1_allStreets, sp_X1_isStartOf, sp_X3_numberOf, sp_X3_odd, sp_X3_hangs, sp_X3_kind, sp_X1_signCount, sp_X1_wordSize, sp_X1_isOneWay]
    refine ⟨by omega, ⟨by omega, by omega⟩, ⟨by omega, by omega⟩, fun h => by omega, fun _ => ?_⟩
    refine ⟨hP.1.1, by omega, fun M1 r1 h1 => ?_⟩
    have hP1 := hP.1.sq h1.1
    refine ⟨hP1.1.1, by omega, fun M2 r2 h2 r3 => ?_⟩
    have hP2 := hP1.1.sq h2.1
    refine ⟨by decide, hP2.1.1, by omega, fun M3 r4 h4 r5 => ?_⟩
    have hP3 := hP2.1.sq h4.1
    refine ⟨by decide, hP3.1.1, fun r6 h6 => ⟨hP3.1.1, h6.2, by omega, fun M4 r7 h7 => ⟨in01 h7.2, fun r8 h8 r9 => ⟨by decide, ?_⟩⟩⟩⟩
    have hP4 := hP3.1.sq h7.1
    exact ih (i + 1) M4 r9 (by omega) (hP.tr (hP1.tr (hP2.tr (hP3.tr hP4))))
set_option maxRecDepth 20000 in
theorem lp_X3_digestOfTown {M : mm_M} {d : List Nat} {Q : mm_Q} {s0 : Int} {n : Nat} (ha : wA M) (hn : M 2 4 = n) (hq : ∀ M' r, qP M M' → Q (.inl (some (mm_L r))) M' d) : ∀ (k i : Nat) (s : Int), i + k = n → rr_X3_digestOfTown Q 16 [some (mm_R 1), some (mm_L s0), none, some (mm_L s), none, some (mm_I i)] [] M d 0 := by
  have t1 := ha.1.1
  intro k
  induction k with
  | zero =>
    intro i s hi
    refine mm_run_at (stop := [16, 67]) (S := rr_X3_digestOfTown Q) kkX3_digestOfTown 90 ?_ (fun _ _ _ _ _ _ _ h => h)
    simp only [mm_wp, mm_op, mm_nxt, mm_jmp, mm_at, mm_in, mm_nth, mm_set, mm_ok, mm_isL, mm_ret, mm_isRet, mm_bool, mm_call, mm_push, mm_rv, mm_cats, mm_cat, mm_look, mm_ft, mm_fv, mm_pf, mm_thr, mm_ent, mm_pad, mm_fl, beq_self_eq_true, cond_true, cond_false, Nat.reduceBEq, Nat.reduceEqDiff, List.drop_succ_cons, List.drop_zero, List.take_succ_cons, List.take_zero, List.reverse_cons, List.reverse_nil, List.nil_append, List.cons_append, List.length_cons, List.length_nil, Nat.reduceAdd, Nat.reduceSub, Nat.reduceLeDiff, Bool.not_false, Bool.and_true, Bool.true_and, Nat.zero_add, true_and, and_true, Nat.le_refl, true_or, or_true, reduceCtorEq, Nat.add_zero, Nat.reduceLT, Bool.and_self, Bool.not_true, Fin.isValue, Nat.reduceLeDiff, List.take_nil, List.drop_nil, mm_i1, mm_i2, mm_i3, mm_i4, mm_i5, mm_i6, mm_i7, mm_i16, mm_i17, mm_i18, mm_i19, mm_i20, mm_i21, mm_i22, mm_i23, mm_l3, mm_l4, mm_l5, mm_l6, mm_l7, mm_l18, mm_l19, mm_l20, mm_l21, mm_l22, kdX3_digestOfTown, ct_X3_digestOfTown, flX3, sp_X1_size, sp_X3_mixed, sp_X1_fromOf, sp_X1_toOf, sp_X1_outOf, sp_X1_inOf, sp_X1_allStreets, sp_X1_isStartOf, sp_X3_numberOf, sp_X3_odd, sp_X3_hangs, sp_X3_kind, sp_X1_signCount, sp_X1_wordSize, sp_X1_isOneWay]
    exact ⟨⟨by omega, by omega⟩, ⟨by omega, by omega⟩, fun _ => lp2_X3_digestOfTown hq 10 0 M s (by omega) ha.rfq, fun h => by omega⟩
  | succ k ih =>
    intro i s hi
    refine mm_run_at (stop := [16, 67]) (S := rr_X3_digestOfTown Q) kkX3_digestOfTown 90 ?_ (fun _ _ _ _ _ _ _ h => h)
    simp only [mm_wp, mm_op, mm_nxt, mm_jmp, mm_at, mm_in, mm_nth, mm_set, mm_ok, mm_isL, mm_ret, mm_isRet, mm_bool, mm_call, mm_push, mm_rv, mm_cats, mm_cat, mm_look, mm_ft, mm_fv, mm_pf, mm_thr, mm_ent, mm_pad, mm_fl, beq_self_eq_true, cond_true, cond_false, Nat.reduceBEq, Nat.reduceEqDiff, List.drop_succ_cons, List.drop_zero, List.take_succ_cons, List.take_zero, List.reverse_cons, List.reverse_nil, List.nil_append, List.cons_append, List.length_cons, List.length_nil, Nat.reduceAdd, Nat.reduceSub, Nat.reduceLeDiff, Bool.not_false, Bool.and_true, Bool.true_and, Nat.zero_add, true_and, and_true, Nat.le_refl, true_or, or_true, reduceCtorEq, Nat.add_zero, Nat.reduceLT, Bool.and_self, Bool.not_true, Fin.isValue, Nat.reduceLeDiff, List.take_nil, List.drop_nil, mm_i1, mm_i2, mm_i3, mm_i4, mm_i5, mm_i6, mm_i7, mm_i16, mm_i17, mm_i18, mm_i19, mm_i20, mm_i21, mm_i22, mm_i23, mm_l3, mm_l4, mm_l5, mm_l6, mm_l7, mm_l18, mm_l19, mm_l20, mm_l21, mm_l22, kdX3_digestOfTown, ct_X3_digestOfTown, flX3, sp_X1_size, sp_X3_mixed, sp_X1_fromOf, sp_X1_toOf, sp_X1_outOf, sp_X1_inOf, sp_X1_allStreets, sp_X1_isStartOf, sp_X3_numberOf, sp_X3_odd, sp_X3_hangs, sp_X3_kind, sp_X1_signCount, sp_X1_wordSize, sp_X1_isOneWay]
    exact ⟨⟨by omega, by omega⟩, ⟨by omega, by omega⟩, fun h => by omega, fun _ => ⟨ha.1, by omega, fun r hr r2 => ⟨by decide, ha.1, by omega, fun r3 hr3 r4 => ⟨by decide, ih (i + 1) _ (by omega)⟩⟩⟩⟩
set_option maxRecDepth 20000 in
theorem rn_X3_digestOfTown : mm_RN flX3 ct_X3_digestOfTown mm_x0 [] 3 0 6 kdX3_digestOfTown sp_X3_digestOfTown := by
  intro av M d Q h
  unfold sp_X3_digestOfTown at h
  split at h
  · rename_i o s
    obtain ⟨rfl, ha, hq⟩ := h
    have t1 := ha.1.1
    obtain ⟨n, hn⟩ := Int.eq_ofNat_of_zero_le t1.1
    refine ⟨Nat.le_of_ble_eq_true rfl, mm_run_at (stop := [16]) (S := rr_X3_digestOfTown Q) kkX3_digestOfTown 80 ?_ (fun _ _ _ _ _ _ _ h => h)⟩
    simp only [mm_wp, mm_op, mm_nxt, mm_jmp, mm_at, mm_in, mm_nth, mm_set, mm_ok, mm_isL, mm_ret, mm_isRet, mm_bool, mm_call, mm_push, mm_rv, mm_cats, mm_cat, mm_look, mm_ft, mm_fv, mm_pf, mm_thr, mm_ent, mm_pad, mm_fl, beq_self_eq_true, cond_true, cond_false, Nat.reduceBEq, Nat.reduceEqDiff, List.drop_succ_cons, List.drop_zero, List.take_succ_cons, List.take_zero, List.reverse_cons, List.reverse_nil, List.nil_append, List.cons_append, List.length_cons, List.length_nil, Nat.reduceAdd, Nat.reduceSub, Nat.reduceLeDiff, Bool.not_false, Bool.and_true, Bool.true_and, Nat.zero_add, true_and, and_true, Nat.le_refl, true_or, or_true, reduceCtorEq, Nat.add_zero, Nat.reduceLT, Bool.and_self, Bool.not_true, Fin.isValue, Nat.reduceLeDiff, List.take_nil, List.drop_nil, mm_i1, mm_i2, mm_i3, mm_i4, mm_i5, mm_i6, mm_i7, mm_i16, mm_i17, mm_i18, mm_i19, mm_i20, mm_i21, mm_i22, mm_i23, mm_l3, mm_l4, mm_l5, mm_l6, mm_l7, mm_l18, mm_l19, mm_l20, mm_l21, mm_l22, kdX3_digestOfTown, ct_X3_digestOfTown, flX3, sp_X1_size, sp_X3_mixed, sp_X1_fromOf, sp_X1_toOf, sp_X1_outOf, sp_X1_inOf, sp_X1_allStreets, sp_X1_isStartOf, sp_X3_numberOf, sp_X3_odd, sp_X3_hangs, sp_X3_kind, sp_X1_signCount, sp_X1_wordSize, sp_X1_isOneWay]
    intro r
    refine ⟨by decide, ?_⟩
    exact lp_X3_digestOfTown ha hn hq n 0 r (by omega)
  · exact h.elim
theorem me_X3_digestOfTown {l : Launch} (hl : l.stackTraces = false) : mm_Met l yX3_digestOfTown cX3_digestOfTown 6 (some .long) [] 12 228 0 sp_X3_digestOfTown := mm_mt hl rn_X3_digestOfTown ⟨by decide, rfl⟩ kkX3_digestOfTown rfl ⟨by decide, by decide⟩ flkX3 (fun _ h => nomatch h) (⟨mm_pe (me_X1_size hl) mwX1_size (mm_t1 131 rfl rfl) (Nat.le_of_ble_eq_true rfl) (Nat.le_of_ble_eq_true rfl), mm_pe (me_X3_mixed hl) mwX3_mixed (mm_t2 185 rfl rfl) (Nat.le_of_ble_eq_true rfl) (Nat.le_of_ble_eq_true rfl), mm_pe (me_X1_fromOf hl) mwX1_fromOf (mm_t2 189 rfl rfl) (Nat.le_of_ble_eq_true rfl) (Nat.le_of_ble_eq_true rfl), mm_pe (me_X1_toOf hl) mwX1_toOf (mm_t2 190 rfl rfl) (Nat.le_of_ble_eq_true rfl) (Nat.le_of_ble_eq_true rfl), mm_pe (me_X1_outOf hl) mwX1_outOf (mm_t2 191 rfl rfl) (Nat.le_of_ble_eq_true rfl) (Nat.le_of_ble_eq_true rfl), mm_pe (me_X1_inOf hl) mwX1_inOf (mm_t2 195 rfl rfl) (Nat.le_of_ble_eq_true rfl) (Nat.le_of_ble_eq_true rfl), mm_pe (me_X1_allStreets hl) mwX1_allStreets (mm_t1 220 rfl rfl) (Nat.le_of_ble_eq_true rfl) (Nat.le_of_ble_eq_true rfl), mm_pe (me_X1_isStartOf hl) mwX1_isStartOf (mm_t2 199 rfl rfl) (Nat.le_of_ble_eq_true rfl) (Nat.le_of_ble_eq_true rfl), mm_pe (me_X3_numberOf hl) mwX3_numberOf (mm_t2 200 rfl rfl) (Nat.le_of_ble_eq_true rfl) (Nat.le_of_ble_eq_true rfl), mm_pe (me_X3_odd hl) mwX3_odd (mm_t2 19 rfl rfl) (Nat.le_of_ble_eq_true rfl) (Nat.le_of_ble_eq_true rfl), mm_pe (me_X3_hangs hl) mwX3_hangs (mm_t2 18 rfl rfl) (Nat.le_of_ble_eq_true rfl) (Nat.le_of_ble_eq_true rfl), mm_pe (me_X3_kind hl) mwX3_kind (mm_t2 111 rfl rfl) (Nat.le_of_ble_eq_true rfl) (Nat.le_of_ble_eq_true rfl), mm_pe (me_X1_signCount hl) mwX1_signCount (mm_t2 203 rfl rfl) (Nat.le_of_ble_eq_true rfl) (Nat.le_of_ble_eq_true rfl), mm_pe (me_X1_wordSize hl) mwX1_wordSize (mm_t2 204 rfl rfl) (Nat.le_of_ble_eq_true rfl) (Nat.le_of_ble_eq_true rfl), mm_pe (me_X1_isOneWay hl) mwX1_isOneWay (mm_t1 171 rfl rfl) (Nat.le_of_ble_eq_true rfl) (Nat.le_of_ble_eq_true rfl), trivial⟩) (mm_xe0 _)
def sp_X3_digestOfWalk : mm_S := fun av M d Q => match av with
  | [.inr (.inr (.inl o)), .inr (.inl s), .inl a] =>  o = 1 ∧ wA M ∧ (0 ≤ a ∧ a < 3) ∧ (∀ r, Q (.inl (some (mm_L r))) M d)
  | _ => False
def ct_X3_digestOfWalk : List (Nat × mm_Ca) := [(145, (0, 2, 10, sp_X3_walkOf, 1)), (149, (0, 1, 12, sp_X2_size, 0)), (320, (1, 2, 0, sp_X3_mixed, 0)), (175, (0, 1, 12, sp_X2_firstCorner, 0)), (366, (0, 1, 12, sp_X2_lastCorner, 0)), (227, (0, 2, 12, sp_X2_stepOf, 0)), (218, (0, 1, 12, sp_X2_isWhole, 0)), (327, (1, 1, 0, sp_X3_numberOf, 0)), (234, (0, 2, 12, sp_X2_turnTo, 0))]
abbrev rr_X3_digestOfWalk (Q : mm_Q) := mm_run (mm_look flX3) (mm_look ct_X3_digestOfWalk) mm_x0 (mm_look ([] : List (Nat × Int))) (fun _ => none) 3 2 (fun _ _ => none) Q kdX3_digestOfWalk
set_option maxRecDepth 20000 in
theorem lp_X3_digestOfWalk {M : mm_M} {d : List Nat} {Q : mm_Q} {s0 a : Int} {w v n : Nat} (ha : wA M) (hw : isW3 w) (hv : isW3 v) (hn : M w 2 = n) (hq : ∀ r, Q (.inl (some (mm_L r))) M d) : ∀ (k i : Nat) (s : Int), i + k = n → rr_X3_digestOfWalk Q 68 [some (mm_R 1), some (mm_L s0), none, some (mm_I a), some (mm_R w), some (mm_R v), some (mm_L s), none, some (mm_I i)] [] M d 2 := by
  have hkw := hw.k
  have hkv := hv.k
  have vw := (ha.2.1 w hw).1
  have vv := (ha.2.1 v hv).1
  have v1 := vw.1
  intro k
  induction k with
  | zero =>
    intro i s hi
    refine mm_run_at (stop := [68]) (S := rr_X3_digestOfWalk Q) kkX3_digestOfWalk 90 ?_ (fun _ _ _ _ _ _ _ h => h)
    simp only [mm_wp, mm_op, mm_nxt, mm_jmp, mm_at, mm_in, mm_nth, mm_set, mm_ok, mm_isL, mm_ret, mm_isRet, mm_bool, mm_call, mm_push, mm_rv, mm_cats, mm_cat, mm_look, mm_ft, mm_fv, mm_pf, mm_thr, mm_ent, mm_pad, mm_fl, beq_self_eq_true, cond_true, cond_false, Nat.reduceBEq, Nat.reduceEqDiff, List.drop_succ_cons, List.drop_zero, List.take_succ_cons, List.take_zero, List.reverse_cons, List.reverse_nil, List.nil_append, List.cons_append, List.length_cons, List.length_nil, Nat.reduceAdd, Nat.reduceSub, Nat.reduceLeDiff, Bool.not_false, Bool.and_true, Bool.true_and, Nat.zero_add, true_and, and_true, Nat.le_refl, true_or, or_true, reduceCtorEq, Nat.add_zero, Nat.reduceLT, Bool.and_self, Bool.not_true, Fin.isValue, Nat.reduceLeDiff, List.take_nil, List.drop_nil, mm_i1, mm_i2, mm_i3, mm_i4, mm_i5, mm_i6, mm_i7, mm_i16, mm_i17, mm_i18, mm_i19, mm_i20, mm_i21, mm_i22, mm_i23, mm_l3, mm_l4, mm_l5, mm_l6, mm_l7, mm_l18, mm_l19, mm_l20, mm_l21, mm_l22, kdX3_digestOfWalk, ct_X3_digestOfWalk, flX3, sp_X3_walkOf, sp_X2_size, sp_X3_mixed, sp_X2_firstCorner, sp_X2_lastCorner, sp_X2_stepOf, sp_X2_isWhole, sp_X3_numberOf, sp_X2_turnTo, wk_is hkw, wk_is hkv, wk_mm hkw, wk_mm hkv]
    exact ⟨hkw, ⟨by omega, by omega⟩, ⟨by omega, by omega⟩, fun _ => ⟨hkw, ha.1, vw, fun r hr => ⟨in01 (P := M w 2 = M 2 4) hr, fun r1 hr1 r2 => ⟨hkw, hkv, ha.1, vw, vv, fun r3 hr3 r4 => hq r4⟩⟩⟩, fun h => by omega⟩
  | succ k ih =>
    intro i s hi
    refine mm_run_at (stop := [68]) (S := rr_X3_digestOfWalk Q) kkX3_digestOfWalk 90 ?_ (fun _ _ _ _ _ _ _ h => h)
    simp only [mm_wp, mm_op, mm_nxt, mm_jmp, mm_at, mm_in, mm_nth, mm_set, mm_ok, mm_isL, mm_ret, mm_isRet, mm_bool, mm_call, mm_push, mm_rv, mm_cats, mm_cat, mm_look, mm_ft, mm_fv, mm_pf, mm_thr, mm_ent, mm_pad, mm_fl, beq_self_eq_true, cond_true, cond_false, Nat.reduceBEq, Nat.reduceEqDiff, List.drop_succ_cons, List.drop_zero, List.take_succ_cons, List.take_zero, List.reverse_cons, List.reverse_nil, List.nil_append, List.cons_append, List.length_cons, List.length_nil, Nat.reduceAdd, Nat.reduceSub, Nat.reduceLeDiff, Bool.not_false, Bool.and_true, Bool.true_and, Nat.zero_add, true_and, and_true, Nat.le_refl, true_or, or_true, reduceCtorEq, Nat.add_zero, Nat.reduceLT, Bool.and_self, Bool.not_true, Fin.isValue, Nat.reduceLeDiff, List.take_nil, List.drop_nil, mm_i1, mm_i2, mm_i3, mm_i4, mm_i5, mm_i6, mm_i7, mm_i16, mm_i17, mm_i18, mm_i19, mm_i20, mm_i21, mm_i22, mm_i23, mm_l3, mm_l4, mm_l5, mm_l6, mm_l7, mm_l18, mm_l19, mm_l20, mm_l21, mm_l22, kdX3_digestOfWalk, ct_X3_digestOfWalk, flX3, sp_X3_walkOf, sp_X2_size, sp_X3_mixed, sp_X2_firstCorner, sp_X2_lastCorner, sp_X2_stepOf, sp_X2_isWhole, sp_X3_numberOf, sp_X2_turnTo, wk_is hkw, wk_is hkv, wk_mm hkw, wk_mm hkv]
    exact ⟨hkw, ⟨by omega, by omega⟩, ⟨by omega, by omega⟩, fun h => by omega, fun _ => ⟨hkw, ha.1, vw, ⟨by omega, by omega⟩, fun r hr r2 => ih (i + 1) _ (by omega)⟩⟩
set_option maxRecDepth 20000 in
theorem rn_X3_digestOfWalk : mm_RN flX3 ct_X3_digestOfWalk mm_x0 [] 3 2 9 kdX3_digestOfWalk sp_X3_digestOfWalk := by
  intro av M d Q h
  unfold sp_X3_digestOfWalk at h
  split at h
  · rename_i o s a
    obtain ⟨rfl, ha, h1, hq⟩ := h
    have i3 : InI (3 : Int) := ⟨by omega, by omega⟩
    have i0 : InI (0 : Int) := ⟨by omega, by omega⟩
    have key : ∀ w v : Nat, isW3 w → isW3 v → mm_is M d w 12 ∧ isK w ∧ (Int → mm_is M d w 12 ∧ isK w ∧ (Int → mm_is M d w 12 ∧ isK w ∧ tW M ∧ wV M w ∧ ∀ r : Int, r = cor M w (M w 2) ∧ 0 ≤ r ∧ r < 10 → ∀ r : Int, rr_X3_digestOfWalk Q 68 [some (mm_R 1), some (mm_L s), none, some (mm_I a), some (mm_R w), some (mm_R v), some (mm_L r), none, some (mm_I 0)] [] M d 2)) := by
      intro w v hw hv
      have v1 := (ha.2.1 w hw).1.1
      obtain ⟨n, hn⟩ := Int.eq_ofNat_of_zero_le v1.1
      have his := wk_is hw.k M d
      exact ⟨his, hw.k, fun _ => ⟨his, hw.k, fun _ => ⟨his, hw.k, ha.1, (ha.2.1 w hw).1, fun _ _ r => lp_X3_digestOfWalk ha hw hv hn hq n 0 r (by omega)⟩⟩⟩
    refine ⟨Nat.le_of_ble_eq_true rfl, mm_run_at (stop := [68]) (S := rr_X3_digestOfWalk Q) kkX3_digestOfWalk 80 ?_ (fun _ _ _ _ _ _ _ h => h)⟩
    simp only [mm_wp, mm_op, mm_nxt, mm_jmp, mm_at, mm_in, mm_nth, mm_set, mm_ok, mm_isL, mm_ret, mm_isRet, mm_bool, mm_call, mm_push, mm_rv, mm_cats, mm_cat, mm_look, mm_ft, mm_fv, mm_pf, mm_thr, mm_ent, mm_pad, mm_fl, beq_self_eq_true, cond_true, cond_false, Nat.reduceBEq, Nat.reduceEqDiff, List.drop_succ_cons, List.drop_zero, List.take_succ_cons, List.take_zero, List.reverse_cons, List.reverse_nil, List.nil_append, List.cons_append, List.length_cons, List.length_nil, Nat.reduceAdd, Nat.reduceSub, Nat.reduceLeDiff, Bool.not_false, Bool.and_true, Bool.true_and, Nat.zero_add, true_and, and_true, Nat.le_refl, true_or, or_true, reduceCtorEq, Nat.add_zero, Nat.reduceLT, Bool.and_self, Bool.not_true, Fin.isValue, Nat.reduceLeDiff, List.take_nil, List.drop_nil, mm_i1, mm_i2, mm_i3, mm_i4, mm_i5, mm_i6, mm_i7, mm_i16, mm_i17, mm_i18, mm_i19, mm_i20, mm_i21, mm_i22, mm_i23, mm_l3, mm_l4, mm_l5, mm_l6, mm_l7, mm_l18, mm_l19, mm_l20, mm_l21, mm_l22, kdX3_digestOfWalk, ct_X3_digestOfWalk, flX3, sp_X3_walkOf, sp_X2_size, sp_X3_mixed, sp_X2_firstCorner, sp_X2_lastCorner, sp_X2_stepOf, sp_X2_isWhole, sp_X3_numberOf, sp_X2_turnTo]
    refine ⟨⟨by omega, by omega⟩, fun w c1 ew hw => ⟨⟨by omega, by omega⟩, i3, fun _ => ⟨i0, fun v c2 ev hv => key w v hw hv, fun h => by omega⟩, fun _ => ⟨⟨by omega, by omega⟩, fun v c2 ev hv => key w v hw hv, fun h => by omega⟩⟩, fun h => by omega⟩
  · exact h.elim
theorem me_X3_digestOfWalk {l : Launch} (hl : l.stackTraces = false) : mm_Met l yX3_digestOfWalk cX3_digestOfWalk 9 (some .long) [] 11 209 2 sp_X3_digestOfWalk := mm_mt hl rn_X3_digestOfWalk ⟨by decide, rfl⟩ kkX3_digestOfWalk rfl ⟨by decide, by decide⟩ flkX3 (fun _ h => nomatch h) (⟨mm_pe (me_X3_walkOf hl) mwX3_walkOf (mm_t2 209 rfl rfl) (Nat.le_of_ble_eq_true rfl) (Nat.le_of_ble_eq_true rfl), mm_pe (me_X2_size hl) mwX2_size (mm_t3 40 rfl rfl) (Nat.le_of_ble_eq_true rfl) (Nat.le_of_ble_eq_true rfl), mm_pe (me_X3_mixed hl) mwX3_mixed (mm_t2 185 rfl rfl) (Nat.le_of_ble_eq_true rfl) (Nat.le_of_ble_eq_true rfl), mm_pe (me_X2_firstCorner hl) mwX2_firstCorner (mm_t3 41 rfl rfl) (Nat.le_of_ble_eq_true rfl) (Nat.le_of_ble_eq_true rfl), mm_pe (me_X2_lastCorner hl) mwX2_lastCorner (mm_t3 45 rfl rfl) (Nat.le_of_ble_eq_true rfl) (Nat.le_of_ble_eq_true rfl), mm_pe (me_X2_stepOf hl) mwX2_stepOf (mm_t3 46 rfl rfl) (Nat.le_of_ble_eq_true rfl) (Nat.le_of_ble_eq_true rfl), mm_pe (me_X2_isWhole hl) mwX2_isWhole (mm_t2 138 rfl rfl) (Nat.le_of_ble_eq_true rfl) (Nat.le_of_ble_eq_true rfl), mm_pe (me_X3_numberOf hl) mwX3_numberOf (mm_t2 200 rfl rfl) (Nat.le_of_ble_eq_true rfl) (Nat.le_of_ble_eq_true rfl), mm_pe (me_X2_turnTo hl) mwX2_turnTo (mm_t3 47 rfl rfl) (Nat.le_of_ble_eq_true rfl) (Nat.le_of_ble_eq_true rfl), trivial⟩) (mm_xe0 _)
def sp_X3_digest : mm_S := fun av M d Q => match av with
  | [.inr (.inr (.inl o))] =>  o = 1 ∧ wA M ∧ (∀ M' r, qP M M' → Q (.inl (some (mm_L r))) M' d)
  | _ => False
def ct_X3_digest : List (Nat × mm_Ca) := [(309, (0, 2, 10, sp_X3_digestOfTown, 0)), (313, (0, 3, 10, sp_X3_digestOfWalk, 2)), (317, (0, 2, 10, sp_X3_cursorPlace, 0)), (320, (1, 2, 0, sp_X3_mixed, 0)), (324, (0, 2, 10, sp_X3_cursorCan, 0)), (327, (1, 1, 0, sp_X3_numberOf, 0)), (330, (0, 1, 10, sp_X3_isSound, 0))]
abbrev rr_X3_digest (Q : mm_Q) := mm_run (mm_look flX3) (mm_look ct_X3_digest) mm_x0 (mm_look ([(307, 7692)] : List (Nat × Int))) (fun _ => none) 3 6 (fun _ _ => none) Q kdX3_digest
set_option maxRecDepth 20000 in
theorem lp_X3_digest {M : mm_M} {d : List Nat} {Q : mm_Q} (ha : wA M) (hq : ∀ M' r, qP M M' → Q (.inl (some (mm_L r))) M' d) : ∀ (k i : Nat) (s : Int), i + k = 3 → rr_X3_digest Q 10 [some (mm_R 1), some (mm_L s), none, some (mm_I i)] [] M d (2 * i) := by
  intro k
  induction k with
  | zero =>
    intro i s hi
    refine mm_run_at (stop := [10]) (S := rr_X3_digest Q) kkX3_digest 90 ?_ (fun _ _ _ _ _ _ _ h => h)
    simp only [mm_wp, mm_op, mm_nxt, mm_jmp, mm_at, mm_in, mm_nth, mm_set, mm_ok, mm_isL, mm_ret, mm_isRet, mm_bool, mm_call, mm_push, mm_rv, mm_cats, mm_cat, mm_look, mm_ft, mm_fv, mm_pf, mm_thr, mm_ent, mm_pad, mm_fl, beq_self_eq_true, cond_true, cond_false, Nat.reduceBEq, Nat.reduceEqDiff, List.drop_succ_cons, List.drop_zero, List.take_succ_cons, List.take_zero, List.reverse_cons, List.reverse_nil, List.nil_append, List.cons_append, List.length_cons, List.length_nil, Nat.reduceAdd, Nat.reduceSub, Nat.reduceLeDiff, Bool.not_false, Bool.and_true, Bool.true_and, Nat.zero_add, true_and, and_true, Nat.le_refl, true_or, or_true, reduceCtorEq, Nat.add_zero, Nat.reduceLT, Bool.and_self, Bool.not_true, Fin.isValue, Nat.reduceLeDiff, List.take_nil, List.drop_nil, mm_i1, mm_i2, mm_i3, mm_i4, mm_i5, mm_i6, mm_i7, mm_i16, mm_i17, mm_i18, mm_i19, mm_i20, mm_i21, mm_i22, mm_i23, mm_l3, mm_l4, mm_l5, mm_l6, mm_l7, mm_l18, mm_l19, mm_l20, mm_l21, mm_l22, kdX3_digest, ct_X3_digest, flX3, sp_X3_digestOfTown, sp_X3_digestOfWalk, sp_X3_cursorPlace, sp_X3_mixed, sp_X3_cursorCan, sp_X3_numberOf, sp_X3_isSound]
    have hu : 2 * i ≤ 6 := by omega
    have hd1 : ((1 : Fin 4) : Nat) + 1 < 4 := by decide
    repeat' (first | assumption | exact (by decide) | exact And.right (by assumption) | exact And.left (by assumption) | exact hq _ _ (And.left (by assumption)) | apply And.intro | (intro _))
    all_goals omega
  | succ k ih =>
    intro i s hi
    refine mm_run_at (stop := [10]) (S := rr_X3_digest Q) kkX3_digest 90 ?_ (fun _ _ _ _ _ _ _ h => h)
    simp only [mm_wp, mm_op, mm_nxt, mm_jmp, mm_at, mm_in, mm_nth, mm_set, mm_ok, mm_isL, mm_ret, mm_isRet, mm_bool, mm_call, mm_push, mm_rv, mm_cats, mm_cat, mm_look, mm_ft, mm_fv, mm_pf, mm_thr, mm_ent, mm_pad, mm_fl, beq_self_eq_true, cond_true, cond_false, Nat.reduceBEq, Nat.reduceEqDiff, List.drop_succ_cons, List.drop_zero, List.take_succ_cons, List.take_zero, List.reverse_cons, List.reverse_nil, List.nil_append, List.cons_append, List.length_cons, List.length_nil, Nat.reduceAdd, Nat.reduceSub, Nat.reduceLeDiff, Bool.not_false, Bool.and_true, Bool.true_and, Nat.zero_add, true_and, and_true, Nat.le_refl, true_or, or_true, reduceCtorEq, Nat.add_zero, Nat.reduceLT, Bool.and_self, Bool.not_true, Fin.isValue, Nat.reduceLeDiff, List.take_nil, List.drop_nil, mm_i1, mm_i2, mm_i3, mm_i4, mm_i5, mm_i6, mm_i7, mm_i16, mm_i17, mm_i18, mm_i19, mm_i20, mm_i21, mm_i22, mm_i23, mm_l3, mm_l4, mm_l5, mm_l6, mm_l7, mm_l18, mm_l19, mm_l20, mm_l21, mm_l22, kdX3_digest, ct_X3_digest, flX3, sp_X3_digestOfTown, sp_X3_digestOfWalk, sp_X3_cursorPlace, sp_X3_mixed, sp_X3_cursorCan, sp_X3_numberOf, sp_X3_isSound]
    exact ⟨⟨by omega, by omega⟩, ⟨by omega, by omega⟩, fun h => by omega, fun _ => ⟨by omega, ha, by omega, fun r => ⟨by decide, ih (i + 1) _ (by omega)⟩⟩⟩
set_option maxRecDepth 20000 in
theorem rn_X3_digest : mm_RN flX3 ct_X3_digest mm_x0 [(307, 7692)] 3 6 4 kdX3_digest sp_X3_digest := by
  intro av M d Q h
  unfold sp_X3_digest at h
  split at h
  · rename_i o
    obtain ⟨rfl, ha, hq⟩ := h
    refine ⟨Nat.le_of_ble_eq_true rfl, mm_run_at (stop := [10]) (S := rr_X3_digest Q) kkX3_digest 80 ?_ (fun _ _ _ _ _ _ _ h => h)⟩
    simp only [mm_wp, mm_op, mm_nxt, mm_jmp, mm_at, mm_in, mm_nth, mm_set, mm_ok, mm_isL, mm_ret, mm_isRet, mm_bool, mm_call, mm_push, mm_rv, mm_cats, mm_cat, mm_look, mm_ft, mm_fv, mm_pf, mm_thr, mm_ent, mm_pad, mm_fl, beq_self_eq_true, cond_true, cond_false, Nat.reduceBEq, Nat.reduceEqDiff, List.drop_succ_cons, List.drop_zero, List.take_succ_cons, List.take_zero, List.reverse_cons, List.reverse_nil, List.nil_append, List.cons_append, List.length_cons, List.length_nil, Nat.reduceAdd, Nat.reduceSub, Nat.reduceLeDiff, Bool.not_false, Bool.and_true, Bool.true_and, Nat.zero_add, true_and, and_true, Nat.le_refl, true_or, or_true, reduceCtorEq, Nat.add_zero, Nat.reduceLT, Bool.and_self, Bool.not_true, Fin.isValue, Nat.reduceLeDiff, List.take_nil, List.drop_nil, mm_i1, mm_i2, mm_i3, mm_i4, mm_i5, mm_i6, mm_i7, mm_i16, mm_i17, mm_i18, mm_i19, mm_i20, mm_i21, mm_i22, mm_i23, mm_l3, mm_l4, mm_l5, mm_l6, mm_l7, mm_l18, mm_l19, mm_l20, mm_l21, mm_l22, kdX3_digest, ct_X3_digest, flX3, sp_X3_digestOfTown, sp_X3_digestOfWalk, sp_X3_cursorPlace, sp_X3_mixed, sp_X3_cursorCan, sp_X3_numberOf, sp_X3_isSound]
    exact ⟨ha, fun M1 r h => ⟨by decide, lp_X3_digest h.1 (fun M' r2 h2 => hq M' r2 (h.tr h2)) 3 0 r (by omega)⟩⟩
  · exact h.elim
theorem me_X3_digest {l : Launch} (hl : l.stackTraces = false) : mm_Met l yX3_digest cX3_digest 4 (some .long) [] 13 253 6 sp_X3_digest := mm_mt hl rn_X3_digest ⟨by decide, rfl⟩ kkX3_digest rfl ⟨by decide, by decide⟩ flkX3 ((by
  intro q hq
  simp only [List.mem_cons, List.not_mem_nil, or_false] at hq
  rcases hq with rfl
  · exact mm_T_U _ (mm_t2 180 rfl rfl))) (⟨mm_pe (me_X3_digestOfTown hl) mwX3_digestOfTown (mm_t2 181 rfl rfl) (Nat.le_of_ble_eq_true rfl) (Nat.le_of_ble_eq_true rfl), mm_pe (me_X3_digestOfWalk hl) mwX3_digestOfWalk (mm_t2 205 rfl rfl) (Nat.le_of_ble_eq_true rfl) (Nat.le_of_ble_eq_true rfl), mm_pe (me_X3_cursorPlace hl) mwX3_cursorPlace (mm_t3 56 rfl rfl) (Nat.le_of_ble_eq_true rfl) (Nat.le_of_ble_eq_true rfl), mm_pe (me_X3_mixed hl) mwX3_mixed (mm_t2 185 rfl rfl) (Nat.le_of_ble_eq_true rfl) (Nat.le_of_ble_eq_true rfl), mm_pe (me_X3_cursorCan hl) mwX3_cursorCan (mm_t3 57 rfl rfl) (Nat.le_of_ble_eq_true rfl) (Nat.le_of_ble_eq_true rfl), mm_pe (me_X3_numberOf hl) mwX3_numberOf (mm_t2 200 rfl rfl) (Nat.le_of_ble_eq_true rfl) (Nat.le_of_ble_eq_true rfl), mm_pe (me_X3_isSound hl) mwX3_isSound (mm_t3 58 rfl rfl) (Nat.le_of_ble_eq_true rfl) (Nat.le_of_ble_eq_true rfl), trivial⟩) (mm_xe0 _)

