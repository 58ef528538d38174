/-! the class's walks: all in order, turns, words -/
theorem frK {w : Nat} {M M' : mm_M} (h : fr [w, w + 1, 5, 6] M M') (hw : isK w) : M' 2 = M 2 ∧ M' 3 = M 3 ∧ M' 4 = M 4 := by
  have := wk_no hw
  exact ⟨h 2 (by simp; omega), h 3 (by simp; omega), h 4 (by simp; omega)⟩
theorem tWK {w : Nat} {M M' : mm_M} (ht : tW M) (h : fr [w, w + 1, 5, 6] M M') (hw : isK w) : tW M' := by
  have := wk_no hw
  exact ht.fr h (by simp; omega) (by simp; omega) (by simp; omega)
theorem wV5 {M M' : mm_M} {v : Nat} (h : wV M v) (hf : fr [5, 6] M M') (hv : isK v) : wV M' v := by
  have := wk_no hv
  exact h.to (hf v (by simp; omega)) (hf (v + 1) (by simp; omega)) (hf 2 (by simp))
def sp_X2_turnBy : mm_S := fun av M d Q => match av with
  | [.inr (.inr (.inl w)), .inl b] =>  isK w ∧ tW M ∧ wV M w ∧ wD M w ∧ (0 ≤ b ∧ b ≤ 100) ∧ ∀ M', fr [w, w + 1] M M' ∧ wV M' w ∧ wD M' w ∧ M' w 2 = M w 2 ∧ (∀ j : Nat, j < M' w 2 → ∃ i : Nat, i < M w 2 ∧ M' (w + 1) j = M (w + 1) i) → Q (.inl none) M' d
  | _ => False
def ct_X2_turnBy : List (Nat × mm_Ca) := [(66, (0, 2, 12, sp_X2_stepOf, 0)), (69, (0, 1, 12, sp_X2_takeOutFirst, 0)), (39, (0, 3, 12, sp_X2_putIn, 0))]
abbrev rr_X2_turnBy (Q : mm_Q) := mm_run (mm_look flX2) (mm_look ct_X2_turnBy) mm_x0 (mm_look ([] : List (Nat × Int))) (fun _ => none) 0 0 (fun _ _ => none) Q kdX2_turnBy
set_option maxRecDepth 20000 in
theorem lp_X2_turnBy {M0 : mm_M} {d : List Nat} {Q : mm_Q} {w : Nat} {b t : Int} (hw : isK w) (ht0 : tW M0) (h0 : 0 < M0 w 2) (hb : 0 ≤ t ∧ t ≤ 100) (hq : ∀ M', fr [w, w + 1] M0 M' ∧ wV M' w ∧ wD M' w ∧ M' w 2 = M0 w 2 ∧ (∀ j : Nat, j < M' w 2 → ∃ i : Nat, i < M0 w 2 ∧ M' (w + 1) j = M0 (w + 1) i) → Q (.inl none) M' d) : ∀ (k : Nat) (i : Int) (M : mm_M) (x4 : Option mm_V), t ≤ i + k → 0 ≤ i ∧ i ≤ 100 → fr [w, w + 1] M0 M → wV M w → M w 2 = M0 w 2 → wD M w → (∀ j : Nat, j < M w 2 → ∃ i : Nat, i < M0 w 2 ∧ M (w + 1) j = M0 (w + 1) i) → rr_X2_turnBy Q 17 [some (mm_R w), some (mm_I b), some (mm_I t), some (mm_I i), x4] [] M d 0 := by
  intro k
  induction k with
  | zero =>
    intro i M x4 hi hi2 hf h1 h2 hD hE
    refine mm_run_at (stop := [17]) (S := rr_X2_turnBy Q) kkX2_turnBy 60 ?_ (fun _ _ _ _ _ _ _ h => h)
    simp only [mm_wp, mm_op, mm_nxt, mm_jmp, mm_at, mm_in, mm_nth, mm_set, mm_ok, mm_isL, mm_ret, mm_isRet, mm_bool, mm_call, mm_push, mm_rv, mm_cats, mm_cat, mm_look, mm_ft, mm_fv, mm_pf, mm_thr, mm_ent, mm_pad, mm_fl, beq_self_eq_true, cond_true, cond_false, Nat.reduceBEq, Nat.reduceEqDiff, List.drop_succ_cons, List.drop_zero, List.take_succ_cons, List.take_zero, List.reverse_cons, List.reverse_nil, List.nil_append, List.cons_append, List.length_cons, List.length_nil, Nat.reduceAdd, Nat.reduceSub, Nat.reduceLeDiff, Bool.not_false, Bool.and_true, Bool.true_and, Nat.zero_add, true_and, and_true, Nat.le_refl, true_or, or_true, reduceCtorEq, Nat.add_zero, Nat.reduceLT, Bool.and_self, Bool.not_true, Fin.isValue, Nat.reduceLeDiff, List.take_nil, List.drop_nil, mm_i1, mm_i2, mm_i3, mm_i4, mm_i5, mm_i6, mm_i7, mm_i16, mm_i17, mm_i18, mm_i19, mm_i20, mm_i21, mm_i22, mm_i23, mm_l3, mm_l4, mm_l5, mm_l6, mm_l7, mm_l18, mm_l19, mm_l20, mm_l21, mm_l22, kdX2_turnBy, ct_X2_turnBy, flX2, sp_X2_stepOf, sp_X2_takeOutFirst, sp_X2_putIn, wk_is hw]
    exact ⟨⟨by omega, by omega⟩, ⟨by omega, by omega⟩, fun _ => hq M ⟨hf, h1, hD, h2, hE⟩, fun h => by omega⟩
  | succ k ih =>
    intro i M x4 hi hi2 hf h1 h2 hD hE
    have ht := tWk ht0 hf hw
    have v1 := h1.1
    refine mm_run_at (stop := [17]) (S := rr_X2_turnBy Q) kkX2_turnBy 60 ?_ (fun _ _ _ _ _ _ _ h => h)
    simp only [mm_wp, mm_op, mm_nxt, mm_jmp, mm_at, mm_in, mm_nth, mm_set, mm_ok, mm_isL, mm_ret, mm_isRet, mm_bool, mm_call, mm_push, mm_rv, mm_cats, mm_cat, mm_look, mm_ft, mm_fv, mm_pf, mm_thr, mm_ent, mm_pad, mm_fl, beq_self_eq_true, cond_true, cond_false, Nat.reduceBEq, Nat.reduceEqDiff, List.drop_succ_cons, List.drop_zero, List.take_succ_cons, List.take_zero, List.reverse_cons, List.reverse_nil, List.nil_append, List.cons_append, List.length_cons, List.length_nil, Nat.reduceAdd, Nat.reduceSub, Nat.reduceLeDiff, Bool.not_false, Bool.and_true, Bool.true_and, Nat.zero_add, true_and, and_true, Nat.le_refl, true_or, or_true, reduceCtorEq, Nat.add_zero, Nat.reduceLT, Bool.and_self, Bool.not_true, Fin.isValue, Nat.reduceLeDiff, List.take_nil, List.drop_nil, mm_i1, mm_i2, mm_i3, mm_i4, mm_i5, mm_i6, mm_i7, mm_i16, mm_i17, mm_i18, mm_i19, mm_i20, mm_i21, mm_i22, mm_i23, mm_l3, mm_l4, mm_l5, mm_l6, mm_l7, mm_l18, mm_l19, mm_l20, mm_l21, mm_l22, kdX2_turnBy, ct_X2_turnBy, flX2, sp_X2_stepOf, sp_X2_takeOutFirst, sp_X2_putIn, wk_is hw]
    refine ⟨⟨by omega, by omega⟩, ⟨by omega, by omega⟩, fun _ => hq M ⟨hf, h1, hD, h2, hE⟩, fun _ => ⟨hw, ht, h1, ⟨by omega, by omega⟩, fun r hr => ⟨hw, ht, h1, fun M1 h3 => ⟨hw, h3.2.1, ?_, ?_, fun M2 h4 => ?_⟩⟩⟩⟩
    · have := h3.2.1.1
      exact ⟨by omega, by omega⟩
    · rw [hr.1]
      unfold stp stO
      rw [if_pos (by omega), (h3.1.k hw).1]
      exact h1.2.2 _ (by omega)
    · have er : r = M (w + 1) 0 := by
        rw [hr.1]
        unfold stp
        rw [if_pos (by omega)]
        rfl
      have ho := tak_out (M := mm_up M w 3 (cor M w 1)) (hD.to2 (by simp [mm_up]) (by rw [mm_up_o _ (by omega)])) h3.2.2 ⟨by omega, by simp [mm_up]; omega⟩
      have hD1 : wD M1 w := tak_wD (M := mm_up M w 3 (cor M w 1)) (hD.to2 (by simp [mm_up]) (by rw [mm_up_o _ (by omega)])) h3.2.2
      rw [mm_up_o _ (show w + 1 ≠ w by omega)] at ho
      refine ih (i + 1) M2 _ (by omega) (by omega) (hf.tr (h3.1.tr h4.1)) h4.2.1 ?_ (put_wD hD1 (by rw [er]; exact ho) h4.2.2) (fun j hj => ?_)
      have e1 : M1 w 2 = M w 2 - 1 := by
        rcases h3.2.2 with h5 | h5
        · rw [h5.2.1]
          simp [mm_up]
        · exact absurd ⟨by omega, by simp [mm_up]; omega⟩ h5.1
      · rcases h4.2.2 with h5 | h5
        · rw [h5.2.1, e1]
          omega
        · exact absurd ⟨by omega, by omega, by omega⟩ h5.1
      rcases put_ix h4.2.2 j hj with ⟨b1, -⟩ | ⟨j', b0, b1, -⟩
      · rw [b1, er]
        exact hE 0 (by omega)
      · obtain ⟨j2, c0, c1, -⟩ := tak_ix h3.2.2 ⟨by omega, by simp [mm_up]; omega⟩ j' b0
        rw [b1, c1, mm_up_o _ (show w + 1 ≠ w by omega)]
        exact hE j2 (by simpa [mm_up] using c0)
set_option maxRecDepth 20000 in
theorem rn_X2_turnBy : mm_RN flX2 ct_X2_turnBy mm_x0 [] 0 0 5 kdX2_turnBy sp_X2_turnBy := by
  intro av M d Q h
  unfold sp_X2_turnBy at h
  split at h
  · rename_i w b
    obtain ⟨hw, ht, hv, hD, hb, hq⟩ := h
    have v1 := hv.1
    refine ⟨Nat.le_of_ble_eq_true rfl, mm_run_at (stop := [17]) (S := rr_X2_turnBy Q) kkX2_turnBy 80 ?_ (fun _ _ _ _ _ _ _ h => h)⟩
    simp only [mm_wp, mm_op, mm_nxt, mm_jmp, mm_at, mm_in, mm_nth, mm_set, mm_ok, mm_isL, mm_ret, mm_isRet, mm_bool, mm_call, mm_push, mm_rv, mm_cats, mm_cat, mm_look, mm_ft, mm_fv, mm_pf, mm_thr, mm_ent, mm_pad, mm_fl, beq_self_eq_true, cond_true, cond_false, Nat.reduceBEq, Nat.reduceEqDiff, List.drop_succ_cons, List.drop_zero, List.take_succ_cons, List.take_zero, List.reverse_cons, List.reverse_nil, List.nil_append, List.cons_append, List.length_cons, List.length_nil, Nat.reduceAdd, Nat.reduceSub, Nat.reduceLeDiff, Bool.not_false, Bool.and_true, Bool.true_and, Nat.zero_add, true_and, and_true, Nat.le_refl, true_or, or_true, reduceCtorEq, Nat.add_zero, Nat.reduceLT, Bool.and_self, Bool.not_true, Fin.isValue, Nat.reduceLeDiff, List.take_nil, List.drop_nil, mm_i1, mm_i2, mm_i3, mm_i4, mm_i5, mm_i6, mm_i7, mm_i16, mm_i17, mm_i18, mm_i19, mm_i20, mm_i21, mm_i22, mm_i23, mm_l3, mm_l4, mm_l5, mm_l6, mm_l7, mm_l18, mm_l19, mm_l20, mm_l21, mm_l22, kdX2_turnBy, ct_X2_turnBy, flX2, sp_X2_stepOf, sp_X2_takeOutFirst, sp_X2_putIn, wk_is hw]
    rw [Int.tmod_eq_emod_of_nonneg hb.1]
    refine ⟨⟨by omega, by omega⟩, fun h => ⟨⟨by omega, by omega⟩, ⟨by omega, by omega⟩, by omega, ?_⟩, fun h => hq M ⟨fr.rf, hv, hD, rfl, fun j hj => ⟨j, hj, rfl⟩⟩⟩
    have h2 := Int.emod_nonneg b (show M w 2 ≠ 0 by omega)
    have h3 := Int.emod_lt_of_pos b (show 0 < M w 2 by omega)
    exact lp_X2_turnBy hw ht (by omega) ⟨h2, by omega⟩ hq 100 0 M none (by omega) (by omega) fr.rf hv rfl hD (fun j hj => ⟨j, hj, rfl⟩)
  · exact h.elim
theorem me_X2_turnBy {l : Launch} (hl : l.stackTraces = false) : mm_Met l yX2_turnBy cX2_turnBy 5 none [] 10 184 0 sp_X2_turnBy := mm_mt hl rn_X2_turnBy ⟨by decide, rfl⟩ kkX2_turnBy rfl ⟨by decide, by decide⟩ flkX2 (fun _ h => nomatch h) (⟨mm_pe (me_X2_stepOf hl) mwX2_stepOf (mm_t3 239 rfl rfl) (Nat.le_of_ble_eq_true rfl) (Nat.le_of_ble_eq_true rfl), mm_pe (me_X2_takeOutFirst hl) mwX2_takeOutFirst (mm_t4 0 rfl rfl) (Nat.le_of_ble_eq_true rfl) (Nat.le_of_ble_eq_true rfl), mm_pe (me_X2_putIn hl) mwX2_putIn (mm_t2 134 rfl rfl) (Nat.le_of_ble_eq_true rfl) (Nat.le_of_ble_eq_true rfl), trivial⟩) (mm_xe0 _)
def sp_X2_fillInOrder : mm_S := fun av M d Q => match av with
  | [.inr (.inr (.inl w)), .inl up] =>  isK w ∧ tW M ∧ wV M w ∧ wD M w ∧ (up = 0 ∨ up = 1) ∧ ∀ M', fr [w, w + 1, 5, 6] M M' ∧ wV M' w ∧ wD M' w → Q (.inl none) M' d
  | _ => False
def ct_X2_fillInOrder : List (Nat × mm_Ca) := [(35, (0, 1, 11, sp_X1_size, 0)), (72, (0, 1, 12, sp_X2_notWalked, 0)), (54, (0, 1, 12, sp_X2_lastCorner, 0)), (100, (0, 5, 11, sp_X1_stepToWhole, 0)), (39, (0, 3, 12, sp_X2_putIn, 0))]
abbrev rr_X2_fillInOrder (Q : mm_Q) := mm_run (mm_look flX2) (mm_look ct_X2_fillInOrder) mm_x0 (mm_look ([] : List (Nat × Int))) (fun _ => none) 0 0 (fun _ _ => none) Q kdX2_fillInOrder
set_option maxRecDepth 20000 in
theorem lp_X2_fillInOrder {M0 : mm_M} {d : List Nat} {Q : mm_Q} {w : Nat} {up b : Int} (hw : isK w) (ht0 : tW M0) (hu : up = 0 ∨ up = 1) (hb : -1 ≤ b ∧ b ≤ M0 2 4) (hq : ∀ M', fr [w, w + 1, 5, 6] M0 M' ∧ wV M' w ∧ wD M' w → Q (.inl none) M' d) : ∀ (k : Nat) (i : Int) (M : mm_M) (x4 : Option mm_V), M0 2 4 ≤ i + k → 0 ≤ i ∧ i ≤ 31 → fr [w, w + 1, 5, 6] M0 M → wV M w → wD M w → rr_X2_fillInOrder Q 21 [some (mm_R w), some (mm_I up), some (mm_I b), some (mm_I i), x4] [] M d 0 := by
  have t1 := ht0.1
  intro k
  induction k with
  | zero =>
    intro i M x4 hi hi2 hf h1 hD
    have e := (frK hf hw).1
    refine mm_run_at (stop := [21]) (S := rr_X2_fillInOrder Q) kkX2_fillInOrder 60 ?_ (fun _ _ _ _ _ _ _ h => h)
    simp only [mm_wp, mm_op, mm_nxt, mm_jmp, mm_at, mm_in, mm_nth, mm_set, mm_ok, mm_isL, mm_ret, mm_isRet, mm_bool, mm_call, mm_push, mm_rv, mm_cats, mm_cat, mm_look, mm_ft, mm_fv, mm_pf, mm_thr, mm_ent, mm_pad, mm_fl, beq_self_eq_true, cond_true, cond_false, Nat.reduceBEq, Nat.reduceEqDiff, List.drop_succ_cons, List.drop_zero, List.take_succ_cons, List.take_zero, List.reverse_cons, List.reverse_nil, List.nil_append, List.cons_append, List.length_cons, List.length_nil, Nat.reduceAdd, Nat.reduceSub, Nat.reduceLeDiff, Bool.not_false, Bool.and_true, Bool.true_and, Nat.zero_add, true_and, and_true, Nat.le_refl, true_or, or_true, reduceCtorEq, Nat.add_zero, Nat.reduceLT, Bool.and_self, Bool.not_true, Fin.isValue, Nat.reduceLeDiff, List.take_nil, List.drop_nil, mm_i1, mm_i2, mm_i3, mm_i4, mm_i5, mm_i6, mm_i7, mm_i16, mm_i17, mm_i18, mm_i19, mm_i20, mm_i21, mm_i22, mm_i23, mm_l3, mm_l4, mm_l5, mm_l6, mm_l7, mm_l18, mm_l19, mm_l20, mm_l21, mm_l22, kdX2_fillInOrder, ct_X2_fillInOrder, flX2, sp_X1_size, sp_X2_notWalked, sp_X2_lastCorner, sp_X1_stepToWhole, sp_X2_putIn, wk_is hw]
    rw [e]
    exact ⟨⟨by omega, by omega⟩, ⟨by omega, by omega⟩, fun _ => hq M ⟨hf, h1, hD⟩, fun h => by omega⟩
  | succ k ih =>
    intro i M x4 hi hi2 hf h1 hD
    have e := (frK hf hw).1
    have ht := tWK ht0 hf hw
    have v1 := h1.1
    have t2 := ht.1
    refine mm_run_at (stop := [21]) (S := rr_X2_fillInOrder Q) kkX2_fillInOrder 60 ?_ (fun _ _ _ _ _ _ _ h => h)
    simp only [mm_wp, mm_op, mm_nxt, mm_jmp, mm_at, mm_in, mm_nth, mm_set, mm_ok, mm_isL, mm_ret, mm_isRet, mm_bool, mm_call, mm_push, mm_rv, mm_cats, mm_cat, mm_look, mm_ft, mm_fv, mm_pf, mm_thr, mm_ent, mm_pad, mm_fl, beq_self_eq_true, cond_true, cond_false, Nat.reduceBEq, Nat.reduceEqDiff, List.drop_succ_cons, List.drop_zero, List.take_succ_cons, List.take_zero, List.reverse_cons, List.reverse_nil, List.nil_append, List.cons_append, List.length_cons, List.length_nil, Nat.reduceAdd, Nat.reduceSub, Nat.reduceLeDiff, Bool.not_false, Bool.and_true, Bool.true_and, Nat.zero_add, true_and, and_true, Nat.le_refl, true_or, or_true, reduceCtorEq, Nat.add_zero, Nat.reduceLT, Bool.and_self, Bool.not_true, Fin.isValue, Nat.reduceLeDiff, List.take_nil, List.drop_nil, mm_i1, mm_i2, mm_i3, mm_i4, mm_i5, mm_i6, mm_i7, mm_i16, mm_i17, mm_i18, mm_i19, mm_i20, mm_i21, mm_i22, mm_i23, mm_l3, mm_l4, mm_l5, mm_l6, mm_l7, mm_l18, mm_l19, mm_l20, mm_l21, mm_l22, kdX2_fillInOrder, ct_X2_fillInOrder, flX2, sp_X1_size, sp_X2_notWalked, sp_X2_lastCorner, sp_X1_stepToWhole, sp_X2_putIn, wk_is hw]
    rw [e]
    refine ⟨⟨by omega, by omega⟩, ⟨by omega, by omega⟩, fun _ => hq M ⟨hf, h1, hD⟩, fun _ => ⟨hw, ht, h1, fun r hr => ⟨hw, ht, h1, fun r2 hr2 => ⟨ht, hr.2, ⟨by omega, by omega⟩, hb, hu, fun M1 r3 h3 => ⟨?_, fun h4 => ?_, fun h4 => ?_⟩⟩⟩⟩⟩
    · have := h3.2.2
      exact ⟨by omega, by omega⟩
    · have h6 := wV5 h1 h3.1 hw
      have h7 := h6.1
      have e3 : M1 2 = M 2 := h3.1 2 (by simp)
      refine ⟨hw, h6, ⟨by omega, by omega⟩, ⟨h4, by rw [e3, e]; exact h3.2.2.2.1⟩, fun M2 h5 => ih (i + 1) M2 _ (by omega) (by omega) (hf.tr ((h3.1.mono (by simp)).tr (h5.1.mono (by simp)))) h5.2.1 (put_wD (wD5 hD h3.1 hw) ?_ h5.2.2)⟩
      have hl : lft M w r := by rw [hr.1]; exact nwk_lft ht h1
      have hN := lft_r hl (by omega) (h3.2.2.2.2 h4)
      have hz := wk_no hw
      exact hN.to (h3.1 w (by simp; omega)) (h3.1 (w + 1) (by simp; omega))
    · exact hq M1 ⟨hf.tr (h3.1.mono (by simp)), wV5 h1 h3.1 hw, wD5 hD h3.1 hw⟩
set_option maxRecDepth 20000 in
theorem rn_X2_fillInOrder : mm_RN flX2 ct_X2_fillInOrder mm_x0 [] 0 0 5 kdX2_fillInOrder sp_X2_fillInOrder := by
  intro av M d Q h
  unfold sp_X2_fillInOrder at h
  split at h
  · rename_i w up
    obtain ⟨hw, ht, hv, hD, hu, hq⟩ := h
    have v1 := hv.1
    have t1 := ht.1
    refine ⟨Nat.le_of_ble_eq_true rfl, mm_run_at (stop := [21]) (S := rr_X2_fillInOrder Q) kkX2_fillInOrder 80 ?_ (fun _ _ _ _ _ _ _ h => h)⟩
    simp only [mm_wp, mm_op, mm_nxt, mm_jmp, mm_at, mm_in, mm_nth, mm_set, mm_ok, mm_isL, mm_ret, mm_isRet, mm_bool, mm_call, mm_push, mm_rv, mm_cats, mm_cat, mm_look, mm_ft, mm_fv, mm_pf, mm_thr, mm_ent, mm_pad, mm_fl, beq_self_eq_true, cond_true, cond_false, Nat.reduceBEq, Nat.reduceEqDiff, List.drop_succ_cons, List.drop_zero, List.take_succ_cons, List.take_zero, List.reverse_cons, List.reverse_nil, List.nil_append, List.cons_append, List.length_cons, List.length_nil, Nat.reduceAdd, Nat.reduceSub, Nat.reduceLeDiff, Bool.not_false, Bool.and_true, Bool.true_and, Nat.zero_add, true_and, and_true, Nat.le_refl, true_or, or_true, reduceCtorEq, Nat.add_zero, Nat.reduceLT, Bool.and_self, Bool.not_true, Fin.isValue, Nat.reduceLeDiff, List.take_nil, List.drop_nil, mm_i1, mm_i2, mm_i3, mm_i4, mm_i5, mm_i6, mm_i7, mm_i16, mm_i17, mm_i18, mm_i19, mm_i20, mm_i21, mm_i22, mm_i23, mm_l3, mm_l4, mm_l5, mm_l6, mm_l7, mm_l18, mm_l19, mm_l20, mm_l21, mm_l22, kdX2_fillInOrder, ct_X2_fillInOrder, flX2, sp_X1_size, sp_X2_notWalked, sp_X2_lastCorner, sp_X1_stepToWhole, sp_X2_putIn, wk_is hw]
    refine ⟨⟨by omega, by omega⟩, fun h => ?_, fun h => ?_⟩
    · exact lp_X2_fillInOrder hw ht hu (by omega) hq 30 _ M none (by omega) (by omega) fr.rf hv hD
    · exact lp_X2_fillInOrder hw ht hu (by omega) hq 30 _ M none (by omega) (by omega) fr.rf hv hD
  · exact h.elim
theorem me_X2_fillInOrder {l : Launch} (hl : l.stackTraces = false) : mm_Met l yX2_fillInOrder cX2_fillInOrder 5 none [] 11 214 0 sp_X2_fillInOrder := mm_mt hl rn_X2_fillInOrder ⟨by decide, rfl⟩ kkX2_fillInOrder rfl ⟨by decide, by decide⟩ flkX2 (fun _ h => nomatch h) (⟨mm_pe (me_X1_size hl) mwX1_size (mm_t2 142 rfl rfl) (Nat.le_of_ble_eq_true rfl) (Nat.le_of_ble_eq_true rfl), mm_pe (me_X2_notWalked hl) mwX2_notWalked (mm_t2 124 rfl rfl) (Nat.le_of_ble_eq_true rfl) (Nat.le_of_ble_eq_true rfl), mm_pe (me_X2_lastCorner hl) mwX2_lastCorner (mm_t1 187 rfl rfl) (Nat.le_of_ble_eq_true rfl) (Nat.le_of_ble_eq_true rfl), mm_pe (me_X1_stepToWhole hl) mwX1_stepToWhole (mm_t4 102 rfl rfl) (Nat.le_of_ble_eq_true rfl) (Nat.le_of_ble_eq_true rfl), mm_pe (me_X2_putIn hl) mwX2_putIn (mm_t2 134 rfl rfl) (Nat.le_of_ble_eq_true rfl) (Nat.le_of_ble_eq_true rfl), trivial⟩) (mm_xe0 _)
def sp_X2_becomeNeighbour : mm_S := fun av M d Q => match av with
  | [.inr (.inr (.inl w)), .inl up] =>  isK w ∧ tW M ∧ wV M w ∧ wD M w ∧ (up = 0 ∨ up = 1) ∧ ∀ M' r, fr [w, w + 1, 5, 6] M M' ∧ wV M' w ∧ wD M' w ∧ -1 ≤ r ∧ r ≤ 30 → Q (.inl (some (mm_I r))) M' d
  | _ => False
def ct_X2_becomeNeighbour : List (Nat × mm_Ca) := [(104, (0, 2, 12, sp_X2_stepBack, 0)), (72, (0, 1, 12, sp_X2_notWalked, 0)), (54, (0, 1, 12, sp_X2_lastCorner, 0)), (100, (0, 5, 11, sp_X1_stepToWhole, 0)), (39, (0, 3, 12, sp_X2_putIn, 0)), (108, (0, 2, 12, sp_X2_fillInOrder, 0))]
abbrev rr_X2_becomeNeighbour (Q : mm_Q) := mm_run (mm_look flX2) (mm_look ct_X2_becomeNeighbour) mm_x0 (mm_look ([] : List (Nat × Int))) (fun _ => none) 1 0 (fun _ _ => none) Q kdX2_becomeNeighbour
set_option maxRecDepth 20000 in
theorem lp_X2_becomeNeighbour {M0 : mm_M} {d : List Nat} {Q : mm_Q} {w : Nat} {up : Int} (hw : isK w) (ht0 : tW M0) (hu : up = 0 ∨ up = 1) (hq : ∀ M' r, fr [w, w + 1, 5, 6] M0 M' ∧ wV M' w ∧ wD M' w ∧ -1 ≤ r ∧ r ≤ 30 → Q (.inl (some (mm_I r))) M' d) : ∀ (k : Nat) (M : mm_M) (x3 x4 : Option mm_V), M w 2 = k → fr [w, w + 1, 5, 6] M0 M → wV M w → wD M w → rr_X2_becomeNeighbour Q 7 [some (mm_R w), some (mm_I up), some (mm_I ((k : Int) - 1)), x3, x4] [] M d 0 := by
  have t1 := ht0.1
  intro k
  induction k with
  | zero =>
    intro M x3 x4 hi hf h1 hD
    refine mm_run_at (stop := [7]) (S := rr_X2_becomeNeighbour Q) kkX2_becomeNeighbour 60 ?_ (fun _ _ _ _ _ _ _ h => h)
    simp only [mm_wp, mm_op, mm_nxt, mm_jmp, mm_at, mm_in, mm_nth, mm_set, mm_ok, mm_isL, mm_ret, mm_isRet, mm_bool, mm_call, mm_push, mm_rv, mm_cats, mm_cat, mm_look, mm_ft, mm_fv, mm_pf, mm_thr, mm_ent, mm_pad, mm_fl, beq_self_eq_true, cond_true, cond_false, Nat.reduceBEq, Nat.reduceEqDiff, List.drop_succ_cons, List.drop_zero, List.take_succ_cons, List.take_zero, List.reverse_cons, List.reverse_nil, List.nil_append, List.cons_append, List.length_cons, List.length_nil, Nat.reduceAdd, Nat.reduceSub, Nat.reduceLeDiff, Bool.not_false, Bool.and_true, Bool.true_and, Nat.zero_add, true_and, and_true, Nat.le_refl, true_or, or_true, reduceCtorEq, Nat.add_zero, Nat.reduceLT, Bool.and_self, Bool.not_true, Fin.isValue, Nat.reduceLeDiff, List.take_nil, List.drop_nil, mm_i1, mm_i2, mm_i3, mm_i4, mm_i5, mm_i6, mm_i7, mm_i16, mm_i17, mm_i18, mm_i19, mm_i20, mm_i21, mm_i22, mm_i23, mm_l3, mm_l4, mm_l5, mm_l6, mm_l7, mm_l18, mm_l19, mm_l20, mm_l21, mm_l22, kdX2_becomeNeighbour, ct_X2_becomeNeighbour, flX2, sp_X2_stepBack, sp_X2_notWalked, sp_X2_lastCorner, sp_X1_stepToWhole, sp_X2_putIn, sp_X2_fillInOrder, wk_is hw]
    exact ⟨⟨by omega, by omega⟩, fun _ => hq M _ ⟨hf, h1, hD, by omega, by omega⟩, fun h => by omega⟩
  | succ k ih =>
    intro M x3 x4 hi hf h1 hD
    have e := (frK hf hw).1
    have ht := tWK ht0 hf hw
    have v1 := h1.1
    refine mm_run_at (stop := [7]) (S := rr_X2_becomeNeighbour Q) kkX2_becomeNeighbour 80 ?_ (fun _ _ _ _ _ _ _ h => h)
    simp only [mm_wp, mm_op, mm_nxt, mm_jmp, mm_at, mm_in, mm_nth, mm_set, mm_ok, mm_isL, mm_ret, mm_isRet, mm_bool, mm_call, mm_push, mm_rv, mm_cats, mm_cat, mm_look, mm_ft, mm_fv, mm_pf, mm_thr, mm_ent, mm_pad, mm_fl, beq_self_eq_true, cond_true, cond_false, Nat.reduceBEq, Nat.reduceEqDiff, List.drop_succ_cons, List.drop_zero, List.take_succ_cons, List.take_zero, List.reverse_cons, List.reverse_nil, List.nil_append, List.cons_append, List.length_cons, List.length_nil, Nat.reduceAdd, Nat.reduceSub, Nat.reduceLeDiff, Bool.not_false, Bool.and_true, Bool.true_and, Nat.zero_add, true_and, and_true, Nat.le_refl, true_or, or_true, reduceCtorEq, Nat.add_zero, Nat.reduceLT, Bool.and_self, Bool.not_true, Fin.isValue, Nat.reduceLeDiff, List.take_nil, List.drop_nil, mm_i1, mm_i2, mm_i3, mm_i4, mm_i5, mm_i6, mm_i7, mm_i16, mm_i17, mm_i18, mm_i19, mm_i20, mm_i21, mm_i22, mm_i23, mm_l3, mm_l4, mm_l5, mm_l6, mm_l7, mm_l18, mm_l19, mm_l20, mm_l21, mm_l22, kdX2_becomeNeighbour, ct_X2_becomeNeighbour, flX2, sp_X2_stepBack, sp_X2_notWalked, sp_X2_lastCorner, sp_X1_stepToWhole, sp_X2_putIn, sp_X2_fillInOrder, wk_is hw, tp1]
    refine ⟨⟨by omega, by omega⟩, fun h => by omega, fun _ => ⟨hw, ht, h1, fun M1 r h3 => ?_⟩⟩
    have ht1 := tWk ht h3.1 hw
    have e1 := (h3.1.k hw).1
    obtain ⟨b1, b2, b3⟩ := h3.2.2.2 (by omega)
    have hz := wk_no hw
    have hD1 : wD M1 w := by
      rw [(b3.2 trivial).2]
      intro x y hx hy e
      simp [mm_up] at hx hy e
      exact hD x y (by omega) (by omega) e
    unfold stO at b1
    have t3 := ht.1
    refine ⟨hw, ht1, h3.2.1, fun r1 hr1 => ⟨hw, ht1, h3.2.1, fun r2 hr2 => ⟨⟨by omega, by omega⟩, by omega, ht1, hr1.2, ⟨by omega, by omega⟩, ?_, hu, fun M2 r3 h5 => ⟨?_, fun h6 => ?_, fun h6 => ?_⟩⟩⟩⟩
    · rw [e1, e]
      rw [e] at b1
      omega
    · have := h5.2.2
      rw [e1, e] at this
      exact ⟨by omega, by omega⟩
    · have h7 := ih M2 (some (mm_I r)) (some (mm_I r3)) (by rw [h5.1 w (by have := wk_no hw; simp; omega), b2]; omega) (hf.tr ((h3.1.mono (by simp)).tr (h5.1.mono (by simp)))) (wV5 h3.2.1 h5.1 hw) (wD5 hD1 h5.1 hw)
      rw [show ((k + 1 : Nat) : Int) - 1 + -1 = (k : Int) - 1 by omega]
      exact h7
    · have e5 : M2 2 = M1 2 := h5.1 2 (by simp)
      have h8 := wV5 h3.2.1 h5.1 hw
      have hl : lft M1 w r1 := by rw [hr1.1]; exact nwk_lft ht1 h3.2.1
      have hN := lft_r hl (by have := h5.2.2.2.1; rw [e1] at this; omega) (h5.2.2.2.2 h6)
      have hN2 : wN M2 w (r3 / 2) := hN.to (h5.1 w (by simp; omega)) (h5.1 (w + 1) (by simp; omega))
      refine ⟨hw, h8, ⟨by omega, by omega⟩, ⟨h6, by rw [e5]; exact h5.2.2.2.1⟩, fun M3 h9 => ⟨hw, tWk (ht1.fr h5.1 (by simp) (by simp) (by simp)) h9.1 hw, h9.2.1, put_wD (wD5 hD1 h5.1 hw) hN2 h9.2.2, hu, fun M4 h10 => hq M4 _ ⟨hf.tr ((h3.1.mono (by simp)).tr ((h5.1.mono (by simp)).tr ((h9.1.mono (by simp)).tr h10.1))), h10.2.1, h10.2.2, by omega, by omega⟩⟩⟩
set_option maxRecDepth 20000 in
theorem rn_X2_becomeNeighbour : mm_RN flX2 ct_X2_becomeNeighbour mm_x0 [] 1 0 5 kdX2_becomeNeighbour sp_X2_becomeNeighbour := by
  intro av M d Q h
  unfold sp_X2_becomeNeighbour at h
  split at h
  · rename_i w up
    obtain ⟨hw, ht, hv, hD, hu, hq⟩ := h
    have v1 := hv.1
    obtain ⟨n, hn⟩ := Int.eq_ofNat_of_zero_le v1.1
    refine ⟨Nat.le_of_ble_eq_true rfl, mm_run_at (stop := [7]) (S := rr_X2_becomeNeighbour Q) kkX2_becomeNeighbour 80 ?_ (fun _ _ _ _ _ _ _ h => h)⟩
    simp only [mm_wp, mm_op, mm_nxt, mm_jmp, mm_at, mm_in, mm_nth, mm_set, mm_ok, mm_isL, mm_ret, mm_isRet, mm_bool, mm_call, mm_push, mm_rv, mm_cats, mm_cat, mm_look, mm_ft, mm_fv, mm_pf, mm_thr, mm_ent, mm_pad, mm_fl, beq_self_eq_true, cond_true, cond_false, Nat.reduceBEq, Nat.reduceEqDiff, List.drop_succ_cons, List.drop_zero, List.take_succ_cons, List.take_zero, List.reverse_cons, List.reverse_nil, List.nil_append, List.cons_append, List.length_cons, List.length_nil, Nat.reduceAdd, Nat.reduceSub, Nat.reduceLeDiff, Bool.not_false, Bool.and_true, Bool.true_and, Nat.zero_add, true_and, and_true, Nat.le_refl, true_or, or_true, reduceCtorEq, Nat.add_zero, Nat.reduceLT, Bool.and_self, Bool.not_true, Fin.isValue, Nat.reduceLeDiff, List.take_nil, List.drop_nil, mm_i1, mm_i2, mm_i3, mm_i4, mm_i5, mm_i6, mm_i7, mm_i16, mm_i17, mm_i18, mm_i19, mm_i20, mm_i21, mm_i22, mm_i23, mm_l3, mm_l4, mm_l5, mm_l6, mm_l7, mm_l18, mm_l19, mm_l20, mm_l21, mm_l22, kdX2_becomeNeighbour, ct_X2_becomeNeighbour, flX2, sp_X2_stepBack, sp_X2_notWalked, sp_X2_lastCorner, sp_X1_stepToWhole, sp_X2_putIn, sp_X2_fillInOrder, wk_is hw]
    rw [hn]
    exact lp_X2_becomeNeighbour hw ht hu hq n M none none hn fr.rf hv hD
  · exact h.elim
theorem me_X2_becomeNeighbour {l : Launch} (hl : l.stackTraces = false) : mm_Met l yX2_becomeNeighbour cX2_becomeNeighbour 5 (some .int) [] 12 238 0 sp_X2_becomeNeighbour := mm_mt hl rn_X2_becomeNeighbour ⟨by decide, rfl⟩ kkX2_becomeNeighbour rfl ⟨by decide, by decide⟩ flkX2 (fun _ h => nomatch h) (⟨mm_pe (me_X2_stepBack hl) mwX2_stepBack (mm_t4 121 rfl rfl) (Nat.le_of_ble_eq_true rfl) (Nat.le_of_ble_eq_true rfl), mm_pe (me_X2_notWalked hl) mwX2_notWalked (mm_t2 124 rfl rfl) (Nat.le_of_ble_eq_true rfl) (Nat.le_of_ble_eq_true rfl), mm_pe (me_X2_lastCorner hl) mwX2_lastCorner (mm_t1 187 rfl rfl) (Nat.le_of_ble_eq_true rfl) (Nat.le_of_ble_eq_true rfl), mm_pe (me_X1_stepToWhole hl) mwX1_stepToWhole (mm_t4 102 rfl rfl) (Nat.le_of_ble_eq_true rfl) (Nat.le_of_ble_eq_true rfl), mm_pe (me_X2_putIn hl) mwX2_putIn (mm_t2 134 rfl rfl) (Nat.le_of_ble_eq_true rfl) (Nat.le_of_ble_eq_true rfl), mm_pe (me_X2_fillInOrder hl) mwX2_fillInOrder (mm_t4 122 rfl rfl) (Nat.le_of_ble_eq_true rfl) (Nat.le_of_ble_eq_true rfl), trivial⟩) (mm_xe0 _)
def sp_X2_isSameTurned : mm_S := fun av M d Q => match av with
  | [.inr (.inr (.inl w)), .inr (.inr (.inl v)), .inl b] =>  isK w ∧ isK v ∧ tW M ∧ wV M w ∧ wV M v ∧ (0 ≤ b ∧ b ≤ 100) ∧ ∀ r, (r = 0 ∨ r = 1) → Q (.inl (some (mm_I r))) M d
  | _ => False
def ct_X2_isSameTurned : List (Nat × mm_Ca) := [(26, (0, 2, 12, sp_X2_cornerOf, 0))]
abbrev rr_X2_isSameTurned (Q : mm_Q) := mm_run (mm_look flX2) (mm_look ct_X2_isSameTurned) mm_x0 (mm_look ([] : List (Nat × Int))) (fun _ => none) 2 0 (fun _ _ => none) Q kdX2_isSameTurned
set_option maxRecDepth 20000 in
theorem lp_X2_isSameTurned {M : mm_M} {d : List Nat} {Q : mm_Q} {w v n : Nat} {b : Int} (hw : isK w) (hv : isK v) (ht : tW M) (a1 : wV M w) (a2 : wV M v) (hb : 0 ≤ b ∧ b ≤ 100) (hn : M w 2 = n) (hnv : M v 2 = n) (hq : ∀ r, (r = 0 ∨ r = 1) → Q (.inl (some (mm_I r))) M d) : ∀ (k i : Nat), i + k = n → rr_X2_isSameTurned Q 27 [some (mm_R w), some (mm_R v), some (mm_I b), some (mm_I i)] [] M d 0 := by
  obtain ⟨v1, v2, v3⟩ := id a1
  obtain ⟨u1, u2, u3⟩ := id a2
  have t1 := ht.1
  intro k
  induction k with
  | zero =>
    intro i hi
    refine mm_run_at (stop := [27]) (S := rr_X2_isSameTurned Q) kkX2_isSameTurned 60 ?_ (fun _ _ _ _ _ _ _ h => h)
    simp only [mm_wp, mm_op, mm_nxt, mm_jmp, mm_at, mm_in, mm_nth, mm_set, mm_ok, mm_isL, mm_ret, mm_isRet, mm_bool, mm_call, mm_push, mm_rv, mm_cats, mm_cat, mm_look, mm_ft, mm_fv, mm_pf, mm_thr, mm_ent, mm_pad, mm_fl, beq_self_eq_true, cond_true, cond_false, Nat.reduceBEq, Nat.reduceEqDiff, List.drop_succ_cons, List.drop_zero, List.take_succ_cons, List.take_zero, List.reverse_cons, List.reverse_nil, List.nil_append, List.cons_append, List.length_cons, List.length_nil, Nat.reduceAdd, Nat.reduceSub, Nat.reduceLeDiff, Bool.not_false, Bool.and_true, Bool.true_and, Nat.zero_add, true_and, and_true, Nat.le_refl, true_or, or_true, reduceCtorEq, Nat.add_zero, Nat.reduceLT, Bool.and_self, Bool.not_true, Fin.isValue, Nat.reduceLeDiff, List.take_nil, List.drop_nil, mm_i1, mm_i2, mm_i3, mm_i4, mm_i5, mm_i6, mm_i7, mm_i16, mm_i17, mm_i18, mm_i19, mm_i20, mm_i21, mm_i22, mm_i23, mm_l3, mm_l4, mm_l5, mm_l6, mm_l7, mm_l18, mm_l19, mm_l20, mm_l21, mm_l22, kdX2_isSameTurned, ct_X2_isSameTurned, flX2, sp_X2_cornerOf, wk_is hw, wk_is hv]
    exact ⟨⟨by omega, by omega⟩, ⟨by omega, by omega⟩, fun _ => hq _ (Or.inr rfl), fun h => by omega⟩
  | succ k ih =>
    intro i hi
    refine mm_run_at (stop := [27]) (S := rr_X2_isSameTurned Q) kkX2_isSameTurned 60 ?_ (fun _ _ _ _ _ _ _ h => h)
    simp only [mm_wp, mm_op, mm_nxt, mm_jmp, mm_at, mm_in, mm_nth, mm_set, mm_ok, mm_isL, mm_ret, mm_isRet, mm_bool, mm_call, mm_push, mm_rv, mm_cats, mm_cat, mm_look, mm_ft, mm_fv, mm_pf, mm_thr, mm_ent, mm_pad, mm_fl, beq_self_eq_true, cond_true, cond_false, Nat.reduceBEq, Nat.reduceEqDiff, List.drop_succ_cons, List.drop_zero, List.take_succ_cons, List.take_zero, List.reverse_cons, List.reverse_nil, List.nil_append, List.cons_append, List.length_cons, List.length_nil, Nat.reduceAdd, Nat.reduceSub, Nat.reduceLeDiff, Bool.not_false, Bool.and_true, Bool.true_and, Nat.zero_add, true_and, and_true, Nat.le_refl, true_or, or_true, reduceCtorEq, Nat.add_zero, Nat.reduceLT, Bool.and_self, Bool.not_true, Fin.isValue, Nat.reduceLeDiff, List.take_nil, List.drop_nil, mm_i1, mm_i2, mm_i3, mm_i4, mm_i5, mm_i6, mm_i7, mm_i16, mm_i17, mm_i18, mm_i19, mm_i20, mm_i21, mm_i22, mm_i23, mm_l3, mm_l4, mm_l5, mm_l6, mm_l7, mm_l18, mm_l19, mm_l20, mm_l21, mm_l22, kdX2_isSameTurned, ct_X2_isSameTurned, flX2, sp_X2_cornerOf, wk_is hw, wk_is hv, wk_iw hw, wk_ln hw, wk_iw hv, wk_ln hv]
    rw [Int.tmod_eq_emod_of_nonneg (show 0 ≤ (i : Int) + b by omega)]
    have h2 := Int.emod_nonneg ((i : Int) + b) (show M w 2 ≠ 0 by omega)
    have h3 := Int.emod_lt_of_pos ((i : Int) + b) (show 0 < M w 2 by omega)
    have h4 := v3 (((i : Int) + b) % M w 2).toNat (by omega)
    have h5 := u3 i (by omega)
    simp only [Int.toNat_natCast]
    refine ⟨⟨by omega, by omega⟩, ⟨by omega, by omega⟩, fun h => by omega, fun _ => ⟨⟨by omega, by omega⟩, ⟨by omega, by omega⟩, by omega, by omega, by omega, ⟨by omega, by omega⟩, ⟨by omega, by omega⟩, fun h => ?_, fun h => ?_⟩⟩
    · exact ih (i + 1) (by omega)
    · exact hq _ (Or.inl rfl)
set_option maxRecDepth 20000 in
theorem rn_X2_isSameTurned : mm_RN flX2 ct_X2_isSameTurned mm_x0 [] 2 0 4 kdX2_isSameTurned sp_X2_isSameTurned := by
  intro av M d Q h
  unfold sp_X2_isSameTurned at h
  split at h
  · rename_i w v b
    obtain ⟨hw, hv, ht, a1, a2, hb, hq⟩ := h
    have v1 := a1.1
    have v2 := a2.1
    have v3 := a2.2.1
    obtain ⟨n, hn⟩ := Int.eq_ofNat_of_zero_le v1.1
    refine ⟨Nat.le_of_ble_eq_true rfl, mm_run_at (stop := [27]) (S := rr_X2_isSameTurned Q) kkX2_isSameTurned 80 ?_ (fun _ _ _ _ _ _ _ h => h)⟩
    simp only [mm_wp, mm_op, mm_nxt, mm_jmp, mm_at, mm_in, mm_nth, mm_set, mm_ok, mm_isL, mm_ret, mm_isRet, mm_bool, mm_call, mm_push, mm_rv, mm_cats, mm_cat, mm_look, mm_ft, mm_fv, mm_pf, mm_thr, mm_ent, mm_pad, mm_fl, beq_self_eq_true, cond_true, cond_false, Nat.reduceBEq, Nat.reduceEqDiff, List.drop_succ_cons, List.drop_zero, List.take_succ_cons, List.take_zero, List.reverse_cons, List.reverse_nil, List.nil_append, List.cons_append, List.length_cons, List.length_nil, Nat.reduceAdd, Nat.reduceSub, Nat.reduceLeDiff, Bool.not_false, Bool.and_true, Bool.true_and, Nat.zero_add, true_and, and_true, Nat.le_refl, true_or, or_true, reduceCtorEq, Nat.add_zero, Nat.reduceLT, Bool.and_self, Bool.not_true, Fin.isValue, Nat.reduceLeDiff, List.take_nil, List.drop_nil, mm_i1, mm_i2, mm_i3, mm_i4, mm_i5, mm_i6, mm_i7, mm_i16, mm_i17, mm_i18, mm_i19, mm_i20, mm_i21, mm_i22, mm_i23, mm_l3, mm_l4, mm_l5, mm_l6, mm_l7, mm_l18, mm_l19, mm_l20, mm_l21, mm_l22, kdX2_isSameTurned, ct_X2_isSameTurned, flX2, sp_X2_cornerOf, wk_is hw, wk_is hv]
    refine ⟨⟨by omega, by omega⟩, ⟨by omega, by omega⟩, fun h => hq _ (Or.inl rfl), fun h => ⟨hw, ht, a1, ⟨by omega, by omega⟩, fun r hr => ⟨⟨by omega, by omega⟩, ⟨by omega, by omega⟩, fun _ => ?_, fun _ => hq _ (Or.inl rfl)⟩⟩⟩
    exact lp_X2_isSameTurned hw hv ht a1 a2 hb hn (by omega) hq n 0 (by omega)
  · exact h.elim
theorem me_X2_isSameTurned {l : Launch} (hl : l.stackTraces = false) : mm_Met l yX2_isSameTurned cX2_isSameTurned 4 (some .boolean) [] 9 164 0 sp_X2_isSameTurned := mm_mt hl rn_X2_isSameTurned ⟨by decide, rfl⟩ kkX2_isSameTurned rfl ⟨by decide, by decide⟩ flkX2 (fun _ h => nomatch h) (⟨mm_pe (me_X2_cornerOf hl) mwX2_cornerOf (mm_t1 191 rfl rfl) (Nat.le_of_ble_eq_true rfl) (Nat.le_of_ble_eq_true rfl), trivial⟩) (mm_xe0 _)
def sp_X2_turnTo : mm_S := fun av M d Q => match av with
  | [.inr (.inr (.inl w)), .inr (.inr (.inl v))] =>  isK w ∧ isK v ∧ tW M ∧ wV M w ∧ wV M v ∧ ∀ r, (-1 ≤ r ∧ r ≤ 30) → Q (.inl (some (mm_I r))) M d
  | _ => False
def ct_X2_turnTo : List (Nat × mm_Ca) := [(112, (0, 3, 12, sp_X2_isSameTurned, 0)), (83, (0, 1, 12, sp_X2_isHome, 0))]
abbrev rr_X2_turnTo (Q : mm_Q) := mm_run (mm_look flX2) (mm_look ct_X2_turnTo) mm_x0 (mm_look ([] : List (Nat × Int))) (fun _ => none) 1 0 (fun _ _ => none) Q kdX2_turnTo
set_option maxRecDepth 20000 in
theorem lp_X2_turnTo {M : mm_M} {d : List Nat} {Q : mm_Q} {w v : Nat} (hw : isK w) (hv : isK v) (ht : tW M) (a1 : wV M w) (a2 : wV M v) (hq : ∀ r, (-1 ≤ r ∧ r ≤ 30) → Q (.inl (some (mm_I r))) M d) : ∀ (k i : Nat), M w 2 ≤ i + k → i ≤ 31 → rr_X2_turnTo Q 22 [some (mm_R w), some (mm_R v), some (mm_I i)] [] M d 0 := by
  have v1 := a1.1
  intro k
  induction k with
  | zero =>
    intro i hi hi2
    refine mm_run_at (stop := [22]) (S := rr_X2_turnTo Q) kkX2_turnTo 60 ?_ (fun _ _ _ _ _ _ _ h => h)
    simp only [mm_wp, mm_op, mm_nxt, mm_jmp, mm_at, mm_in, mm_nth, mm_set, mm_ok, mm_isL, mm_ret, mm_isRet, mm_bool, mm_call, mm_push, mm_rv, mm_cats, mm_cat, mm_look, mm_ft, mm_fv, mm_pf, mm_thr, mm_ent, mm_pad, mm_fl, beq_self_eq_true, cond_true, cond_false, Nat.reduceBEq, Nat.reduceEqDiff, List.drop_succ_cons, List.drop_zero, List.take_succ_cons, List.take_zero, List.reverse_cons, List.reverse_nil, List.nil_append, List.cons_append, List.length_cons, List.length_nil, Nat.reduceAdd, Nat.reduceSub, Nat.reduceLeDiff, Bool.not_false, Bool.and_true, Bool.true_and, Nat.zero_add, true_and, and_true, Nat.le_refl, true_or, or_true, reduceCtorEq, Nat.add_zero, Nat.reduceLT, Bool.and_self, Bool.not_true, Fin.isValue, Nat.reduceLeDiff, List.take_nil, List.drop_nil, mm_i1, mm_i2, mm_i3, mm_i4, mm_i5, mm_i6, mm_i7, mm_i16, mm_i17, mm_i18, mm_i19, mm_i20, mm_i21, mm_i22, mm_i23, mm_l3, mm_l4, mm_l5, mm_l6, mm_l7, mm_l18, mm_l19, mm_l20, mm_l21, mm_l22, kdX2_turnTo, ct_X2_turnTo, flX2, sp_X2_isSameTurned, sp_X2_isHome, wk_is hw, wk_is hv]
    exact ⟨⟨by omega, by omega⟩, ⟨by omega, by omega⟩, fun _ => hq _ ⟨by omega, by omega⟩, fun h => by omega⟩
  | succ k ih =>
    intro i hi hi2
    refine mm_run_at (stop := [22]) (S := rr_X2_turnTo Q) kkX2_turnTo 60 ?_ (fun _ _ _ _ _ _ _ h => h)
    simp only [mm_wp, mm_op, mm_nxt, mm_jmp, mm_at, mm_in, mm_nth, mm_set, mm_ok, mm_isL, mm_ret, mm_isRet, mm_bool, mm_call, mm_push, mm_rv, mm_cats, mm_cat, mm_look, mm_ft, mm_fv, mm_pf, mm_thr, mm_ent, mm_pad, mm_fl, beq_self_eq_true, cond_true, cond_false, Nat.reduceBEq, Nat.reduceEqDiff, List.drop_succ_cons, List.drop_zero, List.take_succ_cons, List.take_zero, List.reverse_cons, List.reverse_nil, List.nil_append, List.cons_append, List.length_cons, List.length_nil, Nat.reduceAdd, Nat.reduceSub, Nat.reduceLeDiff, Bool.not_false, Bool.and_true, Bool.true_and, Nat.zero_add, true_and, and_true, Nat.le_refl, true_or, or_true, reduceCtorEq, Nat.add_zero, Nat.reduceLT, Bool.and_self, Bool.not_true, Fin.isValue, Nat.reduceLeDiff, List.take_nil, List.drop_nil, mm_i1, mm_i2, mm_i3, mm_i4, mm_i5, mm_i6, mm_i7, mm_i16, mm_i17, mm_i18, mm_i19, mm_i20, mm_i21, mm_i22, mm_i23, mm_l3, mm_l4, mm_l5, mm_l6, mm_l7, mm_l18, mm_l19, mm_l20, mm_l21, mm_l22, kdX2_turnTo, ct_X2_turnTo, flX2, sp_X2_isSameTurned, sp_X2_isHome, wk_is hw, wk_is hv]
    exact ⟨⟨by omega, by omega⟩, ⟨by omega, by omega⟩, fun _ => hq _ ⟨by omega, by omega⟩, fun _ => ⟨hw, hv, ht, a1, a2, by omega, fun r hr => ⟨⟨by omega, by omega⟩, fun _ => ih (i + 1) (by omega) (by omega), fun _ => hq _ ⟨by omega, by omega⟩⟩⟩⟩
set_option maxRecDepth 20000 in
theorem rn_X2_turnTo : mm_RN flX2 ct_X2_turnTo mm_x0 [] 1 0 3 kdX2_turnTo sp_X2_turnTo := by
  intro av M d Q h
  unfold sp_X2_turnTo at h
  split at h
  · rename_i w v
    obtain ⟨hw, hv, ht, a1, a2, hq⟩ := h
    have v1 := a1.1
    refine ⟨Nat.le_of_ble_eq_true rfl, mm_run_at (stop := [22]) (S := rr_X2_turnTo Q) kkX2_turnTo 80 ?_ (fun _ _ _ _ _ _ _ h => h)⟩
    simp only [mm_wp, mm_op, mm_nxt, mm_jmp, mm_at, mm_in, mm_nth, mm_set, mm_ok, mm_isL, mm_ret, mm_isRet, mm_bool, mm_call, mm_push, mm_rv, mm_cats, mm_cat, mm_look, mm_ft, mm_fv, mm_pf, mm_thr, mm_ent, mm_pad, mm_fl, beq_self_eq_true, cond_true, cond_false, Nat.reduceBEq, Nat.reduceEqDiff, List.drop_succ_cons, List.drop_zero, List.take_succ_cons, List.take_zero, List.reverse_cons, List.reverse_nil, List.nil_append, List.cons_append, List.length_cons, List.length_nil, Nat.reduceAdd, Nat.reduceSub, Nat.reduceLeDiff, Bool.not_false, Bool.and_true, Bool.true_and, Nat.zero_add, true_and, and_true, Nat.le_refl, true_or, or_true, reduceCtorEq, Nat.add_zero, Nat.reduceLT, Bool.and_self, Bool.not_true, Fin.isValue, Nat.reduceLeDiff, List.take_nil, List.drop_nil, mm_i1, mm_i2, mm_i3, mm_i4, mm_i5, mm_i6, mm_i7, mm_i16, mm_i17, mm_i18, mm_i19, mm_i20, mm_i21, mm_i22, mm_i23, mm_l3, mm_l4, mm_l5, mm_l6, mm_l7, mm_l18, mm_l19, mm_l20, mm_l21, mm_l22, kdX2_turnTo, ct_X2_turnTo, flX2, sp_X2_isSameTurned, sp_X2_isHome, wk_is hw, wk_is hv]
    refine ⟨hw, hv, ht, a1, a2, by omega, fun r hr => ⟨⟨by omega, by omega⟩, fun _ => ⟨hw, ht, a1, fun r hr => ⟨inI2 (P := cor M w (M w 2) = M w 3) hr, fun _ => ?_, fun _ => hq _ ⟨by omega, by omega⟩⟩⟩, fun _ => hq _ ⟨by omega, by omega⟩⟩⟩
    exact lp_X2_turnTo hw hv ht a1 a2 hq 30 1 (by omega) (by omega)
  · exact h.elim
theorem me_X2_turnTo {l : Launch} (hl : l.stackTraces = false) : mm_Met l yX2_turnTo cX2_turnTo 3 (some .int) [] 10 187 0 sp_X2_turnTo := mm_mt hl rn_X2_turnTo ⟨by decide, rfl⟩ kkX2_turnTo rfl ⟨by decide, by decide⟩ flkX2 (fun _ h => nomatch h) (⟨mm_pe (me_X2_isSameTurned hl) mwX2_isSameTurned (mm_t3 51 rfl rfl) (Nat.le_of_ble_eq_true rfl) (Nat.le_of_ble_eq_true rfl), mm_pe (me_X2_isHome hl) mwX2_isHome (mm_t3 55 rfl rfl) (Nat.le_of_ble_eq_true rfl) (Nat.le_of_ble_eq_true rfl), trivial⟩) (mm_xe0 _)
def sp_X2_hasWord : mm_S := fun av M d Q => match av with
  | [.inr (.inr (.inl w)), .inl x, .inl p] =>  isK w ∧ tW M ∧ wV M w ∧ (0 ≤ x ∧ x ≤ 100) ∧ (0 ≤ p ∧ p ≤ 100) ∧ ∀ r, (r = 0 ∨ r = 1) → Q (.inl (some (mm_I r))) M d
  | _ => False
def ct_X2_hasWord : List (Nat × mm_Ca) := [(126, (0, 1, 11, sp_X1_signCount, 0)), (129, (0, 1, 11, sp_X1_wordSize, 0)), (132, (0, 2, 11, sp_X1_signOf, 0))]
abbrev rr_X2_hasWord (Q : mm_Q) := mm_run (mm_look flX2) (mm_look ct_X2_hasWord) mm_x0 (mm_look ([] : List (Nat × Int))) (fun _ => none) 2 0 (fun _ _ => none) Q kdX2_hasWord
set_option maxRecDepth 20000 in
theorem lp_X2_hasWord {M : mm_M} {d : List Nat} {Q : mm_Q} {w : Nat} {x p : Int} (hw : isK w) (ht : tW M) (a1 : wV M w) (hp : 0 ≤ p ∧ p ≤ 100) (h0 : 0 < M w 2) (h6 : 0 < M 2 6) (hq : ∀ r, (r = 0 ∨ r = 1) → Q (.inl (some (mm_I r))) M d) : ∀ (k : Nat) (y : Int), k ≤ 10 → (0 ≤ y ∧ y ≤ 100) → rr_X2_hasWord Q 35 [some (mm_R w), some (mm_I x), some (mm_I p), some (mm_I (M 2 6)), some (mm_I y), some (mm_I ((k : Int) - 1))] [] M d 0 := by
  obtain ⟨v1, v2, v3⟩ := id a1
  have t1 := ht.1
  have t4 := ht.2.2.2
  intro k
  induction k with
  | zero =>
    intro y hk hy
    refine mm_run_at (stop := [35]) (S := rr_X2_hasWord Q) kkX2_hasWord 80 ?_ (fun _ _ _ _ _ _ _ h => h)
    simp only [mm_wp, mm_op, mm_nxt, mm_jmp, mm_at, mm_in, mm_nth, mm_set, mm_ok, mm_isL, mm_ret, mm_isRet, mm_bool, mm_call, mm_push, mm_rv, mm_cats, mm_cat, mm_look, mm_ft, mm_fv, mm_pf, mm_thr, mm_ent, mm_pad, mm_fl, beq_self_eq_true, cond_true, cond_false, Nat.reduceBEq, Nat.reduceEqDiff, List.drop_succ_cons, List.drop_zero, List.take_succ_cons, List.take_zero, List.reverse_cons, List.reverse_nil, List.nil_append, List.cons_append, List.length_cons, List.length_nil, Nat.reduceAdd, Nat.reduceSub, Nat.reduceLeDiff, Bool.not_false, Bool.and_true, Bool.true_and, Nat.zero_add, true_and, and_true, Nat.le_refl, true_or, or_true, reduceCtorEq, Nat.add_zero, Nat.reduceLT, Bool.and_self, Bool.not_true, Fin.isValue, Nat.reduceLeDiff, List.take_nil, List.drop_nil, mm_i1, mm_i2, mm_i3, mm_i4, mm_i5, mm_i6, mm_i7, mm_i16, mm_i17, mm_i18, mm_i19, mm_i20, mm_i21, mm_i22, mm_i23, mm_l3, mm_l4, mm_l5, mm_l6, mm_l7, mm_l18, mm_l19, mm_l20, mm_l21, mm_l22, kdX2_hasWord, ct_X2_hasWord, flX2, sp_X1_signCount, sp_X1_wordSize, sp_X1_signOf, wk_is hw]
    exact ⟨⟨by omega, by omega⟩, fun _ => hq _ (Or.inr rfl), fun h => by omega⟩
  | succ k ih =>
    intro y hk hy
    refine mm_run_at (stop := [35]) (S := rr_X2_hasWord Q) kkX2_hasWord 80 ?_ (fun _ _ _ _ _ _ _ h => h)
    simp only [mm_wp, mm_op, mm_nxt, mm_jmp, mm_at, mm_in, mm_nth, mm_set, mm_ok, mm_isL, mm_ret, mm_isRet, mm_bool, mm_call, mm_push, mm_rv, mm_cats, mm_cat, mm_look, mm_ft, mm_fv, mm_pf, mm_thr, mm_ent, mm_pad, mm_fl, beq_self_eq_true, cond_true, cond_false, Nat.reduceBEq, Nat.reduceEqDiff, List.drop_succ_cons, List.drop_zero, List.take_succ_cons, List.take_zero, List.reverse_cons, List.reverse_nil, List.nil_append, List.cons_append, List.length_cons, List.length_nil, Nat.reduceAdd, Nat.reduceSub, Nat.reduceLeDiff, Bool.not_false, Bool.and_true, Bool.true_and, Nat.zero_add, true_and, and_true, Nat.le_refl, true_or, or_true, reduceCtorEq, Nat.add_zero, Nat.reduceLT, Bool.and_self, Bool.not_true, Fin.isValue, Nat.reduceLeDiff, List.take_nil, List.drop_nil, mm_i1, mm_i2, mm_i3, mm_i4, mm_i5, mm_i6, mm_i7, mm_i16, mm_i17, mm_i18, mm_i19, mm_i20, mm_i21, mm_i22, mm_i23, mm_l3, mm_l4, mm_l5, mm_l6, mm_l7, mm_l18, mm_l19, mm_l20, mm_l21, mm_l22, kdX2_hasWord, ct_X2_hasWord, flX2, sp_X1_signCount, sp_X1_wordSize, sp_X1_signOf, wk_is hw, wk_iw hw, wk_ln hw, tp1]
    rw [show ((k + 1 : Nat) : Int) - 1 = k by omega, show (k : Int) + -1 = (k : Int) - 1 by omega, Int.tmod_eq_emod_of_nonneg (show 0 ≤ p + (k : Int) by omega), Int.tmod_eq_emod_of_nonneg hy.1, Int.tdiv_eq_ediv_of_nonneg hy.1]
    have h2 := Int.emod_nonneg (p + (k : Int)) (show M w 2 ≠ 0 by omega)
    have h3 := Int.emod_lt_of_pos (p + (k : Int)) (show 0 < M w 2 by omega)
    have h4 := v3 ((p + (k : Int)) % M w 2).toNat (by omega)
    have h7 := Int.emod_nonneg y (show M 2 6 ≠ 0 by omega)
    have h8 := Int.emod_lt_of_pos y (show 0 < M 2 6 by omega)
    have h9 := Int.ediv_nonneg hy.1 (show 0 ≤ M 2 6 by omega)
    have h10 := Int.ediv_le_self (M 2 6) hy.1
    refine ⟨⟨by omega, by omega⟩, fun h => by omega, fun _ => ⟨⟨by omega, by omega⟩, ⟨by omega, by omega⟩, by omega, by omega, ⟨by omega, by omega⟩, by omega, ht, by omega, fun r hr => ⟨⟨by omega, by omega⟩, ⟨by omega, by omega⟩, by omega, ⟨by omega, by omega⟩, ⟨by omega, by omega⟩, fun _ => ?_, fun _ => hq _ (Or.inl rfl)⟩⟩⟩
    exact ⟨⟨by omega, by omega⟩, ⟨by omega, by omega⟩, by omega, ih _ (by omega) ⟨by omega, by omega⟩⟩
set_option maxRecDepth 20000 in
theorem rn_X2_hasWord : mm_RN flX2 ct_X2_hasWord mm_x0 [] 2 0 6 kdX2_hasWord sp_X2_hasWord := by
  intro av M d Q h
  unfold sp_X2_hasWord at h
  split at h
  · rename_i w x p
    obtain ⟨hw, ht, hv, hx, hp, hq⟩ := h
    have v1 := hv.1
    have t4 := ht.2.2.2
    obtain ⟨n, hn⟩ := Int.eq_ofNat_of_zero_le t4.2.1
    refine ⟨Nat.le_of_ble_eq_true rfl, mm_run_at (stop := [35]) (S := rr_X2_hasWord Q) kkX2_hasWord 80 ?_ (fun _ _ _ _ _ _ _ h => h)⟩
    simp only [mm_wp, mm_op, mm_nxt, mm_jmp, mm_at, mm_in, mm_nth, mm_set, mm_ok, mm_isL, mm_ret, mm_isRet, mm_bool, mm_call, mm_push, mm_rv, mm_cats, mm_cat, mm_look, mm_ft, mm_fv, mm_pf, mm_thr, mm_ent, mm_pad, mm_fl, beq_self_eq_true, cond_true, cond_false, Nat.reduceBEq, Nat.reduceEqDiff, List.drop_succ_cons, List.drop_zero, List.take_succ_cons, List.take_zero, List.reverse_cons, List.reverse_nil, List.nil_append, List.cons_append, List.length_cons, List.length_nil, Nat.reduceAdd, Nat.reduceSub, Nat.reduceLeDiff, Bool.not_false, Bool.and_true, Bool.true_and, Nat.zero_add, true_and, and_true, Nat.le_refl, true_or, or_true, reduceCtorEq, Nat.add_zero, Nat.reduceLT, Bool.and_self, Bool.not_true, Fin.isValue, Nat.reduceLeDiff, List.take_nil, List.drop_nil, mm_i1, mm_i2, mm_i3, mm_i4, mm_i5, mm_i6, mm_i7, mm_i16, mm_i17, mm_i18, mm_i19, mm_i20, mm_i21, mm_i22, mm_i23, mm_l3, mm_l4, mm_l5, mm_l6, mm_l7, mm_l18, mm_l19, mm_l20, mm_l21, mm_l22, kdX2_hasWord, ct_X2_hasWord, flX2, sp_X1_signCount, sp_X1_wordSize, sp_X1_signOf, wk_is hw]
    refine ⟨⟨by omega, by omega⟩, fun h => hq _ (Or.inl rfl), fun h => ⟨⟨by omega, by omega⟩, fun h2 => ?_, fun _ => hq _ (Or.inl rfl)⟩⟩
    rw [hn]
    exact lp_X2_hasWord hw ht hv hp (by omega) h hq n x (by omega) hx
  · exact h.elim
theorem me_X2_hasWord {l : Launch} (hl : l.stackTraces = false) : mm_Met l yX2_hasWord cX2_hasWord 6 (some .boolean) [] 7 121 0 sp_X2_hasWord := mm_mt hl rn_X2_hasWord ⟨by decide, rfl⟩ kkX2_hasWord rfl ⟨by decide, by decide⟩ flkX2 (fun _ h => nomatch h) (⟨mm_pe (me_X1_signCount hl) mwX1_signCount (mm_t2 164 rfl rfl) (Nat.le_of_ble_eq_true rfl) (Nat.le_of_ble_eq_true rfl), mm_pe (me_X1_wordSize hl) mwX1_wordSize (mm_t2 168 rfl rfl) (Nat.le_of_ble_eq_true rfl) (Nat.le_of_ble_eq_true rfl), mm_pe (me_X1_signOf hl) mwX1_signOf (mm_t2 172 rfl rfl) (Nat.le_of_ble_eq_true rfl) (Nat.le_of_ble_eq_true rfl), trivial⟩) (mm_xe0 _)
def sp_X2_placeOfWord : mm_S := fun av M d Q => match av with
  | [.inr (.inr (.inl w)), .inl x, .inl p] =>  isK w ∧ tW M ∧ wV M w ∧ (0 ≤ x ∧ x ≤ 100) ∧ (0 ≤ p ∧ p ≤ 100) ∧ ∀ r, (-1 ≤ r ∧ r ≤ 30) → Q (.inl (some (mm_I r))) M d
  | _ => False
def ct_X2_placeOfWord : List (Nat × mm_Ca) := [(116, (0, 1, 11, sp_X1_isOfWords, 0)), (35, (0, 1, 11, sp_X1_size, 0)), (119, (0, 3, 12, sp_X2_hasWord, 0))]
abbrev rr_X2_placeOfWord (Q : mm_Q) := mm_run (mm_look flX2) (mm_look ct_X2_placeOfWord) mm_x0 (mm_look ([] : List (Nat × Int))) (fun _ => none) 1 0 (fun _ _ => none) Q kdX2_placeOfWord
set_option maxRecDepth 20000 in
theorem lp_X2_placeOfWord {M : mm_M} {d : List Nat} {Q : mm_Q} {w : Nat} {x p : Int} (hw : isK w) (ht : tW M) (a1 : wV M w) (hx : 0 ≤ x ∧ x ≤ 100) (hq : ∀ r, (-1 ≤ r ∧ r ≤ 30) → Q (.inl (some (mm_I r))) M d) : ∀ (k : Nat) (i : Int), M w 2 ≤ i + k → (0 ≤ i ∧ i ≤ 101) → rr_X2_placeOfWord Q 33 [some (mm_R w), some (mm_I x), some (mm_I p), some (mm_I i)] [] M d 0 := by
  have v1 := a1.1
  intro k
  induction k with
  | zero =>
    intro i hi hi2
    refine mm_run_at (stop := [33]) (S := rr_X2_placeOfWord Q) kkX2_placeOfWord 60 ?_ (fun _ _ _ _ _ _ _ h => h)
    simp only [mm_wp, mm_op, mm_nxt, mm_jmp, mm_at, mm_in, mm_nth, mm_set, mm_ok, mm_isL, mm_ret, mm_isRet, mm_bool, mm_call, mm_push, mm_rv, mm_cats, mm_cat, mm_look, mm_ft, mm_fv, mm_pf, mm_thr, mm_ent, mm_pad, mm_fl, beq_self_eq_true, cond_true, cond_false, Nat.reduceBEq, Nat.reduceEqDiff, List.drop_succ_cons, List.drop_zero, List.take_succ_cons, List.take_zero, List.reverse_cons, List.reverse_nil, List.nil_append, List.cons_append, List.length_cons, List.length_nil, Nat.reduceAdd, Nat.reduceSub, Nat.reduceLeDiff, Bool.not_false, Bool.and_true, Bool.true_and, Nat.zero_add, true_and, and_true, Nat.le_refl, true_or, or_true, reduceCtorEq, Nat.add_zero, Nat.reduceLT, Bool.and_self, Bool.not_true, Fin.isValue, Nat.reduceLeDiff, List.take_nil, List.drop_nil, mm_i1, mm_i2, mm_i3, mm_i4, mm_i5, mm_i6, mm_i7, mm_i16, mm_i17, mm_i18, mm_i19, mm_i20, mm_i21, mm_i22, mm_i23, mm_l3, mm_l4, mm_l5, mm_l6, mm_l7, mm_l18, mm_l19, mm_l20, mm_l21, mm_l22, kdX2_placeOfWord, ct_X2_placeOfWord, flX2, sp_X1_isOfWords, sp_X1_size, sp_X2_hasWord, wk_is hw]
    exact ⟨⟨by omega, by omega⟩, ⟨by omega, by omega⟩, fun _ => hq _ ⟨by omega, by omega⟩, fun h => by omega⟩
  | succ k ih =>
    intro i hi hi2
    refine mm_run_at (stop := [33]) (S := rr_X2_placeOfWord Q) kkX2_placeOfWord 60 ?_ (fun _ _ _ _ _ _ _ h => h)
    simp only [mm_wp, mm_op, mm_nxt, mm_jmp, mm_at, mm_in, mm_nth, mm_set, mm_ok, mm_isL, mm_ret, mm_isRet, mm_bool, mm_call, mm_push, mm_rv, mm_cats, mm_cat, mm_look, mm_ft, mm_fv, mm_pf, mm_thr, mm_ent, mm_pad, mm_fl, beq_self_eq_true, cond_true, cond_false, Nat.reduceBEq, Nat.reduceEqDiff, List.drop_succ_cons, List.drop_zero, List.take_succ_cons, List.take_zero, List.reverse_cons, List.reverse_nil, List.nil_append, List.cons_append, List.length_cons, List.length_nil, Nat.reduceAdd, Nat.reduceSub, Nat.reduceLeDiff, Bool.not_false, Bool.and_true, Bool.true_and, Nat.zero_add, true_and, and_true, Nat.le_refl, true_or, or_true, reduceCtorEq, Nat.add_zero, Nat.reduceLT, Bool.and_self, Bool.not_true, Fin.isValue, Nat.reduceLeDiff, List.take_nil, List.drop_nil, mm_i1, mm_i2, mm_i3, mm_i4, mm_i5, mm_i6, mm_i7, mm_i16, mm_i17, mm_i18, mm_i19, mm_i20, mm_i21, mm_i22, mm_i23, mm_l3, mm_l4, mm_l5, mm_l6, mm_l7, mm_l18, mm_l19, mm_l20, mm_l21, mm_l22, kdX2_placeOfWord, ct_X2_placeOfWord, flX2, sp_X1_isOfWords, sp_X1_size, sp_X2_hasWord, wk_is hw]
    exact ⟨⟨by omega, by omega⟩, ⟨by omega, by omega⟩, fun _ => hq _ ⟨by omega, by omega⟩, fun _ => ⟨hw, ht, a1, hx, by omega, fun r hr => ⟨⟨by omega, by omega⟩, fun _ => ih (i + 1) (by omega) (by omega), fun _ => hq _ ⟨by omega, by omega⟩⟩⟩⟩
set_option maxRecDepth 20000 in
theorem rn_X2_placeOfWord : mm_RN flX2 ct_X2_placeOfWord mm_x0 [] 1 0 4 kdX2_placeOfWord sp_X2_placeOfWord := by
  intro av M d Q h
  unfold sp_X2_placeOfWord at h
  split at h
  · rename_i w x p
    obtain ⟨hw, ht, hv, hx, hp, hq⟩ := h
    have v1 := hv.1
    have t1 := ht.1
    refine ⟨Nat.le_of_ble_eq_true rfl, mm_run_at (stop := [33]) (S := rr_X2_placeOfWord Q) kkX2_placeOfWord 80 ?_ (fun _ _ _ _ _ _ _ h => h)⟩
    simp only [mm_wp, mm_op, mm_nxt, mm_jmp, mm_at, mm_in, mm_nth, mm_set, mm_ok, mm_isL, mm_ret, mm_isRet, mm_bool, mm_call, mm_push, mm_rv, mm_cats, mm_cat, mm_look, mm_ft, mm_fv, mm_pf, mm_thr, mm_ent, mm_pad, mm_fl, beq_self_eq_true, cond_true, cond_false, Nat.reduceBEq, Nat.reduceEqDiff, List.drop_succ_cons, List.drop_zero, List.take_succ_cons, List.take_zero, List.reverse_cons, List.reverse_nil, List.nil_append, List.cons_append, List.length_cons, List.length_nil, Nat.reduceAdd, Nat.reduceSub, Nat.reduceLeDiff, Bool.not_false, Bool.and_true, Bool.true_and, Nat.zero_add, true_and, and_true, Nat.le_refl, true_or, or_true, reduceCtorEq, Nat.add_zero, Nat.reduceLT, Bool.and_self, Bool.not_true, Fin.isValue, Nat.reduceLeDiff, List.take_nil, List.drop_nil, mm_i1, mm_i2, mm_i3, mm_i4, mm_i5, mm_i6, mm_i7, mm_i16, mm_i17, mm_i18, mm_i19, mm_i20, mm_i21, mm_i22, mm_i23, mm_l3, mm_l4, mm_l5, mm_l6, mm_l7, mm_l18, mm_l19, mm_l20, mm_l21, mm_l22, kdX2_placeOfWord, ct_X2_placeOfWord, flX2, sp_X1_isOfWords, sp_X1_size, sp_X2_hasWord, wk_is hw]
    refine ⟨ht, fun r hr => ⟨inI2 (P := 0 < M 2 6) ⟨hr.1, fun h => hr.2 (by omega)⟩, fun _ => hq _ ⟨by omega, by omega⟩, fun h => ⟨⟨by omega, by omega⟩, fun _ => hq _ ⟨by omega, by omega⟩, fun _ => ⟨⟨by omega, by omega⟩, ⟨by omega, by omega⟩, fun _ => hq _ ⟨by omega, by omega⟩, fun _ => ⟨⟨by omega, by omega⟩, fun _ => ?_, fun _ => hq _ ⟨by omega, by omega⟩⟩⟩⟩⟩⟩
    exact lp_X2_placeOfWord hw ht hv hx hq 30 p (by omega) (by omega)
  · exact h.elim
theorem me_X2_placeOfWord {l : Launch} (hl : l.stackTraces = false) : mm_Met l yX2_placeOfWord cX2_placeOfWord 4 (some .int) [] 8 146 0 sp_X2_placeOfWord := mm_mt hl rn_X2_placeOfWord ⟨by decide, rfl⟩ kkX2_placeOfWord rfl ⟨by decide, by decide⟩ flkX2 (fun _ h => nomatch h) (⟨mm_pe (me_X1_isOfWords hl) mwX1_isOfWords (mm_t2 159 rfl rfl) (Nat.le_of_ble_eq_true rfl) (Nat.le_of_ble_eq_true rfl), mm_pe (me_X1_size hl) mwX1_size (mm_t2 142 rfl rfl) (Nat.le_of_ble_eq_true rfl) (Nat.le_of_ble_eq_true rfl), mm_pe (me_X2_hasWord hl) mwX2_hasWord (mm_t2 160 rfl rfl) (Nat.le_of_ble_eq_true rfl) (Nat.le_of_ble_eq_true rfl), trivial⟩) (mm_xe0 _)
def sp_X2_leadsBack : mm_S := fun av M d Q => match av with
  | [.inr (.inr (.inl w))] =>  isK w ∧ tW M ∧ wV M w ∧ ∀ r, (r = 0 ∨ r = 1) → Q (.inl (some (mm_I r))) M d
  | _ => False
def ct_X2_leadsBack : List (Nat × mm_Ca) := [(26, (0, 2, 12, sp_X2_cornerOf, 0)), (30, (0, 2, 11, sp_X1_goalOf, 0)), (43, (0, 2, 11, sp_X1_sourceOf, 0))]
abbrev rr_X2_leadsBack (Q : mm_Q) := mm_run (mm_look flX2) (mm_look ct_X2_leadsBack) mm_x0 (mm_look ([] : List (Nat × Int))) (fun _ => none) 2 0 (fun _ _ => none) Q kdX2_leadsBack
set_option maxRecDepth 20000 in
theorem lp_X2_leadsBack {M : mm_M} {d : List Nat} {Q : mm_Q} {w : Nat} (hw : isK w) (ht : tW M) (a1 : wV M w) (hq : ∀ r, (r = 0 ∨ r = 1) → Q (.inl (some (mm_I r))) M d) : ∀ (k : Nat) (c : Int), k ≤ M w 2 → (0 ≤ c ∧ c < 10) → rr_X2_leadsBack Q 16 [some (mm_R w), some (mm_I c), some (mm_I ((k : Int) - 1))] [] M d 0 := by
  obtain ⟨v1, v2, v3⟩ := id a1
  intro k
  induction k with
  | zero =>
    intro c hk hc
    refine mm_run_at (stop := [16]) (S := rr_X2_leadsBack Q) kkX2_leadsBack 60 ?_ (fun _ _ _ _ _ _ _ h => h)
    simp only [mm_wp, mm_op, mm_nxt, mm_jmp, mm_at, mm_in, mm_nth, mm_set, mm_ok, mm_isL, mm_ret, mm_isRet, mm_bool, mm_call, mm_push, mm_rv, mm_cats, mm_cat, mm_look, mm_ft, mm_fv, mm_pf, mm_thr, mm_ent, mm_pad, mm_fl, beq_self_eq_true, cond_true, cond_false, Nat.reduceBEq, Nat.reduceEqDiff, List.drop_succ_cons, List.drop_zero, List.take_succ_cons, List.take_zero, List.reverse_cons, List.reverse_nil, List.nil_append, List.cons_append, List.length_cons, List.length_nil, Nat.reduceAdd, Nat.reduceSub, Nat.reduceLeDiff, Bool.not_false, Bool.and_true, Bool.true_and, Nat.zero_add, true_and, and_true, Nat.le_refl, true_or, or_true, reduceCtorEq, Nat.add_zero, Nat.reduceLT, Bool.and_self, Bool.not_true, Fin.isValue, Nat.reduceLeDiff, List.take_nil, List.drop_nil, mm_i1, mm_i2, mm_i3, mm_i4, mm_i5, mm_i6, mm_i7, mm_i16, mm_i17, mm_i18, mm_i19, mm_i20, mm_i21, mm_i22, mm_i23, mm_l3, mm_l4, mm_l5, mm_l6, mm_l7, mm_l18, mm_l19, mm_l20, mm_l21, mm_l22, kdX2_leadsBack, ct_X2_leadsBack, flX2, sp_X2_cornerOf, sp_X1_goalOf, sp_X1_sourceOf, wk_is hw]
    exact ⟨⟨by omega, by omega⟩, fun _ => ⟨⟨by omega, by omega⟩, ⟨by omega, by omega⟩, fun _ => hq _ (Or.inl rfl), fun _ => hq _ (Or.inr rfl)⟩, fun h => by omega⟩
  | succ k ih =>
    intro c hk hc
    refine mm_run_at (stop := [16]) (S := rr_X2_leadsBack Q) kkX2_leadsBack 60 ?_ (fun _ _ _ _ _ _ _ h => h)
    simp only [mm_wp, mm_op, mm_nxt, mm_jmp, mm_at, mm_in, mm_nth, mm_set, mm_ok, mm_isL, mm_ret, mm_isRet, mm_bool, mm_call, mm_push, mm_rv, mm_cats, mm_cat, mm_look, mm_ft, mm_fv, mm_pf, mm_thr, mm_ent, mm_pad, mm_fl, beq_self_eq_true, cond_true, cond_false, Nat.reduceBEq, Nat.reduceEqDiff, List.drop_succ_cons, List.drop_zero, List.take_succ_cons, List.take_zero, List.reverse_cons, List.reverse_nil, List.nil_append, List.cons_append, List.length_cons, List.length_nil, Nat.reduceAdd, Nat.reduceSub, Nat.reduceLeDiff, Bool.not_false, Bool.and_true, Bool.true_and, Nat.zero_add, true_and, and_true, Nat.le_refl, true_or, or_true, reduceCtorEq, Nat.add_zero, Nat.reduceLT, Bool.and_self, Bool.not_true, Fin.isValue, Nat.reduceLeDiff, List.take_nil, List.drop_nil, mm_i1, mm_i2, mm_i3, mm_i4, mm_i5, mm_i6, mm_i7, mm_i16, mm_i17, mm_i18, mm_i19, mm_i20, mm_i21, mm_i22, mm_i23, mm_l3, mm_l4, mm_l5, mm_l6, mm_l7, mm_l18, mm_l19, mm_l20, mm_l21, mm_l22, kdX2_leadsBack, ct_X2_leadsBack, flX2, sp_X2_cornerOf, sp_X1_goalOf, sp_X1_sourceOf, wk_is hw, wk_iw hw, wk_ln hw]
    rw [show ((k + 1 : Nat) : Int) - 1 = k by omega, show (k : Int) + -1 = (k : Int) - 1 by omega]
    have h4 := v3 k (by omega)
    simp only [Int.toNat_natCast]
    exact ⟨⟨by omega, by omega⟩, fun h => by omega, fun _ => ⟨by omega, ht, h4, fun r hr => ⟨⟨by omega, by omega⟩, ⟨by omega, by omega⟩, fun _ => ⟨by omega, ht, h4, fun r2 hr2 => ih _ (by omega) hr2.2⟩, fun _ => hq _ (Or.inl rfl)⟩⟩⟩
set_option maxRecDepth 20000 in
theorem rn_X2_leadsBack : mm_RN flX2 ct_X2_leadsBack mm_x0 [] 2 0 3 kdX2_leadsBack sp_X2_leadsBack := by
  intro av M d Q h
  unfold sp_X2_leadsBack at h
  split at h
  · rename_i w
    obtain ⟨hw, ht, hv, hq⟩ := h
    have v1 := hv.1
    obtain ⟨n, hn⟩ := Int.eq_ofNat_of_zero_le v1.1
    refine ⟨Nat.le_of_ble_eq_true rfl, mm_run_at (stop := [16]) (S := rr_X2_leadsBack Q) kkX2_leadsBack 80 ?_ (fun _ _ _ _ _ _ _ h => h)⟩
    simp only [mm_wp, mm_op, mm_nxt, mm_jmp, mm_at, mm_in, mm_nth, mm_set, mm_ok, mm_isL, mm_ret, mm_isRet, mm_bool, mm_call, mm_push, mm_rv, mm_cats, mm_cat, mm_look, mm_ft, mm_fv, mm_pf, mm_thr, mm_ent, mm_pad, mm_fl, beq_self_eq_true, cond_true, cond_false, Nat.reduceBEq, Nat.reduceEqDiff, List.drop_succ_cons, List.drop_zero, List.take_succ_cons, List.take_zero, List.reverse_cons, List.reverse_nil, List.nil_append, List.cons_append, List.length_cons, List.length_nil, Nat.reduceAdd, Nat.reduceSub, Nat.reduceLeDiff, Bool.not_false, Bool.and_true, Bool.true_and, Nat.zero_add, true_and, and_true, Nat.le_refl, true_or, or_true, reduceCtorEq, Nat.add_zero, Nat.reduceLT, Bool.and_self, Bool.not_true, Fin.isValue, Nat.reduceLeDiff, List.take_nil, List.drop_nil, mm_i1, mm_i2, mm_i3, mm_i4, mm_i5, mm_i6, mm_i7, mm_i16, mm_i17, mm_i18, mm_i19, mm_i20, mm_i21, mm_i22, mm_i23, mm_l3, mm_l4, mm_l5, mm_l6, mm_l7, mm_l18, mm_l19, mm_l20, mm_l21, mm_l22, kdX2_leadsBack, ct_X2_leadsBack, flX2, sp_X2_cornerOf, sp_X1_goalOf, sp_X1_sourceOf, wk_is hw]
    rw [hn]
    refine ⟨hw, ht, hv, ⟨by omega, by omega⟩, fun r hr => ?_⟩
    exact lp_X2_leadsBack hw ht hv hq n r (by omega) hr.2
  · exact h.elim
theorem me_X2_leadsBack {l : Launch} (hl : l.stackTraces = false) : mm_Met l yX2_leadsBack cX2_leadsBack 3 (some .boolean) [] 9 164 0 sp_X2_leadsBack := mm_mt hl rn_X2_leadsBack ⟨by decide, rfl⟩ kkX2_leadsBack rfl ⟨by decide, by decide⟩ flkX2 (fun _ h => nomatch h) (⟨mm_pe (me_X2_cornerOf hl) mwX2_cornerOf (mm_t1 191 rfl rfl) (Nat.le_of_ble_eq_true rfl) (Nat.le_of_ble_eq_true rfl), mm_pe (me_X1_goalOf hl) mwX1_goalOf (mm_t1 195 rfl rfl) (Nat.le_of_ble_eq_true rfl) (Nat.le_of_ble_eq_true rfl), mm_pe (me_X1_sourceOf hl) mwX1_sourceOf (mm_t2 106 rfl rfl) (Nat.le_of_ble_eq_true rfl) (Nat.le_of_ble_eq_true rfl), trivial⟩) (mm_xe0 _)
def sp_X2_isTrueWalk : mm_S := fun av M d Q => match av with
  | [.inr (.inr (.inl w))] =>  isK w ∧ tW M ∧ wV M w ∧ ∀ r, (r = 0 ∨ r = 1) → Q (.inl (some (mm_I r))) M d
  | _ => False
def ct_X2_isTrueWalk : List (Nat × mm_Ca) := [(57, (0, 3, 11, sp_X1_leaving, 0)), (30, (0, 2, 11, sp_X1_goalOf, 0)), (123, (0, 1, 12, sp_X2_leadsBack, 0))]
abbrev rr_X2_isTrueWalk (Q : mm_Q) := mm_run (mm_look flX2) (mm_look ct_X2_isTrueWalk) mm_x0 (mm_look ([] : List (Nat × Int))) (fun _ => none) 2 0 (fun _ _ => none) Q kdX2_isTrueWalk
set_option maxRecDepth 20000 in
theorem lp_X2_isTrueWalk {M : mm_M} {d : List Nat} {Q : mm_Q} {w n : Nat} (hw : isK w) (ht : tW M) (a1 : wV M w) (hn : M w 2 = n) (hq : ∀ r, (r = 0 ∨ r = 1) → Q (.inl (some (mm_I r))) M d) : ∀ (k i : Nat) (c S : Int) (x4 : Option mm_V), i + k = n → (0 ≤ c ∧ c < 10) → (0 ≤ S ∧ S < 2147483648) → rr_X2_isTrueWalk Q 9 [some (mm_R w), some (mm_I c), some (mm_I S), some (mm_I i), x4] [] M d 0 := by
  obtain ⟨v1, v2, v3⟩ := id a1
  have t1 := ht.1
  intro k
  induction k with
  | zero =>
    intro i c S x4 hi hc hS
    refine mm_run_at (stop := [9]) (S := rr_X2_isTrueWalk Q) kkX2_isTrueWalk 60 ?_ (fun _ _ _ _ _ _ _ h => h)
    simp only [mm_wp, mm_op, mm_nxt, mm_jmp, mm_at, mm_in, mm_nth, mm_set, mm_ok, mm_isL, mm_ret, mm_isRet, mm_bool, mm_call, mm_push, mm_rv, mm_cats, mm_cat, mm_look, mm_ft, mm_fv, mm_pf, mm_thr, mm_ent, mm_pad, mm_fl, beq_self_eq_true, cond_true, cond_false, Nat.reduceBEq, Nat.reduceEqDiff, List.drop_succ_cons, List.drop_zero, List.take_succ_cons, List.take_zero, List.reverse_cons, List.reverse_nil, List.nil_append, List.cons_append, List.length_cons, List.length_nil, Nat.reduceAdd, Nat.reduceSub, Nat.reduceLeDiff, Bool.not_false, Bool.and_true, Bool.true_and, Nat.zero_add, true_and, and_true, Nat.le_refl, true_or, or_true, reduceCtorEq, Nat.add_zero, Nat.reduceLT, Bool.and_self, Bool.not_true, Fin.isValue, Nat.reduceLeDiff, List.take_nil, List.drop_nil, mm_i1, mm_i2, mm_i3, mm_i4, mm_i5, mm_i6, mm_i7, mm_i16, mm_i17, mm_i18, mm_i19, mm_i20, mm_i21, mm_i22, mm_i23, mm_l3, mm_l4, mm_l5, mm_l6, mm_l7, mm_l18, mm_l19, mm_l20, mm_l21, mm_l22, kdX2_isTrueWalk, ct_X2_isTrueWalk, flX2, sp_X1_leaving, sp_X1_goalOf, sp_X2_leadsBack, wk_is hw]
    exact ⟨⟨by omega, by omega⟩, ⟨by omega, by omega⟩, fun _ => ⟨hw, ht, a1, fun r hr => ⟨hr, hq r hr⟩⟩, fun h => by omega⟩
  | succ k ih =>
    intro i c S x4 hi hc hS
    have h4 := v3 i (by omega)
    have hI : InI (S / 2 ^ (M (w + 1) i / 2).toNat) := sh_in hS
    have hp := pw_lt (k := (M (w + 1) i / 2).toNat) (by omega)
    have ho := (mm_or_bt (a := S) (b := 1 * 2 ^ (M (w + 1) i / 2).toNat) hS (by omega)).1
    refine mm_run_at (stop := [9]) (S := rr_X2_isTrueWalk Q) kkX2_isTrueWalk 80 ?_ (fun _ _ _ _ _ _ _ h => h)
    simp only [mm_wp, mm_op, mm_nxt, mm_jmp, mm_at, mm_in, mm_nth, mm_set, mm_ok, mm_isL, mm_ret, mm_isRet, mm_bool, mm_call, mm_push, mm_rv, mm_cats, mm_cat, mm_look, mm_ft, mm_fv, mm_pf, mm_thr, mm_ent, mm_pad, mm_fl, beq_self_eq_true, cond_true, cond_false, Nat.reduceBEq, Nat.reduceEqDiff, List.drop_succ_cons, List.drop_zero, List.take_succ_cons, List.take_zero, List.reverse_cons, List.reverse_nil, List.nil_append, List.cons_append, List.length_cons, List.length_nil, Nat.reduceAdd, Nat.reduceSub, Nat.reduceLeDiff, Bool.not_false, Bool.and_true, Bool.true_and, Nat.zero_add, true_and, and_true, Nat.le_refl, true_or, or_true, reduceCtorEq, Nat.add_zero, Nat.reduceLT, Bool.and_self, Bool.not_true, Fin.isValue, Nat.reduceLeDiff, List.take_nil, List.drop_nil, mm_i1, mm_i2, mm_i3, mm_i4, mm_i5, mm_i6, mm_i7, mm_i16, mm_i17, mm_i18, mm_i19, mm_i20, mm_i21, mm_i22, mm_i23, mm_l3, mm_l4, mm_l5, mm_l6, mm_l7, mm_l18, mm_l19, mm_l20, mm_l21, mm_l22, kdX2_isTrueWalk, ct_X2_isTrueWalk, flX2, sp_X1_leaving, sp_X1_goalOf, sp_X2_leadsBack, wk_is hw, wk_iw hw, wk_ln hw, tp1, Int.toNat_natCast, mm_and1 hI]
    have hb := bt_01 S (M (w + 1) i / 2).toNat
    rw [show S / 2 ^ (M (w + 1) i / 2).toNat % 2 = bt S (M (w + 1) i / 2).toNat from rfl]
    refine ⟨⟨by omega, by omega⟩, ⟨by omega, by omega⟩, fun h => by omega, fun _ => ⟨by omega, ⟨by omega, by omega⟩, by omega, ⟨by omega, by omega⟩, by omega, ⟨by omega, by omega⟩, fun _ => hq _ (Or.inl rfl), fun _ => ?_⟩⟩
    refine ⟨ht, by omega, ⟨by omega, by omega⟩, fun r hr => ⟨by omega, ⟨by omega, by omega⟩, ⟨by omega, by omega⟩, fun _ => ?_, fun _ => hq _ (Or.inl rfl)⟩⟩
    exact ⟨by omega, by omega, ht, h4, fun r2 hr2 => ih (i + 1) r2 _ _ (by omega) hr2.2 ho⟩
set_option maxRecDepth 20000 in
theorem rn_X2_isTrueWalk : mm_RN flX2 ct_X2_isTrueWalk mm_x0 [] 2 0 5 kdX2_isTrueWalk sp_X2_isTrueWalk := by
  intro av M d Q h
  unfold sp_X2_isTrueWalk at h
  split at h
  · rename_i w
    obtain ⟨hw, ht, hv, hq⟩ := h
    have v1 := hv.1
    have v2 := hv.2.1
    obtain ⟨n, hn⟩ := Int.eq_ofNat_of_zero_le v1.1
    refine ⟨Nat.le_of_ble_eq_true rfl, mm_run_at (stop := [9]) (S := rr_X2_isTrueWalk Q) kkX2_isTrueWalk 80 ?_ (fun _ _ _ _ _ _ _ h => h)⟩
    simp only [mm_wp, mm_op, mm_nxt, mm_jmp, mm_at, mm_in, mm_nth, mm_set, mm_ok, mm_isL, mm_ret, mm_isRet, mm_bool, mm_call, mm_push, mm_rv, mm_cats, mm_cat, mm_look, mm_ft, mm_fv, mm_pf, mm_thr, mm_ent, mm_pad, mm_fl, beq_self_eq_true, cond_true, cond_false, Nat.reduceBEq, Nat.reduceEqDiff, List.drop_succ_cons, List.drop_zero, List.take_succ_cons, List.take_zero, List.reverse_cons, List.reverse_nil, List.nil_append, List.cons_append, List.length_cons, List.length_nil, Nat.reduceAdd, Nat.reduceSub, Nat.reduceLeDiff, Bool.not_false, Bool.and_true, Bool.true_and, Nat.zero_add, true_and, and_true, Nat.le_refl, true_or, or_true, reduceCtorEq, Nat.add_zero, Nat.reduceLT, Bool.and_self, Bool.not_true, Fin.isValue, Nat.reduceLeDiff, List.take_nil, List.drop_nil, mm_i1, mm_i2, mm_i3, mm_i4, mm_i5, mm_i6, mm_i7, mm_i16, mm_i17, mm_i18, mm_i19, mm_i20, mm_i21, mm_i22, mm_i23, mm_l3, mm_l4, mm_l5, mm_l6, mm_l7, mm_l18, mm_l19, mm_l20, mm_l21, mm_l22, kdX2_isTrueWalk, ct_X2_isTrueWalk, flX2, sp_X1_leaving, sp_X1_goalOf, sp_X2_leadsBack, wk_is hw]
    exact lp_X2_isTrueWalk hw ht hv hn hq n 0 _ 0 none (by omega) v2 (by omega)
  · exact h.elim
theorem me_X2_isTrueWalk {l : Launch} (hl : l.stackTraces = false) : mm_Met l yX2_isTrueWalk cX2_isTrueWalk 5 (some .boolean) [] 10 186 0 sp_X2_isTrueWalk := mm_mt hl rn_X2_isTrueWalk ⟨by decide, rfl⟩ kkX2_isTrueWalk rfl ⟨by decide, by decide⟩ flkX2 (fun _ h => nomatch h) (⟨mm_pe (me_X1_leaving hl) mwX1_leaving (mm_t2 98 rfl rfl) (Nat.le_of_ble_eq_true rfl) (Nat.le_of_ble_eq_true rfl), mm_pe (me_X1_goalOf hl) mwX1_goalOf (mm_t1 195 rfl rfl) (Nat.le_of_ble_eq_true rfl) (Nat.le_of_ble_eq_true rfl), mm_pe (me_X2_leadsBack hl) mwX2_leadsBack (mm_t2 102 rfl rfl) (Nat.le_of_ble_eq_true rfl) (Nat.le_of_ble_eq_true rfl), trivial⟩) (mm_xe0 _)

