/-! the class's walks: all in order, turns, words -/
theorem frK {w : Nat} {M M' : mm_M} (h : fr [w, w + 1, 5, 6] M M') (hw : isK w) : M' 2 = M 2 ∧ M' 3 = M 3 ∧ M' 4 = M 4 := by
  have := wk_no hw
  exact ⟨h 2 (by simp; omega), h 3 (by simp; omega), h 4 (by simp; omega)⟩
theorem tWK {w : Nat} {M M' : mm_M} (ht : tW M) (h : fr [w, w + 1, 5, 6] M M') (hw : isK w) : tW M' := by
  have := wk_no hw
  exact ht.fr h (by simp; omega) (by simp; omega) (by simp; omega)
theorem wV5 {M M' : mm_M} {v : Nat} (h : wV M v) (hf : fr [5, 6] M M') (hv : isK v) : wV M' v := by
  have := wk_no hv
  exact h.to (hf v (by simp; omega)) (hf (v + 1) (by simp; omega)) (hf 2 (by simp))
def sp_X2_turnBy : mm_S := fun av M d Q => match av with
  | [.inr (.inr (.inl w)), .inl b] =>  isK w ∧ tW M ∧ wV M w ∧ wD M w ∧ (0 ≤ b ∧ b ≤ 100) ∧ ∀ M', fr [w, w + 1] M M' ∧ wV M' w ∧ wD M' w ∧ M' w 2 = M w 2 ∧ (∀ j : Nat, j < M' w 2 → ∃ i : Nat, i < M w 2 ∧ M' (w + 1) j = M (w + 1) i) ∧ rotR M M' w (if M w 2 = 0 then 0 else (b % M w 2).toNat) → Q (.inl none) M' d
  | _ => False
def ct_X2_turnBy : List (Nat × mm_Ca) := [(66, (0, 2, 12, sp_X2_stepOf, 0)), (69, (0, 1, 12, sp_X2_takeOutFirst, 0)), (39, (0, 3, 12, sp_X2_putIn, 0))]
abbrev rr_X2_turnBy (Q : mm_Q) := mm_run (mm_look flX2) (mm_look ct_X2_turnBy) mm_x0 (mm_look ([] : List (Nat × Int))) (fun _ => none) 0 0 (fun _ _ => none) Q kdX2_turnBy
set_option maxRecDepth 20000 in
theorem lp_X2_turnBy {M0 : mm_M} {d : List Nat} {Q : mm_Q} {w t : Nat} {b : Int} (hw : isK w) (ht0 : tW M0) (hv0 : wV M0 w) (h0 : 0 < M0 w 2) (hb : t ≤ 100) (hq : ∀ M', fr [w, w + 1] M0 M' ∧ wV M' w ∧ wD M' w ∧ M' w 2 = M0 w 2 ∧ (∀ j : Nat, j < M' w 2 → ∃ i : Nat, i < M0 w 2 ∧ M' (w + 1) j = M0 (w + 1) i) ∧ rotR M0 M' w t → Q (.inl none) M' d) : ∀ (k i : Nat) (M : mm_M) (x4 : Option mm_V), i + k = t → fr [w, w + 1] M0 M → wV M w → M w 2 = M0 w 2 → wD M w → (∀ j : Nat, j < M w 2 → ∃ i : Nat, i < M0 w 2 ∧ M (w + 1) j = M0 (w + 1) i) → rotR M0 M w i → rr_X2_turnBy Q 17 [some (mm_R w), some (mm_I b), some (mm_I t), some (mm_I i), x4] [] M d 0 := by
  intro k
  induction k with
  | zero =>
    intro i M x4 hi hf h1 h2 hD hE hR
    have e : i = t := by omega
    subst e
    refine mm_run_at (stop := [17]) (S := rr_X2_turnBy Q) kkX2_turnBy 60 ?_ (fun _ _ _ _ _ _ _ h => h)
    simp only [mm_wp, mm_op, mm_nxt, mm_jmp, mm_at, mm_in, mm_nth, mm_set, mm_ok, mm_isL, mm_ret, mm_isRet, mm_bool, mm_call, mm_push, mm_rv, mm_cats, mm_cat, mm_look, mm_ft, mm_fv, mm_pf, mm_thr, mm_ent, mm_pad, mm_fl, beq_self_eq_true, cond_true, cond_false, Nat.reduceBEq, Nat.reduceEqDiff, List.drop_succ_cons, List.drop_zero, List.take_succ_cons, List.take_zero, List.reverse_cons, List.reverse_nil, List.nil_append, List.cons_append, List.length_cons, List.length_nil, Nat.reduceAdd, Nat.reduceSub, Nat.reduceLeDiff, Bool.not_false, Bool.and_true, Bool.true_and, Nat.zero_add, true_and, and_true, Nat.le_refl, true_or, or_true, reduceCtorEq, Nat.add_zero, Nat.reduceLT, Bool.and_self, Bool.not_true, Fin.isValue, Nat.reduceLeDiff, List.take_nil, List.drop_nil, mm_i1, mm_i2, mm_i3, mm_i4, mm_i5, mm_i6, mm_i7, mm_i16, mm_i17, mm_i18, mm_i19, mm_i20, mm_i21, mm_i22, mm_i23, mm_l3, mm_l4, mm_l5, mm_l6, mm_l7, mm_l18, mm_l19, mm_l20, mm_l21, mm_l22, kdX2_turnBy, ct_X2_turnBy, flX2, sp_X2_stepOf, sp_X2_takeOutFirst, sp_X2_putIn, wk_is hw]
    exact ⟨⟨by omega, by omega⟩, ⟨by omega, by omega⟩, fun _ => hq M ⟨hf, h1, hD, h2, hE, hR⟩, fun h => by omega⟩
  | succ k ih =>
    intro i M x4 hi hf h1 h2 hD hE hR
    have ht := tWk ht0 hf hw
    have v1 := h1.1
    refine mm_run_at (stop := [17]) (S := rr_X2_turnBy Q) kkX2_turnBy 60 ?_ (fun _ _ _ _ _ _ _ h => h)
    simp only [mm_wp, mm_op, mm_nxt, mm_jmp, mm_at, mm_in, mm_nth, mm_set, mm_ok, mm_isL, mm_ret, mm_isRet, mm_bool, mm_call, mm_push, mm_rv, mm_cats, mm_cat, mm_look, mm_ft, mm_fv, mm_pf, mm_thr, mm_ent, mm_pad, mm_fl, beq_self_eq_true, cond_true, cond_false, Nat.reduceBEq, Nat.reduceEqDiff, List.drop_succ_cons, List.drop_zero, List.take_succ_cons, List.take_zero, List.reverse_cons, List.reverse_nil, List.nil_append, List.cons_append, List.length_cons, List.length_nil, Nat.reduceAdd, Nat.reduceSub, Nat.reduceLeDiff, Bool.not_false, Bool.and_true, Bool.true_and, Nat.zero_add, true_and, and_true, Nat.le_refl, true_or, or_true, reduceCtorEq, Nat.add_zero, Nat.reduceLT, Bool.and_self, Bool.not_true, Fin.isValue, Nat.reduceLeDiff, List.take_nil, List.drop_nil, mm_i1, mm_i2, mm_i3, mm_i4, mm_i5, mm_i6, mm_i7, mm_i16, mm_i17, mm_i18, mm_i19, mm_i20, mm_i21, mm_i22, mm_i23, mm_l3, mm_l4, mm_l5, mm_l6, mm_l7, mm_l18, mm_l19, mm_l20, mm_l21, mm_l22, kdX2_turnBy, ct_X2_turnBy, flX2, sp_X2_stepOf, sp_X2_takeOutFirst, sp_X2_putIn, wk_is hw]
    refine ⟨⟨by omega, by omega⟩, ⟨by omega, by omega⟩, fun h => by omega, fun _ => ⟨hw, ht, h1, ⟨by omega, by omega⟩, fun r hr => ⟨hw, ht, h1, fun M1 h3 => ⟨hw, h3.2.1, ?_, ?_, fun M2 h4 => ?_⟩⟩⟩⟩
    · have := h3.2.1.1
      exact ⟨by omega, by omega⟩
    · rw [hr.1]
      unfold stp stO
      rw [if_pos (by omega), (h3.1.k hw).1]
      exact h1.2.2 _ (by omega)
    · have er : r = M (w + 1) 0 := by
        rw [hr.1]
        unfold stp
        rw [if_pos (by omega)]
        rfl
      have ho := tak_out (M := mm_up M w 3 (cor M w 1)) (hD.to2 (by simp [mm_up]) (by rw [mm_up_o _ (by omega)])) h3.2.2 ⟨by omega, by simp [mm_up]; omega⟩
      have hD1 : wD M1 w := tak_wD (M := mm_up M w 3 (cor M w 1)) (hD.to2 (by simp [mm_up]) (by rw [mm_up_o _ (by omega)])) h3.2.2
      rw [mm_up_o _ (show w + 1 ≠ w by omega)] at ho
      have hz := wk_no hw
      have hR2 : rotR M0 M2 w (i + 1) := by
        rw [er] at h4
        refine rot_s (V1 := M) (V2 := mm_up M1 w 3 (M w 3)) (V3 := M1) hw hv0 h0 hR (hf.k hw) ?_ (h3.1.up (by simp)) ⟨by simp [mm_up], ?_, by rw [mm_up_o _ (by omega)]⟩ h4.2.2
        · rcases h3.2.2 with ⟨q0, q1, q2, q3⟩ | q0
          · refine Or.inl ⟨⟨by omega, by omega⟩, by simpa [mm_up] using q1, by simp [mm_up], fun x hx => ?_⟩
            have := q3 x (by simpa [mm_up] using hx)
            rw [mm_up_o _ (show w + 1 ≠ w by omega)] at this ⊢
            exact this
          · exact absurd ⟨by omega, by simp [mm_up]; omega⟩ q0.1
        · rcases h3.2.2 with ⟨q0, q1, q2, q3⟩ | q0
          · rw [q2]
            simp only [mm_up, true_and, if_true]
            unfold cor
            rw [if_pos (by omega)]
            rfl
          · exact absurd ⟨by omega, by simp [mm_up]; omega⟩ q0.1
      refine ih (i + 1) M2 _ (by omega) (hf.tr (h3.1.tr h4.1)) h4.2.1 ?_ (put_wD hD1 (by rw [er]; exact ho) h4.2.2) (fun j hj => ?_) hR2
      have e1 : M1 w 2 = M w 2 - 1 := by
        rcases h3.2.2 with h5 | h5
        · rw [h5.2.1]
          simp [mm_up]
        · exact absurd ⟨by omega, by simp [mm_up]; omega⟩ h5.1
      · rcases h4.2.2 with h5 | h5
        · rw [h5.2.1, e1]
          omega
        · exact absurd ⟨by omega, by omega, by omega⟩ h5.1
      rcases put_ix h4.2.2 j hj with ⟨b1, -⟩ | ⟨j', b0, b1, -⟩
      · rw [b1, er]
        exact hE 0 (by omega)
      · obtain ⟨j2, c0, c1, -⟩ := tak_ix h3.2.2 ⟨by omega, by simp [mm_up]; omega⟩ j' b0
        rw [b1, c1, mm_up_o _ (show w + 1 ≠ w by omega)]
        exact hE j2 (by simpa [mm_up] using c0)
set_option maxRecDepth 20000 in
theorem rn_X2_turnBy : mm_RN flX2 ct_X2_turnBy mm_x0 [] 0 0 5 kdX2_turnBy sp_X2_turnBy := by
  intro av M d Q h
  unfold sp_X2_turnBy at h
  split at h
  · rename_i w b
    obtain ⟨hw, ht, hv, hD, hb, hq⟩ := h
    have v1 := hv.1
    refine ⟨Nat.le_of_ble_eq_true rfl, mm_run_at (stop := [17]) (S := rr_X2_turnBy Q) kkX2_turnBy 80 ?_ (fun _ _ _ _ _ _ _ h => h)⟩
    simp only [mm_wp, mm_op, mm_nxt, mm_jmp, mm_at, mm_in, mm_nth, mm_set, mm_ok, mm_isL, mm_ret, mm_isRet, mm_bool, mm_call, mm_push, mm_rv, mm_cats, mm_cat, mm_look, mm_ft, mm_fv, mm_pf, mm_thr, mm_ent, mm_pad, mm_fl, beq_self_eq_true, cond_true, cond_false, Nat.reduceBEq, Nat.reduceEqDiff, List.drop_succ_cons, List.drop_zero, List.take_succ_cons, List.take_zero, List.reverse_cons, List.reverse_nil, List.nil_append, List.cons_append, List.length_cons, List.length_nil, Nat.reduceAdd, Nat.reduceSub, Nat.reduceLeDiff, Bool.not_false, Bool.and_true, Bool.true_and, Nat.zero_add, true_and, and_true, Nat.le_refl, true_or, or_true, reduceCtorEq, Nat.add_zero, Nat.reduceLT, Bool.and_self, Bool.not_true, Fin.isValue, Nat.reduceLeDiff, List.take_nil, List.drop_nil, mm_i1, mm_i2, mm_i3, mm_i4, mm_i5, mm_i6, mm_i7, mm_i16, mm_i17, mm_i18, mm_i19, mm_i20, mm_i21, mm_i22, mm_i23, mm_l3, mm_l4, mm_l5, mm_l6, mm_l7, mm_l18, mm_l19, mm_l20, mm_l21, mm_l22, kdX2_turnBy, ct_X2_turnBy, flX2, sp_X2_stepOf, sp_X2_takeOutFirst, sp_X2_putIn, wk_is hw]
    rw [Int.tmod_eq_emod_of_nonneg hb.1]
    refine ⟨⟨by omega, by omega⟩, fun h => ⟨⟨by omega, by omega⟩, ⟨by omega, by omega⟩, by omega, ?_⟩, fun h => hq M ⟨fr.rf, hv, hD, rfl, fun j hj => ⟨j, hj, rfl⟩, by rw [if_pos (by omega)]; exact rot_0 hv⟩⟩
    have h2 := Int.emod_nonneg b (show M w 2 ≠ 0 by omega)
    have h3 := Int.emod_lt_of_pos b (show 0 < M w 2 by omega)
    obtain ⟨t, e⟩ := Int.eq_ofNat_of_zero_le h2
    rw [if_neg (by omega), e] at hq
    rw [e]
    exact lp_X2_turnBy hw ht hv (by omega) (by omega) hq t 0 M none (by omega) fr.rf hv rfl hD (fun j hj => ⟨j, hj, rfl⟩) (rot_0 hv)
  · exact h.elim
theorem me_X2_turnBy {l : Launch} (hl : l.stackTraces = false) : mm_Met l yX2_turnBy cX2_turnBy 5 none [] 10 184 0 sp_X2_turnBy := mm_mt hl rn_X2_turnBy ⟨plX2, rfl⟩ kkX2_turnBy rfl ⟨Nat.le_of_ble_eq_true rfl, Nat.le_of_ble_eq_true rfl⟩ flkX2 (fun _ h => nomatch h) (⟨mm_pe (me_X2_stepOf hl) mwX2_stepOf (mm_t3 239 rfl rfl) (Nat.le_of_ble_eq_true rfl) (Nat.le_of_ble_eq_true rfl), mm_pe (me_X2_takeOutFirst hl) mwX2_takeOutFirst (mm_t4 0 rfl rfl) (Nat.le_of_ble_eq_true rfl) (Nat.le_of_ble_eq_true rfl), mm_pe (me_X2_putIn hl) mwX2_putIn (mm_t2 134 rfl rfl) (Nat.le_of_ble_eq_true rfl) (Nat.le_of_ble_eq_true rfl), trivial⟩) (mm_xe0 _) n9X2
def sp_X2_fillInOrder : mm_S := fun av M d Q => match av with
  | [.inr (.inr (.inl w)), .inl up] =>  isK w ∧ tW M ∧ wV M w ∧ wD M w ∧ (up = 0 ∨ up = 1) ∧ ∀ M' (m : Nat), fr [w, w + 1, 5, 6] M M' ∧ wV M' w ∧ wD M' w ∧ M' w 2 = M w 2 + m ∧ filR up w m M M' → Q (.inl none) M' d
  | _ => False
def ct_X2_fillInOrder : List (Nat × mm_Ca) := [(35, (0, 1, 11, sp_X1_size, 0)), (72, (0, 1, 12, sp_X2_notWalked, 0)), (54, (0, 1, 12, sp_X2_lastCorner, 0)), (100, (0, 5, 11, sp_X1_stepToWhole, 0)), (39, (0, 3, 12, sp_X2_putIn, 0))]
abbrev rr_X2_fillInOrder (Q : mm_Q) := mm_run (mm_look flX2) (mm_look ct_X2_fillInOrder) mm_x0 (mm_look ([] : List (Nat × Int))) (fun _ => none) 0 0 (fun _ _ => none) Q kdX2_fillInOrder
set_option maxRecDepth 20000 in
theorem lp_X2_fillInOrder {d : List Nat} {w : Nat} {up b : Int} (hw : isK w) (hu : up = 0 ∨ up = 1) : ∀ (k i : Nat) (M : mm_M) (Q : mm_Q) (x4 : Option mm_V), M 2 4 ≤ i + k → tW M → wV M w → wD M w → M w 2 = i → b = filB M up → (∀ M' (m : Nat), fr [w, w + 1, 5, 6] M M' ∧ wV M' w ∧ wD M' w ∧ M' w 2 = M w 2 + m ∧ filR up w m M M' → Q (.inl none) M' d) → rr_X2_fillInOrder Q 21 [some (mm_R w), some (mm_I up), some (mm_I b), some (mm_I i), x4] [] M d 0 := by
  intro k
  induction k with
  | zero =>
    intro i M Q x4 hi ht h1 hD hi2 hb hq
    have t1 := ht.1
    have v1 := h1.1
    refine mm_run_at (stop := [21]) (S := rr_X2_fillInOrder Q) kkX2_fillInOrder 60 ?_ (fun _ _ _ _ _ _ _ h => h)
    simp only [mm_wp, mm_op, mm_nxt, mm_jmp, mm_at, mm_in, mm_nth, mm_set, mm_ok, mm_isL, mm_ret, mm_isRet, mm_bool, mm_call, mm_push, mm_rv, mm_cats, mm_cat, mm_look, mm_ft, mm_fv, mm_pf, mm_thr, mm_ent, mm_pad, mm_fl, beq_self_eq_true, cond_true, cond_false, Nat.reduceBEq, Nat.reduceEqDiff, List.drop_succ_cons, List.drop_zero, List.take_succ_cons, List.take_zero, List.reverse_cons, List.reverse_nil, List.nil_append, List.cons_append, List.length_cons, List.length_nil, Nat.reduceAdd, Nat.reduceSub, Nat.reduceLeDiff, Bool.not_false, Bool.and_true, Bool.true_and, Nat.zero_add, true_and, and_true, Nat.le_refl, true_or, or_true, reduceCtorEq, Nat.add_zero, Nat.reduceLT, Bool.and_self, Bool.not_true, Fin.isValue, Nat.reduceLeDiff, List.take_nil, List.drop_nil, mm_i1, mm_i2, mm_i3, mm_i4, mm_i5, mm_i6, mm_i7, mm_i16, mm_i17, mm_i18, mm_i19, mm_i20, mm_i21, mm_i22, mm_i23, mm_l3, mm_l4, mm_l5, mm_l6, mm_l7, mm_l18, mm_l19, mm_l20, mm_l21, mm_l22, kdX2_fillInOrder, ct_X2_fillInOrder, flX2, sp_X1_size, sp_X2_notWalked, sp_X2_lastCorner, sp_X1_stepToWhole, sp_X2_putIn, wk_is hw]
    exact ⟨⟨by omega, by omega⟩, ⟨by omega, by omega⟩, fun _ => hq M 0 ⟨fr.rf, h1, hD, by omega, full_wh ht h1 hD (by omega) (nwk_lfX ht h1), fr.rf⟩, fun h => by omega⟩
  | succ k ih =>
    intro i M Q x4 hi ht h1 hD hi2 hb hq
    have v1 := h1.1
    have t2 := ht.1
    have hz := wk_no hw
    have hbb : -1 ≤ b ∧ b ≤ M 2 4 := by rw [hb]; unfold filB; split <;> omega
    refine mm_run_at (stop := [21]) (S := rr_X2_fillInOrder Q) kkX2_fillInOrder 60 ?_ (fun _ _ _ _ _ _ _ h => h)
    simp only [mm_wp, mm_op, mm_nxt, mm_jmp, mm_at, mm_in, mm_nth, mm_set, mm_ok, mm_isL, mm_ret, mm_isRet, mm_bool, mm_call, mm_push, mm_rv, mm_cats, mm_cat, mm_look, mm_ft, mm_fv, mm_pf, mm_thr, mm_ent, mm_pad, mm_fl, beq_self_eq_true, cond_true, cond_false, Nat.reduceBEq, Nat.reduceEqDiff, List.drop_succ_cons, List.drop_zero, List.take_succ_cons, List.take_zero, List.reverse_cons, List.reverse_nil, List.nil_append, List.cons_append, List.length_cons, List.length_nil, Nat.reduceAdd, Nat.reduceSub, Nat.reduceLeDiff, Bool.not_false, Bool.and_true, Bool.true_and, Nat.zero_add, true_and, and_true, Nat.le_refl, true_or, or_true, reduceCtorEq, Nat.add_zero, Nat.reduceLT, Bool.and_self, Bool.not_true, Fin.isValue, Nat.reduceLeDiff, List.take_nil, List.drop_nil, mm_i1, mm_i2, mm_i3, mm_i4, mm_i5, mm_i6, mm_i7, mm_i16, mm_i17, mm_i18, mm_i19, mm_i20, mm_i21, mm_i22, mm_i23, mm_l3, mm_l4, mm_l5, mm_l6, mm_l7, mm_l18, mm_l19, mm_l20, mm_l21, mm_l22, kdX2_fillInOrder, ct_X2_fillInOrder, flX2, sp_X1_size, sp_X2_notWalked, sp_X2_lastCorner, sp_X1_stepToWhole, sp_X2_putIn, wk_is hw]
    refine ⟨⟨by omega, by omega⟩, ⟨by omega, by omega⟩, fun h => hq M 0 ⟨fr.rf, h1, hD, by omega, full_wh ht h1 hD (by omega) (nwk_lfX ht h1), fr.rf⟩, fun _ => ⟨hw, ht, h1, fun r hr => ⟨hw, ht, h1, fun r2 hr2 => ⟨ht, hr.2, ⟨by omega, by omega⟩, hbb, hu, fun M1 r3 h3 => ⟨?_, fun h4 => ?_, fun h4 => ?_⟩⟩⟩⟩⟩
    · have := h3.2.2
      exact ⟨by omega, by omega⟩
    · have h6 := wV5 h1 h3.1 hw
      have h7 := h6.1
      have e3 : M1 2 = M 2 := h3.1 2 (by simp)
      have ew : M1 w = M w := h3.1 w (by simp; omega)
      have hwh := h3.2.1
      rw [hr.1, hr2.1, hb] at hwh
      have hN : wN M w (r3 / 2) := by
        have hl : lft M w r := by rw [hr.1]; exact nwk_lft ht h1
        exact lft_r hl (by omega) (h3.2.2.2.2 h4)
      have hlt := wD_lt h1 hD (s := r3 / 2) (by have := h3.2.2; omega) hN
      refine ⟨hw, h6, ⟨by omega, by omega⟩, ⟨h4, by rw [e3]; exact h3.2.2.2.1⟩, fun M2 h5 => ?_⟩
      obtain ⟨p1, p2, p3⟩ := put_at h5.2.2 ⟨by omega, by omega, by rw [ew]; omega⟩
      have hf2 : fr [w, w + 1, 5, 6] M M2 := (h3.1.mono (by simp)).tr (h5.1.mono (by simp))
      refine ih (i + 1) M2 Q _ (by rw [(frK hf2 hw).1]; omega) (tWK ht hf2 hw) h5.2.1 (put_wD (wD5 hD h3.1 hw) (hN.to ew (h3.1 (w + 1) (by simp; omega))) h5.2.2) (by rw [p1, ew]; omega) (by rw [hb]; unfold filB; rw [(frK hf2 hw).1]) (fun M' m h => hq M' (m + 1) ⟨hf2.tr h.1, h.2.1, h.2.2.1, by have := h.2.2.2.1; rw [p1, ew] at this; omega, r3, M1, M2, hwh, h4, h3.2.2.2.1, h3.1, h5.2.2, h5.1, h.2.2.2.2⟩)
    · have hwh := h3.2.1
      rw [hr.1, hr2.1, hb, show r3 = -1 by have := h3.2.2; omega] at hwh
      exact hq M1 0 ⟨h3.1.mono (by simp), wV5 h1 h3.1 hw, wD5 hD h3.1 hw, by rw [h3.1 w (by simp; omega)]; omega, hwh, h3.1⟩
set_option maxRecDepth 20000 in
theorem rn_X2_fillInOrder : mm_RN flX2 ct_X2_fillInOrder mm_x0 [] 0 0 5 kdX2_fillInOrder sp_X2_fillInOrder := by
  intro av M d Q h
  unfold sp_X2_fillInOrder at h
  split at h
  · rename_i w up
    obtain ⟨hw, ht, hv, hD, hu, hq⟩ := h
    have v1 := hv.1
    have t1 := ht.1
    obtain ⟨n, hn⟩ := Int.eq_ofNat_of_zero_le v1.1
    refine ⟨Nat.le_of_ble_eq_true rfl, mm_run_at (stop := [21]) (S := rr_X2_fillInOrder Q) kkX2_fillInOrder 80 ?_ (fun _ _ _ _ _ _ _ h => h)⟩
    simp only [mm_wp, mm_op, mm_nxt, mm_jmp, mm_at, mm_in, mm_nth, mm_set, mm_ok, mm_isL, mm_ret, mm_isRet, mm_bool, mm_call, mm_push, mm_rv, mm_cats, mm_cat, mm_look, mm_ft, mm_fv, mm_pf, mm_thr, mm_ent, mm_pad, mm_fl, beq_self_eq_true, cond_true, cond_false, Nat.reduceBEq, Nat.reduceEqDiff, List.drop_succ_cons, List.drop_zero, List.take_succ_cons, List.take_zero, List.reverse_cons, List.reverse_nil, List.nil_append, List.cons_append, List.length_cons, List.length_nil, Nat.reduceAdd, Nat.reduceSub, Nat.reduceLeDiff, Bool.not_false, Bool.and_true, Bool.true_and, Nat.zero_add, true_and, and_true, Nat.le_refl, true_or, or_true, reduceCtorEq, Nat.add_zero, Nat.reduceLT, Bool.and_self, Bool.not_true, Fin.isValue, Nat.reduceLeDiff, List.take_nil, List.drop_nil, mm_i1, mm_i2, mm_i3, mm_i4, mm_i5, mm_i6, mm_i7, mm_i16, mm_i17, mm_i18, mm_i19, mm_i20, mm_i21, mm_i22, mm_i23, mm_l3, mm_l4, mm_l5, mm_l6, mm_l7, mm_l18, mm_l19, mm_l20, mm_l21, mm_l22, kdX2_fillInOrder, ct_X2_fillInOrder, flX2, sp_X1_size, sp_X2_notWalked, sp_X2_lastCorner, sp_X1_stepToWhole, sp_X2_putIn, wk_is hw]
    refine ⟨⟨by omega, by omega⟩, fun h => ?_, fun h => ?_⟩
    · rw [hn]
      exact lp_X2_fillInOrder hw hu 30 n M Q none (by omega) ht hv hD hn (by unfold filB; rw [if_neg (by omega)]) hq
    · rw [hn]
      exact lp_X2_fillInOrder hw hu 30 n M Q none (by omega) ht hv hD hn (by unfold filB; rw [if_pos (by omega)]) hq
  · exact h.elim
theorem me_X2_fillInOrder {l : Launch} (hl : l.stackTraces = false) : mm_Met l yX2_fillInOrder cX2_fillInOrder 5 none [] 11 214 0 sp_X2_fillInOrder := mm_mt hl rn_X2_fillInOrder ⟨plX2, rfl⟩ kkX2_fillInOrder rfl ⟨Nat.le_of_ble_eq_true rfl, Nat.le_of_ble_eq_true rfl⟩ flkX2 (fun _ h => nomatch h) (⟨mm_pe (me_X1_size hl) mwX1_size (mm_t2 142 rfl rfl) (Nat.le_of_ble_eq_true rfl) (Nat.le_of_ble_eq_true rfl), mm_pe (me_X2_notWalked hl) mwX2_notWalked (mm_t2 124 rfl rfl) (Nat.le_of_ble_eq_true rfl) (Nat.le_of_ble_eq_true rfl), mm_pe (me_X2_lastCorner hl) mwX2_lastCorner (mm_t1 187 rfl rfl) (Nat.le_of_ble_eq_true rfl) (Nat.le_of_ble_eq_true rfl), mm_pe (me_X1_stepToWhole hl) mwX1_stepToWhole (mm_t4 102 rfl rfl) (Nat.le_of_ble_eq_true rfl) (Nat.le_of_ble_eq_true rfl), mm_pe (me_X2_putIn hl) mwX2_putIn (mm_t2 134 rfl rfl) (Nat.le_of_ble_eq_true rfl) (Nat.le_of_ble_eq_true rfl), trivial⟩) (mm_xe0 _) n9X2
def sp_X2_becomeNeighbour : mm_S := fun av M d Q => match av with
  | [.inr (.inr (.inl w)), .inl up] =>  isK w ∧ tW M ∧ wV M w ∧ wD M w ∧ (up = 0 ∨ up = 1) ∧ ∀ M' r, fr [w, w + 1, 5, 6] M M' ∧ wV M' w ∧ wD M' w ∧ (-1 ≤ r ∧ r ≤ 30) ∧ nxR up w M M' r → Q (.inl (some (mm_I r))) M' d
  | _ => False
def ct_X2_becomeNeighbour : List (Nat × mm_Ca) := [(104, (0, 2, 12, sp_X2_stepBack, 0)), (72, (0, 1, 12, sp_X2_notWalked, 0)), (54, (0, 1, 12, sp_X2_lastCorner, 0)), (100, (0, 5, 11, sp_X1_stepToWhole, 0)), (39, (0, 3, 12, sp_X2_putIn, 0)), (108, (0, 2, 12, sp_X2_fillInOrder, 0))]
abbrev rr_X2_becomeNeighbour (Q : mm_Q) := mm_run (mm_look flX2) (mm_look ct_X2_becomeNeighbour) mm_x0 (mm_look ([] : List (Nat × Int))) (fun _ => none) 1 0 (fun _ _ => none) Q kdX2_becomeNeighbour
set_option maxRecDepth 20000 in
theorem lp_X2_becomeNeighbour {M0 : mm_M} {d : List Nat} {Q : mm_Q} {w : Nat} {up : Int} (hw : isK w) (ht0 : tW M0) (hv0 : wV M0 w) (hu : up = 0 ∨ up = 1) (hq : ∀ M' r, fr [w, w + 1, 5, 6] M0 M' ∧ wV M' w ∧ wD M' w ∧ (-1 ≤ r ∧ r ≤ 30) ∧ nxR up w M0 M' r → Q (.inl (some (mm_I r))) M' d) : ∀ (k : Nat) (M : mm_M) (x3 x4 : Option mm_V), M w 2 = k → fr [w, w + 1, 5, 6] M0 M → wV M w → wD M w → k ≤ M0 w 2 → M w 3 = M0 w 3 → M (w + 1) = M0 (w + 1) → (∀ j : Nat, k ≤ j → j < M0 w 2 → nxS M0 w j up (-1)) → rr_X2_becomeNeighbour Q 7 [some (mm_R w), some (mm_I up), some (mm_I ((k : Int) - 1)), x3, x4] [] M d 0 := by
  have t1 := ht0.1
  intro k
  induction k with
  | zero =>
    intro M x3 x4 hi hf h1 hD hk hb hs hJ
    refine mm_run_at (stop := [7]) (S := rr_X2_becomeNeighbour Q) kkX2_becomeNeighbour 60 ?_ (fun _ _ _ _ _ _ _ h => h)
    simp only [mm_wp, mm_op, mm_nxt, mm_jmp, mm_at, mm_in, mm_nth, mm_set, mm_ok, mm_isL, mm_ret, mm_isRet, mm_bool, mm_call, mm_push, mm_rv, mm_cats, mm_cat, mm_look, mm_ft, mm_fv, mm_pf, mm_thr, mm_ent, mm_pad, mm_fl, beq_self_eq_true, cond_true, cond_false, Nat.reduceBEq, Nat.reduceEqDiff, List.drop_succ_cons, List.drop_zero, List.take_succ_cons, List.take_zero, List.reverse_cons, List.reverse_nil, List.nil_append, List.cons_append, List.length_cons, List.length_nil, Nat.reduceAdd, Nat.reduceSub, Nat.reduceLeDiff, Bool.not_false, Bool.and_true, Bool.true_and, Nat.zero_add, true_and, and_true, Nat.le_refl, true_or, or_true, reduceCtorEq, Nat.add_zero, Nat.reduceLT, Bool.and_self, Bool.not_true, Fin.isValue, Nat.reduceLeDiff, List.take_nil, List.drop_nil, mm_i1, mm_i2, mm_i3, mm_i4, mm_i5, mm_i6, mm_i7, mm_i16, mm_i17, mm_i18, mm_i19, mm_i20, mm_i21, mm_i22, mm_i23, mm_l3, mm_l4, mm_l5, mm_l6, mm_l7, mm_l18, mm_l19, mm_l20, mm_l21, mm_l22, kdX2_becomeNeighbour, ct_X2_becomeNeighbour, flX2, sp_X2_stepBack, sp_X2_notWalked, sp_X2_lastCorner, sp_X1_stepToWhole, sp_X2_putIn, sp_X2_fillInOrder, wk_is hw]
    exact ⟨⟨by omega, by omega⟩, fun _ => hq M _ ⟨hf, h1, hD, ⟨by omega, by omega⟩, Or.inl ⟨rfl, fun j hj => hJ j (by omega) hj⟩⟩, fun h => by omega⟩
  | succ k ih =>
    intro M x3 x4 hi hf h1 hD hk hb hs hJ
    have e := (frK hf hw).1
    have ht := tWK ht0 hf hw
    have v1 := h1.1
    refine mm_run_at (stop := [7]) (S := rr_X2_becomeNeighbour Q) kkX2_becomeNeighbour 80 ?_ (fun _ _ _ _ _ _ _ h => h)
    simp only [mm_wp, mm_op, mm_nxt, mm_jmp, mm_at, mm_in, mm_nth, mm_set, mm_ok, mm_isL, mm_ret, mm_isRet, mm_bool, mm_call, mm_push, mm_rv, mm_cats, mm_cat, mm_look, mm_ft, mm_fv, mm_pf, mm_thr, mm_ent, mm_pad, mm_fl, beq_self_eq_true, cond_true, cond_false, Nat.reduceBEq, Nat.reduceEqDiff, List.drop_succ_cons, List.drop_zero, List.take_succ_cons, List.take_zero, List.reverse_cons, List.reverse_nil, List.nil_append, List.cons_append, List.length_cons, List.length_nil, Nat.reduceAdd, Nat.reduceSub, Nat.reduceLeDiff, Bool.not_false, Bool.and_true, Bool.true_and, Nat.zero_add, true_and, and_true, Nat.le_refl, true_or, or_true, reduceCtorEq, Nat.add_zero, Nat.reduceLT, Bool.and_self, Bool.not_true, Fin.isValue, Nat.reduceLeDiff, List.take_nil, List.drop_nil, mm_i1, mm_i2, mm_i3, mm_i4, mm_i5, mm_i6, mm_i7, mm_i16, mm_i17, mm_i18, mm_i19, mm_i20, mm_i21, mm_i22, mm_i23, mm_l3, mm_l4, mm_l5, mm_l6, mm_l7, mm_l18, mm_l19, mm_l20, mm_l21, mm_l22, kdX2_becomeNeighbour, ct_X2_becomeNeighbour, flX2, sp_X2_stepBack, sp_X2_notWalked, sp_X2_lastCorner, sp_X1_stepToWhole, sp_X2_putIn, sp_X2_fillInOrder, wk_is hw, tp1]
    refine ⟨⟨by omega, by omega⟩, fun h => by omega, fun _ => ⟨hw, ht, h1, fun M1 r h3 => ?_⟩⟩
    have ht1 := tWk ht h3.1 hw
    have e1 := (h3.1.k hw).1
    obtain ⟨b1, b2, b3⟩ := h3.2.2.2 (by omega)
    have hz := wk_no hw
    have hM1 : M1 = mm_up M w 2 (M w 2 - 1) := (b3.2 trivial).2
    have er : r = M0 (w + 1) k := by
      rw [(b3.2 trivial).1, hs]
      congr 1
      omega
    have hD1 : wD M1 w := by
      rw [hM1]
      intro x y hx hy e
      simp [mm_up] at hx hy e
      exact hD x y (by omega) (by omega) e
    have c2 : M1 w 2 = k := by omega
    have c3 : M1 w 3 = M0 w 3 := by rw [hM1, mm_up_ob2 (by omega)]; exact hb
    have cs : M1 (w + 1) = M0 (w + 1) := by rw [hM1, mm_up_o _ (by omega)]; exact hs
    have hTc : TE M1 (ctW M0 w k) := ((TE.ofr (hf.tr (h3.1.mono (by simp))) (by simp; omega) (by simp; omega) (by simp; omega)).sy).tr (ct_TE hw)
    have hSc : SW M1 (ctW M0 w k) w := ⟨by rw [c2]; simp [ctW, mm_up], by rw [c3]; simp [ctW, mm_up], fun x hx => by rw [cs, ctW, mm_up_o _ (by omega)]⟩
    unfold stO at b1
    have t3 := ht.1
    refine ⟨hw, ht1, h3.2.1, fun r1 hr1 => ⟨hw, ht1, h3.2.1, fun r2 hr2 => ⟨⟨by omega, by omega⟩, by omega, ht1, hr1.2, ⟨by omega, by omega⟩, ?_, hu, fun M2 r3 h5 => ?_⟩⟩⟩
    · rw [e1, e]
      rw [e] at b1
      omega
    have hnx : nxS M0 w k up r3 := by
      have h9 := whR_te hTc h5.2.1
      unfold nxS
      rw [hr1.1, hr2.1, er, nwk_te hTc hSc _ (by omega), cor_te hTc hSc h3.2.1, c2] at h9
      exact h9
    have d2 : M2 w = M1 w := h5.1 w (by simp; omega)
    have ds : M2 (w + 1) = M1 (w + 1) := h5.1 (w + 1) (by simp; omega)
    have hf2 : fr [w, w + 1, 5, 6] M0 M2 := hf.tr ((h3.1.mono (by simp)).tr (h5.1.mono (by simp)))
    refine ⟨?_, fun h6 => ?_, fun h6 => ?_⟩
    · have := h5.2.2
      rw [e1, e] at this
      exact ⟨by omega, by omega⟩
    · have h7 := ih M2 (some (mm_I r)) (some (mm_I r3)) (by rw [d2]; exact c2) hf2 (wV5 h3.2.1 h5.1 hw) (wD5 hD1 h5.1 hw) (by omega) (by rw [d2]; exact c3) (by rw [ds]; exact cs) (fun j hj hj2 => by
        by_cases ej : j = k
        · subst ej
          rw [show r3 = -1 by have := h5.2.2; omega] at hnx
          exact hnx
        · exact hJ j (by omega) hj2)
      rw [show ((k + 1 : Nat) : Int) - 1 + -1 = (k : Int) - 1 by omega]
      exact h7
    · have e5 : M2 2 = M1 2 := h5.1 2 (by simp)
      have h8 := wV5 h3.2.1 h5.1 hw
      have hl : lft M1 w r1 := by rw [hr1.1]; exact nwk_lft ht1 h3.2.1
      have hN := lft_r hl (by have := h5.2.2.2.1; rw [e1] at this; omega) (h5.2.2.2.2 h6)
      have hN2 : wN M2 w (r3 / 2) := hN.to d2 ds
      rw [show ((k + 1 : Nat) : Int) - 1 = k by omega]
      refine ⟨hw, h8, ⟨by omega, by omega⟩, ⟨h6, by rw [e5]; exact h5.2.2.2.1⟩, fun M3 h9 => ⟨hw, tWk (ht1.fr h5.1 (by simp) (by simp) (by simp)) h9.1 hw, h9.2.1, put_wD (wD5 hD1 h5.1 hw) hN2 h9.2.2, hu, fun M4 m h10 => hq M4 _ ⟨hf2.tr ((h9.1.mono (by simp)).tr h10.1), h10.2.1, h10.2.2.1, ⟨by omega, by omega⟩, Or.inr ⟨k, rfl, by omega, fun j hj hj2 => hJ j (by omega) hj2, r3, M2, M3, m, hnx, h6, by rw [← e, ← e1]; exact h5.2.2.2.1, hf2, by rw [d2]; exact c2, by rw [d2]; exact c3, by rw [ds]; exact cs, h9.2.2, h9.1, h10.2.2.2.2⟩⟩⟩⟩
set_option maxRecDepth 20000 in
theorem rn_X2_becomeNeighbour : mm_RN flX2 ct_X2_becomeNeighbour mm_x0 [] 1 0 5 kdX2_becomeNeighbour sp_X2_becomeNeighbour := by
  intro av M d Q h
  unfold sp_X2_becomeNeighbour at h
  split at h
  · rename_i w up
    obtain ⟨hw, ht, hv, hD, hu, hq⟩ := h
    have v1 := hv.1
    obtain ⟨n, hn⟩ := Int.eq_ofNat_of_zero_le v1.1
    refine ⟨Nat.le_of_ble_eq_true rfl, mm_run_at (stop := [7]) (S := rr_X2_becomeNeighbour Q) kkX2_becomeNeighbour 80 ?_ (fun _ _ _ _ _ _ _ h => h)⟩
    simp only [mm_wp, mm_op, mm_nxt, mm_jmp, mm_at, mm_in, mm_nth, mm_set, mm_ok, mm_isL, mm_ret, mm_isRet, mm_bool, mm_call, mm_push, mm_rv, mm_cats, mm_cat, mm_look, mm_ft, mm_fv, mm_pf, mm_thr, mm_ent, mm_pad, mm_fl, beq_self_eq_true, cond_true, cond_false, Nat.reduceBEq, Nat.reduceEqDiff, List.drop_succ_cons, List.drop_zero, List.take_succ_cons, List.take_zero, List.reverse_cons, List.reverse_nil, List.nil_append, List.cons_append, List.length_cons, List.length_nil, Nat.reduceAdd, Nat.reduceSub, Nat.reduceLeDiff, Bool.not_false, Bool.and_true, Bool.true_and, Nat.zero_add, true_and, and_true, Nat.le_refl, true_or, or_true, reduceCtorEq, Nat.add_zero, Nat.reduceLT, Bool.and_self, Bool.not_true, Fin.isValue, Nat.reduceLeDiff, List.take_nil, List.drop_nil, mm_i1, mm_i2, mm_i3, mm_i4, mm_i5, mm_i6, mm_i7, mm_i16, mm_i17, mm_i18, mm_i19, mm_i20, mm_i21, mm_i22, mm_i23, mm_l3, mm_l4, mm_l5, mm_l6, mm_l7, mm_l18, mm_l19, mm_l20, mm_l21, mm_l22, kdX2_becomeNeighbour, ct_X2_becomeNeighbour, flX2, sp_X2_stepBack, sp_X2_notWalked, sp_X2_lastCorner, sp_X1_stepToWhole, sp_X2_putIn, sp_X2_fillInOrder, wk_is hw]
    rw [hn]
    exact lp_X2_becomeNeighbour hw ht hv hu hq n M none none hn fr.rf hv hD (by omega) rfl rfl (fun j hj hj2 => by omega)
  · exact h.elim
theorem me_X2_becomeNeighbour {l : Launch} (hl : l.stackTraces = false) : mm_Met l yX2_becomeNeighbour cX2_becomeNeighbour 5 (some .int) [] 12 238 0 sp_X2_becomeNeighbour := mm_mt hl rn_X2_becomeNeighbour ⟨plX2, rfl⟩ kkX2_becomeNeighbour rfl ⟨Nat.le_of_ble_eq_true rfl, Nat.le_of_ble_eq_true rfl⟩ flkX2 (fun _ h => nomatch h) (⟨mm_pe (me_X2_stepBack hl) mwX2_stepBack (mm_t4 121 rfl rfl) (Nat.le_of_ble_eq_true rfl) (Nat.le_of_ble_eq_true rfl), mm_pe (me_X2_notWalked hl) mwX2_notWalked (mm_t2 124 rfl rfl) (Nat.le_of_ble_eq_true rfl) (Nat.le_of_ble_eq_true rfl), mm_pe (me_X2_lastCorner hl) mwX2_lastCorner (mm_t1 187 rfl rfl) (Nat.le_of_ble_eq_true rfl) (Nat.le_of_ble_eq_true rfl), mm_pe (me_X1_stepToWhole hl) mwX1_stepToWhole (mm_t4 102 rfl rfl) (Nat.le_of_ble_eq_true rfl) (Nat.le_of_ble_eq_true rfl), mm_pe (me_X2_putIn hl) mwX2_putIn (mm_t2 134 rfl rfl) (Nat.le_of_ble_eq_true rfl) (Nat.le_of_ble_eq_true rfl), mm_pe (me_X2_fillInOrder hl) mwX2_fillInOrder (mm_t4 122 rfl rfl) (Nat.le_of_ble_eq_true rfl) (Nat.le_of_ble_eq_true rfl), trivial⟩) (mm_xe0 _) n9X2
def sp_X2_isSameTurned : mm_S := fun av M d Q => match av with
  | [.inr (.inr (.inl w)), .inr (.inr (.inl v)), .inl b] =>  isK w ∧ isK v ∧ tW M ∧ wV M w ∧ wV M v ∧ (0 ≤ b ∧ b ≤ 100) ∧ ∀ r, (r = 0 ∨ r = 1) ∧ (r = 1 ↔ (M w 2 = M v 2 ∧ tnR M w v b.toNat)) → Q (.inl (some (mm_I r))) M d
  | _ => False
def ct_X2_isSameTurned : List (Nat × mm_Ca) := [(26, (0, 2, 12, sp_X2_cornerOf, 0))]
abbrev rr_X2_isSameTurned (Q : mm_Q) := mm_run (mm_look flX2) (mm_look ct_X2_isSameTurned) mm_x0 (mm_look ([] : List (Nat × Int))) (fun _ => none) 2 0 (fun _ _ => none) Q kdX2_isSameTurned
set_option maxRecDepth 20000 in
theorem lp_X2_isSameTurned {M : mm_M} {d : List Nat} {Q : mm_Q} {w v n b : Nat} (hw : isK w) (hv : isK v) (ht : tW M) (a1 : wV M w) (a2 : wV M v) (hb : b ≤ 100) (hn : M w 2 = n) (hnv : M v 2 = n) (q1 : (∀ i : Nat, i < n → M (w + 1) ((i + b) % n) = M (v + 1) i) → Q (.inl (some (mm_I 1))) M d) (q0 : ¬ (∀ i : Nat, i < n → M (w + 1) ((i + b) % n) = M (v + 1) i) → Q (.inl (some (mm_I 0))) M d) : ∀ (k i : Nat), i + k = n → (∀ x : Nat, x < i → M (w + 1) ((x + b) % n) = M (v + 1) x) → rr_X2_isSameTurned Q 27 [some (mm_R w), some (mm_R v), some (mm_I b), some (mm_I i)] [] M d 0 := by
  obtain ⟨v1, v2, v3⟩ := id a1
  obtain ⟨u1, u2, u3⟩ := id a2
  have t1 := ht.1
  intro k
  induction k with
  | zero =>
    intro i hi hI
    refine mm_run_at (stop := [27]) (S := rr_X2_isSameTurned Q) kkX2_isSameTurned 60 ?_ (fun _ _ _ _ _ _ _ h => h)
    simp only [mm_wp, mm_op, mm_nxt, mm_jmp, mm_at, mm_in, mm_nth, mm_set, mm_ok, mm_isL, mm_ret, mm_isRet, mm_bool, mm_call, mm_push, mm_rv, mm_cats, mm_cat, mm_look, mm_ft, mm_fv, mm_pf, mm_thr, mm_ent, mm_pad, mm_fl, beq_self_eq_true, cond_true, cond_false, Nat.reduceBEq, Nat.reduceEqDiff, List.drop_succ_cons, List.drop_zero, List.take_succ_cons, List.take_zero, List.reverse_cons, List.reverse_nil, List.nil_append, List.cons_append, List.length_cons, List.length_nil, Nat.reduceAdd, Nat.reduceSub, Nat.reduceLeDiff, Bool.not_false, Bool.and_true, Bool.true_and, Nat.zero_add, true_and, and_true, Nat.le_refl, true_or, or_true, reduceCtorEq, Nat.add_zero, Nat.reduceLT, Bool.and_self, Bool.not_true, Fin.isValue, Nat.reduceLeDiff, List.take_nil, List.drop_nil, mm_i1, mm_i2, mm_i3, mm_i4, mm_i5, mm_i6, mm_i7, mm_i16, mm_i17, mm_i18, mm_i19, mm_i20, mm_i21, mm_i22, mm_i23, mm_l3, mm_l4, mm_l5, mm_l6, mm_l7, mm_l18, mm_l19, mm_l20, mm_l21, mm_l22, kdX2_isSameTurned, ct_X2_isSameTurned, flX2, sp_X2_cornerOf, wk_is hw, wk_is hv]
    exact ⟨⟨by omega, by omega⟩, ⟨by omega, by omega⟩, fun _ => q1 (fun x hx => hI x (by omega)), fun h => by omega⟩
  | succ k ih =>
    intro i hi hI
    have ec := mod_cst (i := i) (b := b) (n := n)
    have hm := Nat.mod_lt (i + b) (show 0 < n by omega)
    refine mm_run_at (stop := [27]) (S := rr_X2_isSameTurned Q) kkX2_isSameTurned 60 ?_ (fun _ _ _ _ _ _ _ h => h)
    simp only [mm_wp, mm_op, mm_nxt, mm_jmp, mm_at, mm_in, mm_nth, mm_set, mm_ok, mm_isL, mm_ret, mm_isRet, mm_bool, mm_call, mm_push, mm_rv, mm_cats, mm_cat, mm_look, mm_ft, mm_fv, mm_pf, mm_thr, mm_ent, mm_pad, mm_fl, beq_self_eq_true, cond_true, cond_false, Nat.reduceBEq, Nat.reduceEqDiff, List.drop_succ_cons, List.drop_zero, List.take_succ_cons, List.take_zero, List.reverse_cons, List.reverse_nil, List.nil_append, List.cons_append, List.length_cons, List.length_nil, Nat.reduceAdd, Nat.reduceSub, Nat.reduceLeDiff, Bool.not_false, Bool.and_true, Bool.true_and, Nat.zero_add, true_and, and_true, Nat.le_refl, true_or, or_true, reduceCtorEq, Nat.add_zero, Nat.reduceLT, Bool.and_self, Bool.not_true, Fin.isValue, Nat.reduceLeDiff, List.take_nil, List.drop_nil, mm_i1, mm_i2, mm_i3, mm_i4, mm_i5, mm_i6, mm_i7, mm_i16, mm_i17, mm_i18, mm_i19, mm_i20, mm_i21, mm_i22, mm_i23, mm_l3, mm_l4, mm_l5, mm_l6, mm_l7, mm_l18, mm_l19, mm_l20, mm_l21, mm_l22, kdX2_isSameTurned, ct_X2_isSameTurned, flX2, sp_X2_cornerOf, wk_is hw, wk_is hv, wk_iw hw, wk_ln hw, wk_iw hv, wk_ln hv]
    rw [Int.tmod_eq_emod_of_nonneg (show 0 ≤ (i : Int) + b by omega), hn, ec]
    have h2 := Int.emod_nonneg ((i : Int) + b) (show (n : Int) ≠ 0 by omega)
    have h3 := Int.emod_lt_of_pos ((i : Int) + b) (show 0 < (n : Int) by omega)
    have h4 := v3 ((i + b) % n) (by omega)
    have h5 := u3 i (by omega)
    simp only [Int.toNat_natCast]
    refine ⟨⟨by omega, by omega⟩, ⟨by omega, by omega⟩, fun h => by omega, fun _ => ⟨⟨by omega, by omega⟩, ⟨by omega, by omega⟩, by omega, by omega, by omega, ⟨by omega, by omega⟩, ⟨by omega, by omega⟩, fun h => ?_, fun h => ?_⟩⟩
    · refine ih (i + 1) (by omega) (fun x hx => ?_)
      by_cases e : x = i
      · subst e
        omega
      · exact hI x (by omega)
    · refine q0 (fun h9 => ?_)
      have := h9 i (by omega)
      omega
set_option maxRecDepth 20000 in
theorem rn_X2_isSameTurned : mm_RN flX2 ct_X2_isSameTurned mm_x0 [] 2 0 4 kdX2_isSameTurned sp_X2_isSameTurned := by
  intro av M d Q h
  unfold sp_X2_isSameTurned at h
  split at h
  · rename_i w v b
    obtain ⟨hw, hv, ht, a1, a2, hb, hq⟩ := h
    have v1 := a1.1
    have v2 := a2.1
    have v3 := a2.2.1
    obtain ⟨n, hn⟩ := Int.eq_ofNat_of_zero_le v1.1
    obtain ⟨b, rfl⟩ := Int.eq_ofNat_of_zero_le hb.1
    have q1 : M w 2 = M v 2 ∧ tnR M w v b → Q (.inl (some (mm_I 1))) M d := fun h => hq 1 ⟨Or.inr rfl, fun _ => h, fun _ => rfl⟩
    have q0 : ¬ (M w 2 = M v 2 ∧ tnR M w v b) → Q (.inl (some (mm_I 0))) M d := fun h => hq 0 ⟨Or.inl rfl, fun h2 => by omega, fun h2 => absurd h2 h⟩
    refine ⟨Nat.le_of_ble_eq_true rfl, mm_run_at (stop := [27]) (S := rr_X2_isSameTurned Q) kkX2_isSameTurned 80 ?_ (fun _ _ _ _ _ _ _ h => h)⟩
    simp only [mm_wp, mm_op, mm_nxt, mm_jmp, mm_at, mm_in, mm_nth, mm_set, mm_ok, mm_isL, mm_ret, mm_isRet, mm_bool, mm_call, mm_push, mm_rv, mm_cats, mm_cat, mm_look, mm_ft, mm_fv, mm_pf, mm_thr, mm_ent, mm_pad, mm_fl, beq_self_eq_true, cond_true, cond_false, Nat.reduceBEq, Nat.reduceEqDiff, List.drop_succ_cons, List.drop_zero, List.take_succ_cons, List.take_zero, List.reverse_cons, List.reverse_nil, List.nil_append, List.cons_append, List.length_cons, List.length_nil, Nat.reduceAdd, Nat.reduceSub, Nat.reduceLeDiff, Bool.not_false, Bool.and_true, Bool.true_and, Nat.zero_add, true_and, and_true, Nat.le_refl, true_or, or_true, reduceCtorEq, Nat.add_zero, Nat.reduceLT, Bool.and_self, Bool.not_true, Fin.isValue, Nat.reduceLeDiff, List.take_nil, List.drop_nil, mm_i1, mm_i2, mm_i3, mm_i4, mm_i5, mm_i6, mm_i7, mm_i16, mm_i17, mm_i18, mm_i19, mm_i20, mm_i21, mm_i22, mm_i23, mm_l3, mm_l4, mm_l5, mm_l6, mm_l7, mm_l18, mm_l19, mm_l20, mm_l21, mm_l22, kdX2_isSameTurned, ct_X2_isSameTurned, flX2, sp_X2_cornerOf, wk_is hw, wk_is hv]
    refine ⟨⟨by omega, by omega⟩, ⟨by omega, by omega⟩, fun h => q0 (fun h2 => h h2.1), fun h => ⟨hw, ht, a1, ⟨by omega, by omega⟩, fun r hr => ⟨⟨by omega, by omega⟩, ⟨by omega, by omega⟩, fun h3 => ?_, fun h3 => q0 (fun h2 => ?_)⟩⟩⟩
    · refine lp_X2_isSameTurned hw hv ht a1 a2 (by omega) hn (by omega) (fun h4 => q1 ⟨h, ?_, fun i hi => ?_⟩) (fun h4 => q0 (fun h5 => h4 (fun i hi => ?_))) n 0 (by omega) (fun x hx => by omega)
      · rw [← hr.1]; omega
      · rw [hn]; exact h4 i (by omega)
      · have := h5.2.2 i (by omega)
        rw [hn] at this
        exact this
    · have := h2.2.1
      rw [← hr.1] at this
      omega
  · exact h.elim
theorem me_X2_isSameTurned {l : Launch} (hl : l.stackTraces = false) : mm_Met l yX2_isSameTurned cX2_isSameTurned 4 (some .boolean) [] 9 164 0 sp_X2_isSameTurned := mm_mt hl rn_X2_isSameTurned ⟨plX2, rfl⟩ kkX2_isSameTurned rfl ⟨Nat.le_of_ble_eq_true rfl, Nat.le_of_ble_eq_true rfl⟩ flkX2 (fun _ h => nomatch h) (⟨mm_pe (me_X2_cornerOf hl) mwX2_cornerOf (mm_t1 191 rfl rfl) (Nat.le_of_ble_eq_true rfl) (Nat.le_of_ble_eq_true rfl), trivial⟩) (mm_xe0 _) n9X2
def sp_X2_turnTo : mm_S := fun av M d Q => match av with
  | [.inr (.inr (.inl w)), .inr (.inr (.inl v))] =>  isK w ∧ isK v ∧ tW M ∧ wV M w ∧ wV M v ∧ ∀ r, (-1 ≤ r ∧ r ≤ 30) ∧ tuR M w v r → Q (.inl (some (mm_I r))) M d
  | _ => False
def ct_X2_turnTo : List (Nat × mm_Ca) := [(112, (0, 3, 12, sp_X2_isSameTurned, 0)), (83, (0, 1, 12, sp_X2_isHome, 0))]
abbrev rr_X2_turnTo (Q : mm_Q) := mm_run (mm_look flX2) (mm_look ct_X2_turnTo) mm_x0 (mm_look ([] : List (Nat × Int))) (fun _ => none) 1 0 (fun _ _ => none) Q kdX2_turnTo
set_option maxRecDepth 20000 in
theorem lp_X2_turnTo {M : mm_M} {d : List Nat} {Q : mm_Q} {w v : Nat} (hw : isK w) (hv : isK v) (ht : tW M) (a1 : wV M w) (a2 : wV M v) (hs : ¬ smR M w v) (hh : cor M w (M w 2) = M w 3) (hq : ∀ r, (-1 ≤ r ∧ r ≤ 30) ∧ tuR M w v r → Q (.inl (some (mm_I r))) M d) : ∀ (k i : Nat), M w 2 ≤ i + k → i ≤ 31 → 1 ≤ i → (M w 2 = M v 2 → ∀ b : Nat, 1 ≤ b → b < i → ¬ tnR M w v b) → rr_X2_turnTo Q 22 [some (mm_R w), some (mm_R v), some (mm_I i)] [] M d 0 := by
  have v1 := a1.1
  have hend : ∀ i : Nat, M w 2 ≤ i → (M w 2 = M v 2 → ∀ b : Nat, 1 ≤ b → b < i → ¬ tnR M w v b) → Q (.inl (some (mm_I (-1)))) M d := fun i h1 h2 => hq _ ⟨⟨by omega, by omega⟩, Or.inr ⟨hs, by
    by_cases e : M w 2 = M v 2
    · exact Or.inr ⟨⟨hh, e⟩, Or.inl ⟨rfl, fun b hb hb2 => h2 e b hb (by omega)⟩⟩
    · exact Or.inl ⟨fun h => e h.2, rfl⟩⟩⟩
  intro k
  induction k with
  | zero =>
    intro i hi hi2 hi3 hI
    refine mm_run_at (stop := [22]) (S := rr_X2_turnTo Q) kkX2_turnTo 60 ?_ (fun _ _ _ _ _ _ _ h => h)
    simp only [mm_wp, mm_op, mm_nxt, mm_jmp, mm_at, mm_in, mm_nth, mm_set, mm_ok, mm_isL, mm_ret, mm_isRet, mm_bool, mm_call, mm_push, mm_rv, mm_cats, mm_cat, mm_look, mm_ft, mm_fv, mm_pf, mm_thr, mm_ent, mm_pad, mm_fl, beq_self_eq_true, cond_true, cond_false, Nat.reduceBEq, Nat.reduceEqDiff, List.drop_succ_cons, List.drop_zero, List.take_succ_cons, List.take_zero, List.reverse_cons, List.reverse_nil, List.nil_append, List.cons_append, List.length_cons, List.length_nil, Nat.reduceAdd, Nat.reduceSub, Nat.reduceLeDiff, Bool.not_false, Bool.and_true, Bool.true_and, Nat.zero_add, true_and, and_true, Nat.le_refl, true_or, or_true, reduceCtorEq, Nat.add_zero, Nat.reduceLT, Bool.and_self, Bool.not_true, Fin.isValue, Nat.reduceLeDiff, List.take_nil, List.drop_nil, mm_i1, mm_i2, mm_i3, mm_i4, mm_i5, mm_i6, mm_i7, mm_i16, mm_i17, mm_i18, mm_i19, mm_i20, mm_i21, mm_i22, mm_i23, mm_l3, mm_l4, mm_l5, mm_l6, mm_l7, mm_l18, mm_l19, mm_l20, mm_l21, mm_l22, kdX2_turnTo, ct_X2_turnTo, flX2, sp_X2_isSameTurned, sp_X2_isHome, wk_is hw, wk_is hv]
    exact ⟨⟨by omega, by omega⟩, ⟨by omega, by omega⟩, fun _ => hend i (by omega) hI, fun h => by omega⟩
  | succ k ih =>
    intro i hi hi2 hi3 hI
    refine mm_run_at (stop := [22]) (S := rr_X2_turnTo Q) kkX2_turnTo 60 ?_ (fun _ _ _ _ _ _ _ h => h)
    simp only [mm_wp, mm_op, mm_nxt, mm_jmp, mm_at, mm_in, mm_nth, mm_set, mm_ok, mm_isL, mm_ret, mm_isRet, mm_bool, mm_call, mm_push, mm_rv, mm_cats, mm_cat, mm_look, mm_ft, mm_fv, mm_pf, mm_thr, mm_ent, mm_pad, mm_fl, beq_self_eq_true, cond_true, cond_false, Nat.reduceBEq, Nat.reduceEqDiff, List.drop_succ_cons, List.drop_zero, List.take_succ_cons, List.take_zero, List.reverse_cons, List.reverse_nil, List.nil_append, List.cons_append, List.length_cons, List.length_nil, Nat.reduceAdd, Nat.reduceSub, Nat.reduceLeDiff, Bool.not_false, Bool.and_true, Bool.true_and, Nat.zero_add, true_and, and_true, Nat.le_refl, true_or, or_true, reduceCtorEq, Nat.add_zero, Nat.reduceLT, Bool.and_self, Bool.not_true, Fin.isValue, Nat.reduceLeDiff, List.take_nil, List.drop_nil, mm_i1, mm_i2, mm_i3, mm_i4, mm_i5, mm_i6, mm_i7, mm_i16, mm_i17, mm_i18, mm_i19, mm_i20, mm_i21, mm_i22, mm_i23, mm_l3, mm_l4, mm_l5, mm_l6, mm_l7, mm_l18, mm_l19, mm_l20, mm_l21, mm_l22, kdX2_turnTo, ct_X2_turnTo, flX2, sp_X2_isSameTurned, sp_X2_isHome, wk_is hw, wk_is hv]
    refine ⟨⟨by omega, by omega⟩, ⟨by omega, by omega⟩, fun h => hend i (by omega) hI, fun h => ⟨hw, hv, ht, a1, a2, by omega, fun r hr => ⟨by rcases hr.1 with h | h <;> subst h <;> exact ⟨by omega, by omega⟩, fun h0 => ih (i + 1) (by omega) (by omega) (by omega) (fun e b hb hb2 hT => ?_), fun h1 => hq _ ⟨by omega, ?_⟩⟩⟩⟩
    · by_cases eb : b = i
      · subst eb
        have := hr.2.mpr ⟨e, by rw [Int.toNat_natCast]; exact hT⟩
        omega
      · exact hI e b hb (by omega) hT
    · have h9 := hr.2.mp (by omega)
      rw [Int.toNat_natCast] at h9
      exact Or.inr ⟨hs, Or.inr ⟨⟨hh, h9.1⟩, Or.inr ⟨i, rfl, hi3, by omega, h9.2, fun b' hb hb2 => hI h9.1 b' hb hb2⟩⟩⟩
set_option maxRecDepth 20000 in
theorem rn_X2_turnTo : mm_RN flX2 ct_X2_turnTo mm_x0 [] 1 0 3 kdX2_turnTo sp_X2_turnTo := by
  intro av M d Q h
  unfold sp_X2_turnTo at h
  split at h
  · rename_i w v
    obtain ⟨hw, hv, ht, a1, a2, hq⟩ := h
    have v1 := a1.1
    refine ⟨Nat.le_of_ble_eq_true rfl, mm_run_at (stop := [22]) (S := rr_X2_turnTo Q) kkX2_turnTo 80 ?_ (fun _ _ _ _ _ _ _ h => h)⟩
    simp only [mm_wp, mm_op, mm_nxt, mm_jmp, mm_at, mm_in, mm_nth, mm_set, mm_ok, mm_isL, mm_ret, mm_isRet, mm_bool, mm_call, mm_push, mm_rv, mm_cats, mm_cat, mm_look, mm_ft, mm_fv, mm_pf, mm_thr, mm_ent, mm_pad, mm_fl, beq_self_eq_true, cond_true, cond_false, Nat.reduceBEq, Nat.reduceEqDiff, List.drop_succ_cons, List.drop_zero, List.take_succ_cons, List.take_zero, List.reverse_cons, List.reverse_nil, List.nil_append, List.cons_append, List.length_cons, List.length_nil, Nat.reduceAdd, Nat.reduceSub, Nat.reduceLeDiff, Bool.not_false, Bool.and_true, Bool.true_and, Nat.zero_add, true_and, and_true, Nat.le_refl, true_or, or_true, reduceCtorEq, Nat.add_zero, Nat.reduceLT, Bool.and_self, Bool.not_true, Fin.isValue, Nat.reduceLeDiff, List.take_nil, List.drop_nil, mm_i1, mm_i2, mm_i3, mm_i4, mm_i5, mm_i6, mm_i7, mm_i16, mm_i17, mm_i18, mm_i19, mm_i20, mm_i21, mm_i22, mm_i23, mm_l3, mm_l4, mm_l5, mm_l6, mm_l7, mm_l18, mm_l19, mm_l20, mm_l21, mm_l22, kdX2_turnTo, ct_X2_turnTo, flX2, sp_X2_isSameTurned, sp_X2_isHome, wk_is hw, wk_is hv]
    refine ⟨hw, hv, ht, a1, a2, by omega, fun r hr => ⟨by rcases hr.1 with h | h <;> subst h <;> exact ⟨by omega, by omega⟩, fun h0 => ⟨hw, ht, a1, fun r2 hr2 => ⟨inI2 (P := cor M w (M w 2) = M w 3) hr2, fun h1 => ?_, fun h1 => hq _ ⟨by omega, ?_⟩⟩⟩, fun h0 => hq _ ⟨by omega, ?_⟩⟩⟩
    · have hs : ¬ smR M w v := fun h => by
        have := hr.2.mpr ((sm_tn v1.1).mp h)
        omega
      exact lp_X2_turnTo hw hv ht a1 a2 hs (inI_y hr2 h1) hq 30 1 (by omega) (by omega) (by omega) (fun e b hb hb2 => by omega)
    · have hs : ¬ smR M w v := fun h => by
        have := hr.2.mpr ((sm_tn v1.1).mp h)
        omega
      exact Or.inr ⟨hs, Or.inl ⟨fun h => inI_n hr2 h1 h.1, rfl⟩⟩
    · exact Or.inl ⟨(sm_tn v1.1).mpr (hr.2.mp (by omega)), rfl⟩
  · exact h.elim
theorem me_X2_turnTo {l : Launch} (hl : l.stackTraces = false) : mm_Met l yX2_turnTo cX2_turnTo 3 (some .int) [] 10 187 0 sp_X2_turnTo := mm_mt hl rn_X2_turnTo ⟨plX2, rfl⟩ kkX2_turnTo rfl ⟨Nat.le_of_ble_eq_true rfl, Nat.le_of_ble_eq_true rfl⟩ flkX2 (fun _ h => nomatch h) (⟨mm_pe (me_X2_isSameTurned hl) mwX2_isSameTurned (mm_t3 51 rfl rfl) (Nat.le_of_ble_eq_true rfl) (Nat.le_of_ble_eq_true rfl), mm_pe (me_X2_isHome hl) mwX2_isHome (mm_t3 55 rfl rfl) (Nat.le_of_ble_eq_true rfl) (Nat.le_of_ble_eq_true rfl), trivial⟩) (mm_xe0 _) n9X2
def sp_X2_hasWord : mm_S := fun av M d Q => match av with
  | [.inr (.inr (.inl w)), .inl x, .inl p] =>  isK w ∧ tW M ∧ wV M w ∧ (0 ≤ x ∧ x ≤ 100) ∧ (0 ≤ p ∧ p ≤ 100) ∧ ∀ r, (r = 0 ∨ r = 1) ∧ (0 < M 2 6 → 0 < M w 2 → (r = 1 ↔ rdw M w p.toNat (M 2 7).toNat = x % M 2 6 ^ (M 2 7).toNat)) → Q (.inl (some (mm_I r))) M d
  | _ => False
def ct_X2_hasWord : List (Nat × mm_Ca) := [(126, (0, 1, 11, sp_X1_signCount, 0)), (129, (0, 1, 11, sp_X1_wordSize, 0)), (132, (0, 2, 11, sp_X1_signOf, 0))]
abbrev rr_X2_hasWord (Q : mm_Q) := mm_run (mm_look flX2) (mm_look ct_X2_hasWord) mm_x0 (mm_look ([] : List (Nat × Int))) (fun _ => none) 2 0 (fun _ _ => none) Q kdX2_hasWord
set_option maxRecDepth 20000 in
theorem lp_X2_hasWord {M : mm_M} {d : List Nat} {Q : mm_Q} {w p n : Nat} {x : Int} (hw : isK w) (ht : tW M) (a1 : wV M w) (hp : p ≤ 100) (hn : M w 2 = n) (h0 : 0 < n) (h6 : 0 < M 2 6) {P : Prop} (q1 : P → Q (.inl (some (mm_I 1))) M d) (q0 : ¬ P → Q (.inl (some (mm_I 0))) M d) : ∀ (k : Nat) (y : Int), k ≤ 10 → (0 ≤ y ∧ y ≤ 100) → (P ↔ rdw M w p k = y % M 2 6 ^ k) → rr_X2_hasWord Q 35 [some (mm_R w), some (mm_I x), some (mm_I p), some (mm_I (M 2 6)), some (mm_I y), some (mm_I ((k : Int) - 1))] [] M d 0 := by
  obtain ⟨v1, v2, v3⟩ := id a1
  have t1 := ht.1
  have t4 := ht.2.2.2
  intro k
  induction k with
  | zero =>
    intro y hk hy hP
    refine mm_run_at (stop := [35]) (S := rr_X2_hasWord Q) kkX2_hasWord 80 ?_ (fun _ _ _ _ _ _ _ h => h)
    simp only [mm_wp, mm_op, mm_nxt, mm_jmp, mm_at, mm_in, mm_nth, mm_set, mm_ok, mm_isL, mm_ret, mm_isRet, mm_bool, mm_call, mm_push, mm_rv, mm_cats, mm_cat, mm_look, mm_ft, mm_fv, mm_pf, mm_thr, mm_ent, mm_pad, mm_fl, beq_self_eq_true, cond_true, cond_false, Nat.reduceBEq, Nat.reduceEqDiff, List.drop_succ_cons, List.drop_zero, List.take_succ_cons, List.take_zero, List.reverse_cons, List.reverse_nil, List.nil_append, List.cons_append, List.length_cons, List.length_nil, Nat.reduceAdd, Nat.reduceSub, Nat.reduceLeDiff, Bool.not_false, Bool.and_true, Bool.true_and, Nat.zero_add, true_and, and_true, Nat.le_refl, true_or, or_true, reduceCtorEq, Nat.add_zero, Nat.reduceLT, Bool.and_self, Bool.not_true, Fin.isValue, Nat.reduceLeDiff, List.take_nil, List.drop_nil, mm_i1, mm_i2, mm_i3, mm_i4, mm_i5, mm_i6, mm_i7, mm_i16, mm_i17, mm_i18, mm_i19, mm_i20, mm_i21, mm_i22, mm_i23, mm_l3, mm_l4, mm_l5, mm_l6, mm_l7, mm_l18, mm_l19, mm_l20, mm_l21, mm_l22, kdX2_hasWord, ct_X2_hasWord, flX2, sp_X1_signCount, sp_X1_wordSize, sp_X1_signOf, wk_is hw]
    exact ⟨⟨by omega, by omega⟩, fun _ => q1 (hP.mpr (by simp [rdw])), fun h => by omega⟩
  | succ k ih =>
    intro y hk hy hP
    have hm := Nat.mod_lt (p + k) h0
    have ec := mod_cst (i := p) (b := k) (n := n)
    have hr0 := rdw_b0 (V := M) (w := w) (p := p) h6 k
    refine mm_run_at (stop := [35]) (S := rr_X2_hasWord Q) kkX2_hasWord 80 ?_ (fun _ _ _ _ _ _ _ h => h)
    simp only [mm_wp, mm_op, mm_nxt, mm_jmp, mm_at, mm_in, mm_nth, mm_set, mm_ok, mm_isL, mm_ret, mm_isRet, mm_bool, mm_call, mm_push, mm_rv, mm_cats, mm_cat, mm_look, mm_ft, mm_fv, mm_pf, mm_thr, mm_ent, mm_pad, mm_fl, beq_self_eq_true, cond_true, cond_false, Nat.reduceBEq, Nat.reduceEqDiff, List.drop_succ_cons, List.drop_zero, List.take_succ_cons, List.take_zero, List.reverse_cons, List.reverse_nil, List.nil_append, List.cons_append, List.length_cons, List.length_nil, Nat.reduceAdd, Nat.reduceSub, Nat.reduceLeDiff, Bool.not_false, Bool.and_true, Bool.true_and, Nat.zero_add, true_and, and_true, Nat.le_refl, true_or, or_true, reduceCtorEq, Nat.add_zero, Nat.reduceLT, Bool.and_self, Bool.not_true, Fin.isValue, Nat.reduceLeDiff, List.take_nil, List.drop_nil, mm_i1, mm_i2, mm_i3, mm_i4, mm_i5, mm_i6, mm_i7, mm_i16, mm_i17, mm_i18, mm_i19, mm_i20, mm_i21, mm_i22, mm_i23, mm_l3, mm_l4, mm_l5, mm_l6, mm_l7, mm_l18, mm_l19, mm_l20, mm_l21, mm_l22, kdX2_hasWord, ct_X2_hasWord, flX2, sp_X1_signCount, sp_X1_wordSize, sp_X1_signOf, wk_is hw, wk_iw hw, wk_ln hw, tp1]
    rw [show ((k + 1 : Nat) : Int) - 1 = k by omega, show (k : Int) + -1 = (k : Int) - 1 by omega, Int.tmod_eq_emod_of_nonneg (show 0 ≤ (p : Int) + (k : Int) by omega), Int.tmod_eq_emod_of_nonneg hy.1, Int.tdiv_eq_ediv_of_nonneg hy.1, hn, ec]
    have h2 := Int.emod_nonneg ((p : Int) + (k : Int)) (show (n : Int) ≠ 0 by omega)
    have h3 := Int.emod_lt_of_pos ((p : Int) + (k : Int)) (show 0 < (n : Int) by omega)
    have h4 := v3 ((p + k) % n) (by omega)
    have h7 := Int.emod_nonneg y (show M 2 6 ≠ 0 by omega)
    have h8 := Int.emod_lt_of_pos y (show 0 < M 2 6 by omega)
    have h9 := Int.ediv_nonneg hy.1 (show 0 ≤ M 2 6 by omega)
    have h10 := Int.ediv_le_self (M 2 6) hy.1
    have hdig : ∀ r, r = M (w + 1) ((p + k) % n) / 2 % M 2 6 → 0 ≤ r → r < M 2 6 → (P ↔ (r = y % M 2 6 ∧ rdw M w p k = y / M 2 6 % M 2 6 ^ k)) := by
      intro r hr q1 q2
      rw [hP, mod_pwI h6 hy.1]
      simp only [rdw]
      rw [hn, Int.toNat_natCast, ← hr]
      constructor
      · intro h
        have e1 : r = y % M 2 6 := by
          have a := congrArg (· % M 2 6) h
          simp only [Int.mul_add_emod_self_right, Int.emod_emod] at a
          rw [Int.emod_eq_of_lt q1 q2] at a
          exact a
        refine ⟨e1, ?_⟩
        rw [e1] at h
        have h : rdw M w p k * M 2 6 = y / M 2 6 % M 2 6 ^ k * M 2 6 := by omega
        exact Int.eq_of_mul_eq_mul_right (by omega) h
      · rintro ⟨e1, e2⟩
        rw [e1, e2]
    refine ⟨⟨by omega, by omega⟩, fun h => by omega, fun _ => ⟨⟨by omega, by omega⟩, ⟨by omega, by omega⟩, by omega, by omega, ⟨by omega, by omega⟩, by omega, ht, by omega, fun r hr => ?_⟩⟩
    obtain ⟨c1, c2, c3⟩ := hr.1 h6
    have hd := hdig r c1 c2 c3
    refine ⟨⟨by omega, by omega⟩, ⟨by omega, by omega⟩, by omega, ⟨by omega, by omega⟩, ⟨by omega, by omega⟩, fun h => ?_, fun h => q0 (fun hp => h (hd.mp hp).1)⟩
    exact ⟨⟨by omega, by omega⟩, ⟨by omega, by omega⟩, by omega, ih _ (by omega) ⟨by omega, by omega⟩ ⟨fun hp => (hd.mp hp).2, fun hp => hd.mpr ⟨h, hp⟩⟩⟩
set_option maxRecDepth 20000 in
theorem rn_X2_hasWord : mm_RN flX2 ct_X2_hasWord mm_x0 [] 2 0 6 kdX2_hasWord sp_X2_hasWord := by
  intro av M d Q h
  unfold sp_X2_hasWord at h
  split at h
  · rename_i w x p
    obtain ⟨hw, ht, hv, hx, hp, hq⟩ := h
    have v1 := hv.1
    have t4 := ht.2.2.2
    obtain ⟨n, hn⟩ := Int.eq_ofNat_of_zero_le t4.2.1
    obtain ⟨m, hm⟩ := Int.eq_ofNat_of_zero_le v1.1
    obtain ⟨p, rfl⟩ := Int.eq_ofNat_of_zero_le hp.1
    refine ⟨Nat.le_of_ble_eq_true rfl, mm_run_at (stop := [35]) (S := rr_X2_hasWord Q) kkX2_hasWord 80 ?_ (fun _ _ _ _ _ _ _ h => h)⟩
    simp only [mm_wp, mm_op, mm_nxt, mm_jmp, mm_at, mm_in, mm_nth, mm_set, mm_ok, mm_isL, mm_ret, mm_isRet, mm_bool, mm_call, mm_push, mm_rv, mm_cats, mm_cat, mm_look, mm_ft, mm_fv, mm_pf, mm_thr, mm_ent, mm_pad, mm_fl, beq_self_eq_true, cond_true, cond_false, Nat.reduceBEq, Nat.reduceEqDiff, List.drop_succ_cons, List.drop_zero, List.take_succ_cons, List.take_zero, List.reverse_cons, List.reverse_nil, List.nil_append, List.cons_append, List.length_cons, List.length_nil, Nat.reduceAdd, Nat.reduceSub, Nat.reduceLeDiff, Bool.not_false, Bool.and_true, Bool.true_and, Nat.zero_add, true_and, and_true, Nat.le_refl, true_or, or_true, reduceCtorEq, Nat.add_zero, Nat.reduceLT, Bool.and_self, Bool.not_true, Fin.isValue, Nat.reduceLeDiff, List.take_nil, List.drop_nil, mm_i1, mm_i2, mm_i3, mm_i4, mm_i5, mm_i6, mm_i7, mm_i16, mm_i17, mm_i18, mm_i19, mm_i20, mm_i21, mm_i22, mm_i23, mm_l3, mm_l4, mm_l5, mm_l6, mm_l7, mm_l18, mm_l19, mm_l20, mm_l21, mm_l22, kdX2_hasWord, ct_X2_hasWord, flX2, sp_X1_signCount, sp_X1_wordSize, sp_X1_signOf, wk_is hw]
    refine ⟨⟨by omega, by omega⟩, fun h => hq _ ⟨Or.inl rfl, fun h2 => by omega⟩, fun h => ⟨⟨by omega, by omega⟩, fun h2 => ?_, fun _ => hq _ ⟨Or.inl rfl, fun _ h2 => by omega⟩⟩⟩
    rw [hn]
    refine lp_X2_hasWord (P := rdw M w p n = x % M 2 6 ^ n) hw ht hv (by omega) hm (by omega) h (fun h3 => hq 1 ⟨Or.inr rfl, fun _ _ => ?_⟩) (fun h3 => hq 0 ⟨Or.inl rfl, fun _ _ => ?_⟩) n x (by omega) hx Iff.rfl
    · rw [hn]; exact ⟨fun _ => h3, fun _ => rfl⟩
    · rw [hn]; exact ⟨fun h4 => by omega, fun h4 => absurd h4 h3⟩
  · exact h.elim
theorem me_X2_hasWord {l : Launch} (hl : l.stackTraces = false) : mm_Met l yX2_hasWord cX2_hasWord 6 (some .boolean) [] 7 121 0 sp_X2_hasWord := mm_mt hl rn_X2_hasWord ⟨plX2, rfl⟩ kkX2_hasWord rfl ⟨Nat.le_of_ble_eq_true rfl, Nat.le_of_ble_eq_true rfl⟩ flkX2 (fun _ h => nomatch h) (⟨mm_pe (me_X1_signCount hl) mwX1_signCount (mm_t2 164 rfl rfl) (Nat.le_of_ble_eq_true rfl) (Nat.le_of_ble_eq_true rfl), mm_pe (me_X1_wordSize hl) mwX1_wordSize (mm_t2 168 rfl rfl) (Nat.le_of_ble_eq_true rfl) (Nat.le_of_ble_eq_true rfl), mm_pe (me_X1_signOf hl) mwX1_signOf (mm_t2 172 rfl rfl) (Nat.le_of_ble_eq_true rfl) (Nat.le_of_ble_eq_true rfl), trivial⟩) (mm_xe0 _) n9X2
def sp_X2_placeOfWord : mm_S := fun av M d Q => match av with
  | [.inr (.inr (.inl w)), .inl x, .inl p] =>  isK w ∧ tW M ∧ wV M w ∧ (0 ≤ x ∧ x ≤ 100) ∧ (0 ≤ p ∧ p ≤ 100) ∧ ∀ r, (-1 ≤ r ∧ r ≤ 30) ∧ (WI M → wdR M w x p r) → Q (.inl (some (mm_I r))) M d
  | _ => False
def ct_X2_placeOfWord : List (Nat × mm_Ca) := [(116, (0, 1, 11, sp_X1_isOfWords, 0)), (35, (0, 1, 11, sp_X1_size, 0)), (119, (0, 3, 12, sp_X2_hasWord, 0))]
abbrev rr_X2_placeOfWord (Q : mm_Q) := mm_run (mm_look flX2) (mm_look ct_X2_placeOfWord) mm_x0 (mm_look ([] : List (Nat × Int))) (fun _ => none) 1 0 (fun _ _ => none) Q kdX2_placeOfWord
set_option maxRecDepth 20000 in
theorem lp_X2_placeOfWord {M : mm_M} {d : List Nat} {Q : mm_Q} {w p : Nat} {x : Int} (hw : isK w) (ht : tW M) (a1 : wV M w) (hx : 0 ≤ x ∧ x ≤ 100) (h6 : 0 < M 2 6) (h4 : x < M 2 4) (hq : ∀ r, (-1 ≤ r ∧ r ≤ 30) ∧ (WI M → wdR M w x p r) → Q (.inl (some (mm_I r))) M d) : ∀ (k i : Nat), M w 2 ≤ i + k → p ≤ i → i ≤ 101 → (WI M → ∀ p' : Nat, p ≤ p' → p' < i → rdw M w p' (M 2 7).toNat ≠ x) → rr_X2_placeOfWord Q 33 [some (mm_R w), some (mm_I x), some (mm_I p), some (mm_I i)] [] M d 0 := by
  have v1 := a1.1
  have t4 := ht.2.2.2
  have hno : ¬ (M 2 6 = 0 ∨ M 2 4 ≤ x) := by omega
  have hend : ∀ i : Nat, M w 2 ≤ i → (WI M → ∀ p' : Nat, p ≤ p' → p' < i → rdw M w p' (M 2 7).toNat ≠ x) → Q (.inl (some (mm_I (-1)))) M d := fun i h1 h2 => hq _ ⟨⟨by omega, by omega⟩, fun hW => Or.inr ⟨hno, Or.inl ⟨rfl, fun p' q1 q2 => h2 hW p' (by omega) (by omega)⟩⟩⟩
  intro k
  induction k with
  | zero =>
    intro i hi hi2 hi3 hI
    refine mm_run_at (stop := [33]) (S := rr_X2_placeOfWord Q) kkX2_placeOfWord 60 ?_ (fun _ _ _ _ _ _ _ h => h)
    simp only [mm_wp, mm_op, mm_nxt, mm_jmp, mm_at, mm_in, mm_nth, mm_set, mm_ok, mm_isL, mm_ret, mm_isRet, mm_bool, mm_call, mm_push, mm_rv, mm_cats, mm_cat, mm_look, mm_ft, mm_fv, mm_pf, mm_thr, mm_ent, mm_pad, mm_fl, beq_self_eq_true, cond_true, cond_false, Nat.reduceBEq, Nat.reduceEqDiff, List.drop_succ_cons, List.drop_zero, List.take_succ_cons, List.take_zero, List.reverse_cons, List.reverse_nil, List.nil_append, List.cons_append, List.length_cons, List.length_nil, Nat.reduceAdd, Nat.reduceSub, Nat.reduceLeDiff, Bool.not_false, Bool.and_true, Bool.true_and, Nat.zero_add, true_and, and_true, Nat.le_refl, true_or, or_true, reduceCtorEq, Nat.add_zero, Nat.reduceLT, Bool.and_self, Bool.not_true, Fin.isValue, Nat.reduceLeDiff, List.take_nil, List.drop_nil, mm_i1, mm_i2, mm_i3, mm_i4, mm_i5, mm_i6, mm_i7, mm_i16, mm_i17, mm_i18, mm_i19, mm_i20, mm_i21, mm_i22, mm_i23, mm_l3, mm_l4, mm_l5, mm_l6, mm_l7, mm_l18, mm_l19, mm_l20, mm_l21, mm_l22, kdX2_placeOfWord, ct_X2_placeOfWord, flX2, sp_X1_isOfWords, sp_X1_size, sp_X2_hasWord, wk_is hw]
    exact ⟨⟨by omega, by omega⟩, ⟨by omega, by omega⟩, fun _ => hend i (by omega) hI, fun h => by omega⟩
  | succ k ih =>
    intro i hi hi2 hi3 hI
    refine mm_run_at (stop := [33]) (S := rr_X2_placeOfWord Q) kkX2_placeOfWord 60 ?_ (fun _ _ _ _ _ _ _ h => h)
    simp only [mm_wp, mm_op, mm_nxt, mm_jmp, mm_at, mm_in, mm_nth, mm_set, mm_ok, mm_isL, mm_ret, mm_isRet, mm_bool, mm_call, mm_push, mm_rv, mm_cats, mm_cat, mm_look, mm_ft, mm_fv, mm_pf, mm_thr, mm_ent, mm_pad, mm_fl, beq_self_eq_true, cond_true, cond_false, Nat.reduceBEq, Nat.reduceEqDiff, List.drop_succ_cons, List.drop_zero, List.take_succ_cons, List.take_zero, List.reverse_cons, List.reverse_nil, List.nil_append, List.cons_append, List.length_cons, List.length_nil, Nat.reduceAdd, Nat.reduceSub, Nat.reduceLeDiff, Bool.not_false, Bool.and_true, Bool.true_and, Nat.zero_add, true_and, and_true, Nat.le_refl, true_or, or_true, reduceCtorEq, Nat.add_zero, Nat.reduceLT, Bool.and_self, Bool.not_true, Fin.isValue, Nat.reduceLeDiff, List.take_nil, List.drop_nil, mm_i1, mm_i2, mm_i3, mm_i4, mm_i5, mm_i6, mm_i7, mm_i16, mm_i17, mm_i18, mm_i19, mm_i20, mm_i21, mm_i22, mm_i23, mm_l3, mm_l4, mm_l5, mm_l6, mm_l7, mm_l18, mm_l19, mm_l20, mm_l21, mm_l22, kdX2_placeOfWord, ct_X2_placeOfWord, flX2, sp_X1_isOfWords, sp_X1_size, sp_X2_hasWord, wk_is hw]
    refine ⟨⟨by omega, by omega⟩, ⟨by omega, by omega⟩, fun _ => hend i (by omega) hI, fun hlt => ⟨hw, ht, a1, hx, by omega, fun r hr => ?_⟩⟩
    have hr2 := hr.2 h6 (by omega)
    rw [Int.toNat_natCast] at hr2
    have hxx : WI M → x % M 2 6 ^ (M 2 7).toNat = x := fun hW => Int.emod_eq_of_lt hx.1 (by have := hW h6; omega)
    refine ⟨by rcases hr.1 with h | h <;> subst h <;> exact ⟨by omega, by omega⟩, fun h0 => ih (i + 1) (by omega) (by omega) (by omega) (fun hW p' q1 q2 hT => ?_), fun h1 => hq _ ⟨by omega, fun hW => Or.inr ⟨hno, Or.inr ⟨i, rfl, by omega, by omega, ?_, fun p' q1 q2 => hI hW p' (by omega) q2⟩⟩⟩⟩
    · by_cases ep : p' = i
      · subst ep
        have := hr2.mpr (by rw [hxx hW]; exact hT)
        omega
      · exact hI hW p' q1 (by omega) hT
    · have := hr2.mp (by omega)
      rw [hxx hW] at this
      exact this
set_option maxRecDepth 20000 in
theorem rn_X2_placeOfWord : mm_RN flX2 ct_X2_placeOfWord mm_x0 [] 1 0 4 kdX2_placeOfWord sp_X2_placeOfWord := by
  intro av M d Q h
  unfold sp_X2_placeOfWord at h
  split at h
  · rename_i w x p
    obtain ⟨hw, ht, hv, hx, hp, hq⟩ := h
    have v1 := hv.1
    have t1 := ht.1
    have t4 := ht.2.2.2
    obtain ⟨p, rfl⟩ := Int.eq_ofNat_of_zero_le hp.1
    have hno : (M 2 6 = 0 ∨ M 2 4 ≤ x) → Q (.inl (some (mm_I (-1)))) M d := fun h => hq _ ⟨⟨by omega, by omega⟩, fun _ => Or.inl ⟨h, rfl⟩⟩
    refine ⟨Nat.le_of_ble_eq_true rfl, mm_run_at (stop := [33]) (S := rr_X2_placeOfWord Q) kkX2_placeOfWord 80 ?_ (fun _ _ _ _ _ _ _ h => h)⟩
    simp only [mm_wp, mm_op, mm_nxt, mm_jmp, mm_at, mm_in, mm_nth, mm_set, mm_ok, mm_isL, mm_ret, mm_isRet, mm_bool, mm_call, mm_push, mm_rv, mm_cats, mm_cat, mm_look, mm_ft, mm_fv, mm_pf, mm_thr, mm_ent, mm_pad, mm_fl, beq_self_eq_true, cond_true, cond_false, Nat.reduceBEq, Nat.reduceEqDiff, List.drop_succ_cons, List.drop_zero, List.take_succ_cons, List.take_zero, List.reverse_cons, List.reverse_nil, List.nil_append, List.cons_append, List.length_cons, List.length_nil, Nat.reduceAdd, Nat.reduceSub, Nat.reduceLeDiff, Bool.not_false, Bool.and_true, Bool.true_and, Nat.zero_add, true_and, and_true, Nat.le_refl, true_or, or_true, reduceCtorEq, Nat.add_zero, Nat.reduceLT, Bool.and_self, Bool.not_true, Fin.isValue, Nat.reduceLeDiff, List.take_nil, List.drop_nil, mm_i1, mm_i2, mm_i3, mm_i4, mm_i5, mm_i6, mm_i7, mm_i16, mm_i17, mm_i18, mm_i19, mm_i20, mm_i21, mm_i22, mm_i23, mm_l3, mm_l4, mm_l5, mm_l6, mm_l7, mm_l18, mm_l19, mm_l20, mm_l21, mm_l22, kdX2_placeOfWord, ct_X2_placeOfWord, flX2, sp_X1_isOfWords, sp_X1_size, sp_X2_hasWord, wk_is hw]
    refine ⟨ht, fun r hr => ⟨inI2 (P := 0 < M 2 6) ⟨hr.1, fun h => hr.2 (by omega)⟩, fun h => hno (Or.inl ?_), fun h => ⟨⟨by omega, by omega⟩, fun h2 => by omega, fun _ => ⟨⟨by omega, by omega⟩, ⟨by omega, by omega⟩, fun h3 => hno (Or.inr (by omega)), fun h3 => ⟨⟨by omega, by omega⟩, fun _ => ?_, fun h4 => by omega⟩⟩⟩⟩⟩
    · exact Classical.byContradiction fun h9 => by have := hr.1 (by omega); omega
    · have h6 : 0 < M 2 6 := Classical.byContradiction fun h9 => by have := hr.2 (by omega); omega
      exact lp_X2_placeOfWord hw ht hv hx h6 (by omega) hq 30 p (by omega) (by omega) (by omega) (fun _ p' q1 q2 => by omega)
  · exact h.elim
theorem me_X2_placeOfWord {l : Launch} (hl : l.stackTraces = false) : mm_Met l yX2_placeOfWord cX2_placeOfWord 4 (some .int) [] 8 146 0 sp_X2_placeOfWord := mm_mt hl rn_X2_placeOfWord ⟨plX2, rfl⟩ kkX2_placeOfWord rfl ⟨Nat.le_of_ble_eq_true rfl, Nat.le_of_ble_eq_true rfl⟩ flkX2 (fun _ h => nomatch h) (⟨mm_pe (me_X1_isOfWords hl) mwX1_isOfWords (mm_t2 159 rfl rfl) (Nat.le_of_ble_eq_true rfl) (Nat.le_of_ble_eq_true rfl), mm_pe (me_X1_size hl) mwX1_size (mm_t2 142 rfl rfl) (Nat.le_of_ble_eq_true rfl) (Nat.le_of_ble_eq_true rfl), mm_pe (me_X2_hasWord hl) mwX2_hasWord (mm_t2 160 rfl rfl) (Nat.le_of_ble_eq_true rfl) (Nat.le_of_ble_eq_true rfl), trivial⟩) (mm_xe0 _) n9X2
/-- each step leaves the corner that the walk has come to: it is a walk -/
def TWk (V : mm_M) (w : Nat) : Prop := ∀ i : Nat, i < V w 2 → lv V (V (w + 1) i / 2) (cor V w i) = V (w + 1) i
theorem cor_0 {V : mm_M} {w : Nat} : cor V w 0 = V w 3 := by
  unfold cor
  rw [if_neg (by omega)]
theorem cor_s {V : mm_M} {w i : Nat} (h : (i : Int) < V w 2) : cor V w ((i : Int) + 1) = gl V (V (w + 1) i) := by
  unfold cor
  rw [if_pos (by omega), show ((i : Int) + 1 - 1).toNat = i by omega]
def sp_X2_leadsBack : mm_S := fun av M d Q => match av with
  | [.inr (.inr (.inl w))] =>  isK w ∧ tW M ∧ wV M w ∧ ∀ r, (r = 0 ∨ r = 1) ∧ ((∀ i : Nat, i < M w 2 → sr M (M (w + 1) i) = cor M w i) → r = 1) → Q (.inl (some (mm_I r))) M d
  | _ => False
def ct_X2_leadsBack : List (Nat × mm_Ca) := [(26, (0, 2, 12, sp_X2_cornerOf, 0)), (30, (0, 2, 11, sp_X1_goalOf, 0)), (43, (0, 2, 11, sp_X1_sourceOf, 0))]
abbrev rr_X2_leadsBack (Q : mm_Q) := mm_run (mm_look flX2) (mm_look ct_X2_leadsBack) mm_x0 (mm_look ([] : List (Nat × Int))) (fun _ => none) 2 0 (fun _ _ => none) Q kdX2_leadsBack
set_option maxRecDepth 20000 in
theorem lp_X2_leadsBack {M : mm_M} {d : List Nat} {Q : mm_Q} {w : Nat} (hw : isK w) (ht : tW M) (a1 : wV M w) (hq : ∀ r, (r = 0 ∨ r = 1) ∧ ((∀ i : Nat, i < M w 2 → sr M (M (w + 1) i) = cor M w i) → r = 1) → Q (.inl (some (mm_I r))) M d) : ∀ (k : Nat) (c : Int), k ≤ M w 2 → (0 ≤ c ∧ c < 10) → ((∀ i : Nat, i < M w 2 → sr M (M (w + 1) i) = cor M w i) → c = cor M w k) → rr_X2_leadsBack Q 16 [some (mm_R w), some (mm_I c), some (mm_I ((k : Int) - 1))] [] M d 0 := by
  obtain ⟨v1, v2, v3⟩ := id a1
  intro k
  induction k with
  | zero =>
    intro c hk hc hH
    have q0 : ¬ c = M w 3 → Q (.inl (some (mm_I 0))) M d := fun h => hq 0 ⟨Or.inl rfl, fun h2 => absurd ((hH h2).trans cor_0) h⟩
    have q1 : Q (.inl (some (mm_I 1))) M d := hq 1 ⟨Or.inr rfl, fun _ => rfl⟩
    refine mm_run_at (stop := [16]) (S := rr_X2_leadsBack Q) kkX2_leadsBack 60 ?_ (fun _ _ _ _ _ _ _ h => h)
    simp only [mm_wp, mm_op, mm_nxt, mm_jmp, mm_at, mm_in, mm_nth, mm_set, mm_ok, mm_isL, mm_ret, mm_isRet, mm_bool, mm_call, mm_push, mm_rv, mm_cats, mm_cat, mm_look, mm_ft, mm_fv, mm_pf, mm_thr, mm_ent, mm_pad, mm_fl, beq_self_eq_true, cond_true, cond_false, Nat.reduceBEq, Nat.reduceEqDiff, List.drop_succ_cons, List.drop_zero, List.take_succ_cons, List.take_zero, List.reverse_cons, List.reverse_nil, List.nil_append, List.cons_append, List.length_cons, List.length_nil, Nat.reduceAdd, Nat.reduceSub, Nat.reduceLeDiff, Bool.not_false, Bool.and_true, Bool.true_and, Nat.zero_add, true_and, and_true, Nat.le_refl, true_or, or_true, reduceCtorEq, Nat.add_zero, Nat.reduceLT, Bool.and_self, Bool.not_true, Fin.isValue, Nat.reduceLeDiff, List.take_nil, List.drop_nil, mm_i1, mm_i2, mm_i3, mm_i4, mm_i5, mm_i6, mm_i7, mm_i16, mm_i17, mm_i18, mm_i19, mm_i20, mm_i21, mm_i22, mm_i23, mm_l3, mm_l4, mm_l5, mm_l6, mm_l7, mm_l18, mm_l19, mm_l20, mm_l21, mm_l22, kdX2_leadsBack, ct_X2_leadsBack, flX2, sp_X2_cornerOf, sp_X1_goalOf, sp_X1_sourceOf, wk_is hw]
    exact ⟨⟨by omega, by omega⟩, fun _ => ⟨⟨by omega, by omega⟩, ⟨by omega, by omega⟩, fun h => q0 h, fun _ => q1⟩, fun h => by omega⟩
  | succ k ih =>
    intro c hk hc hH
    refine mm_run_at (stop := [16]) (S := rr_X2_leadsBack Q) kkX2_leadsBack 60 ?_ (fun _ _ _ _ _ _ _ h => h)
    simp only [mm_wp, mm_op, mm_nxt, mm_jmp, mm_at, mm_in, mm_nth, mm_set, mm_ok, mm_isL, mm_ret, mm_isRet, mm_bool, mm_call, mm_push, mm_rv, mm_cats, mm_cat, mm_look, mm_ft, mm_fv, mm_pf, mm_thr, mm_ent, mm_pad, mm_fl, beq_self_eq_true, cond_true, cond_false, Nat.reduceBEq, Nat.reduceEqDiff, List.drop_succ_cons, List.drop_zero, List.take_succ_cons, List.take_zero, List.reverse_cons, List.reverse_nil, List.nil_append, List.cons_append, List.length_cons, List.length_nil, Nat.reduceAdd, Nat.reduceSub, Nat.reduceLeDiff, Bool.not_false, Bool.and_true, Bool.true_and, Nat.zero_add, true_and, and_true, Nat.le_refl, true_or, or_true, reduceCtorEq, Nat.add_zero, Nat.reduceLT, Bool.and_self, Bool.not_true, Fin.isValue, Nat.reduceLeDiff, List.take_nil, List.drop_nil, mm_i1, mm_i2, mm_i3, mm_i4, mm_i5, mm_i6, mm_i7, mm_i16, mm_i17, mm_i18, mm_i19, mm_i20, mm_i21, mm_i22, mm_i23, mm_l3, mm_l4, mm_l5, mm_l6, mm_l7, mm_l18, mm_l19, mm_l20, mm_l21, mm_l22, kdX2_leadsBack, ct_X2_leadsBack, flX2, sp_X2_cornerOf, sp_X1_goalOf, sp_X1_sourceOf, wk_is hw, wk_iw hw, wk_ln hw]
    rw [show ((k + 1 : Nat) : Int) - 1 = k by omega, show (k : Int) + -1 = (k : Int) - 1 by omega]
    have h4 := v3 k (by omega)
    simp only [Int.toNat_natCast]
    have hk2 : (k : Int) < M w 2 := by omega
    have hc2 : (∀ i : Nat, i < M w 2 → sr M (M (w + 1) i) = cor M w i) → c = gl M (M (w + 1) k) := fun h2 => by
      have := hH h2
      rw [show ((k + 1 : Nat) : Int) = (k : Int) + 1 by omega, cor_s hk2] at this
      exact this
    exact ⟨⟨by omega, by omega⟩, fun h => by omega, fun _ => ⟨by omega, ht, h4, fun r hr => ⟨⟨by omega, by omega⟩, ⟨by omega, by omega⟩, fun _ => ⟨by omega, ht, h4, fun r2 hr2 => ih _ (by omega) hr2.2 (fun h2 => by rw [hr2.1]; exact h2 k hk2)⟩, fun h => hq 0 ⟨Or.inl rfl, fun h2 => absurd (by rw [hr.1]; exact (hc2 h2).symm) h⟩⟩⟩⟩
set_option maxRecDepth 20000 in
theorem rn_X2_leadsBack : mm_RN flX2 ct_X2_leadsBack mm_x0 [] 2 0 3 kdX2_leadsBack sp_X2_leadsBack := by
  intro av M d Q h
  unfold sp_X2_leadsBack at h
  split at h
  · rename_i w
    obtain ⟨hw, ht, hv, hq⟩ := h
    have v1 := hv.1
    obtain ⟨n, hn⟩ := Int.eq_ofNat_of_zero_le v1.1
    refine ⟨Nat.le_of_ble_eq_true rfl, mm_run_at (stop := [16]) (S := rr_X2_leadsBack Q) kkX2_leadsBack 80 ?_ (fun _ _ _ _ _ _ _ h => h)⟩
    simp only [mm_wp, mm_op, mm_nxt, mm_jmp, mm_at, mm_in, mm_nth, mm_set, mm_ok, mm_isL, mm_ret, mm_isRet, mm_bool, mm_call, mm_push, mm_rv, mm_cats, mm_cat, mm_look, mm_ft, mm_fv, mm_pf, mm_thr, mm_ent, mm_pad, mm_fl, beq_self_eq_true, cond_true, cond_false, Nat.reduceBEq, Nat.reduceEqDiff, List.drop_succ_cons, List.drop_zero, List.take_succ_cons, List.take_zero, List.reverse_cons, List.reverse_nil, List.nil_append, List.cons_append, List.length_cons, List.length_nil, Nat.reduceAdd, Nat.reduceSub, Nat.reduceLeDiff, Bool.not_false, Bool.and_true, Bool.true_and, Nat.zero_add, true_and, and_true, Nat.le_refl, true_or, or_true, reduceCtorEq, Nat.add_zero, Nat.reduceLT, Bool.and_self, Bool.not_true, Fin.isValue, Nat.reduceLeDiff, List.take_nil, List.drop_nil, mm_i1, mm_i2, mm_i3, mm_i4, mm_i5, mm_i6, mm_i7, mm_i16, mm_i17, mm_i18, mm_i19, mm_i20, mm_i21, mm_i22, mm_i23, mm_l3, mm_l4, mm_l5, mm_l6, mm_l7, mm_l18, mm_l19, mm_l20, mm_l21, mm_l22, kdX2_leadsBack, ct_X2_leadsBack, flX2, sp_X2_cornerOf, sp_X1_goalOf, sp_X1_sourceOf, wk_is hw]
    rw [hn]
    refine ⟨hw, ht, hv, ⟨by omega, by omega⟩, fun r hr => ?_⟩
    exact lp_X2_leadsBack hw ht hv hq n r (by omega) hr.2 (fun _ => hr.1)
  · exact h.elim
theorem me_X2_leadsBack {l : Launch} (hl : l.stackTraces = false) : mm_Met l yX2_leadsBack cX2_leadsBack 3 (some .boolean) [] 9 164 0 sp_X2_leadsBack := mm_mt hl rn_X2_leadsBack ⟨plX2, rfl⟩ kkX2_leadsBack rfl ⟨Nat.le_of_ble_eq_true rfl, Nat.le_of_ble_eq_true rfl⟩ flkX2 (fun _ h => nomatch h) (⟨mm_pe (me_X2_cornerOf hl) mwX2_cornerOf (mm_t1 191 rfl rfl) (Nat.le_of_ble_eq_true rfl) (Nat.le_of_ble_eq_true rfl), mm_pe (me_X1_goalOf hl) mwX1_goalOf (mm_t1 195 rfl rfl) (Nat.le_of_ble_eq_true rfl) (Nat.le_of_ble_eq_true rfl), mm_pe (me_X1_sourceOf hl) mwX1_sourceOf (mm_t2 106 rfl rfl) (Nat.le_of_ble_eq_true rfl) (Nat.le_of_ble_eq_true rfl), trivial⟩) (mm_xe0 _) n9X2
def sp_X2_isTrueWalk : mm_S := fun av M d Q => match av with
  | [.inr (.inr (.inl w))] =>  isK w ∧ tW M ∧ wV M w ∧ wD M w ∧ ∀ r, (r = 0 ∨ r = 1) ∧ (r = 1 ↔ TWk M w) → Q (.inl (some (mm_I r))) M d
  | _ => False
def ct_X2_isTrueWalk : List (Nat × mm_Ca) := [(57, (0, 3, 11, sp_X1_leaving, 0)), (30, (0, 2, 11, sp_X1_goalOf, 0)), (123, (0, 1, 12, sp_X2_leadsBack, 0))]
abbrev rr_X2_isTrueWalk (Q : mm_Q) := mm_run (mm_look flX2) (mm_look ct_X2_isTrueWalk) mm_x0 (mm_look ([] : List (Nat × Int))) (fun _ => none) 2 0 (fun _ _ => none) Q kdX2_isTrueWalk
set_option maxRecDepth 20000 in
theorem lp_X2_isTrueWalk {M : mm_M} {d : List Nat} {Q : mm_Q} {w n : Nat} (hw : isK w) (ht : tW M) (a1 : wV M w) (hD : wD M w) (hn : M w 2 = n) (hq : ∀ r, (r = 0 ∨ r = 1) ∧ (r = 1 ↔ TWk M w) → Q (.inl (some (mm_I r))) M d) : ∀ (k i : Nat) (c S : Int) (x4 : Option mm_V), i + k = n → (0 ≤ c ∧ c < 10) → (0 ≤ S ∧ S < 2147483648) → c = cor M w i → (∀ x : Nat, bt S x = 1 → ∃ j : Nat, j < i ∧ M (w + 1) j / 2 = x) → (∀ j : Nat, j < i → lv M (M (w + 1) j / 2) (cor M w j) = M (w + 1) j) → rr_X2_isTrueWalk Q 9 [some (mm_R w), some (mm_I c), some (mm_I S), some (mm_I i), x4] [] M d 0 := by
  obtain ⟨v1, v2, v3⟩ := id a1
  have t1 := ht.1
  intro k
  induction k with
  | zero =>
    intro i c S x4 hi hc hS hcc hb hall
    have hTW : TWk M w := fun j hj => hall j (by omega)
    have hH : ∀ j : Nat, j < M w 2 → sr M (M (w + 1) j) = cor M w j := fun j hj => by
      have h5 := v3 j hj
      have h6 := hTW j hj
      have h7 := lv_sr (V := M) (s := M (w + 1) j / 2) (c := cor M w j) (by omega) (by rw [h6]; omega)
      rw [h6] at h7
      exact h7
    refine mm_run_at (stop := [9]) (S := rr_X2_isTrueWalk Q) kkX2_isTrueWalk 60 ?_ (fun _ _ _ _ _ _ _ h => h)
    simp only [mm_wp, mm_op, mm_nxt, mm_jmp, mm_at, mm_in, mm_nth, mm_set, mm_ok, mm_isL, mm_ret, mm_isRet, mm_bool, mm_call, mm_push, mm_rv, mm_cats, mm_cat, mm_look, mm_ft, mm_fv, mm_pf, mm_thr, mm_ent, mm_pad, mm_fl, beq_self_eq_true, cond_true, cond_false, Nat.reduceBEq, Nat.reduceEqDiff, List.drop_succ_cons, List.drop_zero, List.take_succ_cons, List.take_zero, List.reverse_cons, List.reverse_nil, List.nil_append, List.cons_append, List.length_cons, List.length_nil, Nat.reduceAdd, Nat.reduceSub, Nat.reduceLeDiff, Bool.not_false, Bool.and_true, Bool.true_and, Nat.zero_add, true_and, and_true, Nat.le_refl, true_or, or_true, reduceCtorEq, Nat.add_zero, Nat.reduceLT, Bool.and_self, Bool.not_true, Fin.isValue, Nat.reduceLeDiff, List.take_nil, List.drop_nil, mm_i1, mm_i2, mm_i3, mm_i4, mm_i5, mm_i6, mm_i7, mm_i16, mm_i17, mm_i18, mm_i19, mm_i20, mm_i21, mm_i22, mm_i23, mm_l3, mm_l4, mm_l5, mm_l6, mm_l7, mm_l18, mm_l19, mm_l20, mm_l21, mm_l22, kdX2_isTrueWalk, ct_X2_isTrueWalk, flX2, sp_X1_leaving, sp_X1_goalOf, sp_X2_leadsBack, wk_is hw]
    exact ⟨⟨by omega, by omega⟩, ⟨by omega, by omega⟩, fun _ => ⟨hw, ht, a1, fun r hr => ⟨hr.1, hq r ⟨hr.1, fun _ => hTW, fun _ => hr.2 hH⟩⟩⟩, fun h => by omega⟩
  | succ k ih =>
    intro i c S x4 hi hc hS hcc hb hall
    have h4 := v3 i (by omega)
    have hI : InI (S / 2 ^ (M (w + 1) i / 2).toNat) := sh_in hS
    have hp := pw_lt (k := (M (w + 1) i / 2).toNat) (by omega)
    have ho := mm_or_bt (a := S) (b := 1 * 2 ^ (M (w + 1) i / 2).toNat) hS (by omega)
    have hnd : ¬ bt S (M (w + 1) i / 2).toNat = 1 := fun h => by
      obtain ⟨j, j1, j2⟩ := hb _ h
      have := hD j i (by omega) (by omega) (by omega)
      omega
    have q0 : lv M (M (w + 1) i / 2) c ≠ M (w + 1) i → Q (.inl (some (mm_I 0))) M d := fun h => hq 0 ⟨Or.inl rfl, fun h2 => by omega, fun h2 => absurd (by rw [hcc]; exact h2 i (by omega)) h⟩
    refine mm_run_at (stop := [9]) (S := rr_X2_isTrueWalk Q) kkX2_isTrueWalk 80 ?_ (fun _ _ _ _ _ _ _ h => h)
    simp only [mm_wp, mm_op, mm_nxt, mm_jmp, mm_at, mm_in, mm_nth, mm_set, mm_ok, mm_isL, mm_ret, mm_isRet, mm_bool, mm_call, mm_push, mm_rv, mm_cats, mm_cat, mm_look, mm_ft, mm_fv, mm_pf, mm_thr, mm_ent, mm_pad, mm_fl, beq_self_eq_true, cond_true, cond_false, Nat.reduceBEq, Nat.reduceEqDiff, List.drop_succ_cons, List.drop_zero, List.take_succ_cons, List.take_zero, List.reverse_cons, List.reverse_nil, List.nil_append, List.cons_append, List.length_cons, List.length_nil, Nat.reduceAdd, Nat.reduceSub, Nat.reduceLeDiff, Bool.not_false, Bool.and_true, Bool.true_and, Nat.zero_add, true_and, and_true, Nat.le_refl, true_or, or_true, reduceCtorEq, Nat.add_zero, Nat.reduceLT, Bool.and_self, Bool.not_true, Fin.isValue, Nat.reduceLeDiff, List.take_nil, List.drop_nil, mm_i1, mm_i2, mm_i3, mm_i4, mm_i5, mm_i6, mm_i7, mm_i16, mm_i17, mm_i18, mm_i19, mm_i20, mm_i21, mm_i22, mm_i23, mm_l3, mm_l4, mm_l5, mm_l6, mm_l7, mm_l18, mm_l19, mm_l20, mm_l21, mm_l22, kdX2_isTrueWalk, ct_X2_isTrueWalk, flX2, sp_X1_leaving, sp_X1_goalOf, sp_X2_leadsBack, wk_is hw, wk_iw hw, wk_ln hw, tp1, Int.toNat_natCast, mm_and1 hI]
    have hb2 := bt_01 S (M (w + 1) i / 2).toNat
    rw [show S / 2 ^ (M (w + 1) i / 2).toNat % 2 = bt S (M (w + 1) i / 2).toNat from rfl]
    refine ⟨⟨by omega, by omega⟩, ⟨by omega, by omega⟩, fun h => by omega, fun _ => ⟨by omega, ⟨by omega, by omega⟩, by omega, ⟨by omega, by omega⟩, by omega, ⟨by omega, by omega⟩, fun h => by omega, fun _ => ?_⟩⟩
    refine ⟨ht, by omega, ⟨by omega, by omega⟩, fun r hr => ⟨by omega, ⟨by omega, by omega⟩, ⟨by omega, by omega⟩, fun hE => ?_, fun hE => q0 (by rw [← hr.1]; exact hE)⟩⟩
    refine ⟨by omega, by omega, ht, h4, fun r2 hr2 => ih (i + 1) r2 _ _ (by omega) hr2.2 ho.1 ?_ (fun x hx => ?_) (fun j hj => ?_)⟩
    · rw [hr2.1, show ((i + 1 : Nat) : Int) = (i : Int) + 1 by omega, cor_s (by omega)]
    · have h5 := ho.2 x
      rw [hx, Int.one_mul, bt_pow] at h5
      have h6 := bt_01 S x
      by_cases e : x = (M (w + 1) i / 2).toNat
      · exact ⟨i, by omega, by omega⟩
      · rw [if_neg e] at h5
        obtain ⟨j, j1, j2⟩ := hb x (by omega)
        exact ⟨j, by omega, j2⟩
    · by_cases e : j = i
      · rw [e, ← hcc, ← hr.1]
        exact hE
      · exact hall j (by omega)
set_option maxRecDepth 20000 in
theorem rn_X2_isTrueWalk : mm_RN flX2 ct_X2_isTrueWalk mm_x0 [] 2 0 5 kdX2_isTrueWalk sp_X2_isTrueWalk := by
  intro av M d Q h
  unfold sp_X2_isTrueWalk at h
  split at h
  · rename_i w
    obtain ⟨hw, ht, hv, hD, hq⟩ := h
    have v1 := hv.1
    have v2 := hv.2.1
    obtain ⟨n, hn⟩ := Int.eq_ofNat_of_zero_le v1.1
    refine ⟨Nat.le_of_ble_eq_true rfl, mm_run_at (stop := [9]) (S := rr_X2_isTrueWalk Q) kkX2_isTrueWalk 80 ?_ (fun _ _ _ _ _ _ _ h => h)⟩
    simp only [mm_wp, mm_op, mm_nxt, mm_jmp, mm_at, mm_in, mm_nth, mm_set, mm_ok, mm_isL, mm_ret, mm_isRet, mm_bool, mm_call, mm_push, mm_rv, mm_cats, mm_cat, mm_look, mm_ft, mm_fv, mm_pf, mm_thr, mm_ent, mm_pad, mm_fl, beq_self_eq_true, cond_true, cond_false, Nat.reduceBEq, Nat.reduceEqDiff, List.drop_succ_cons, List.drop_zero, List.take_succ_cons, List.take_zero, List.reverse_cons, List.reverse_nil, List.nil_append, List.cons_append, List.length_cons, List.length_nil, Nat.reduceAdd, Nat.reduceSub, Nat.reduceLeDiff, Bool.not_false, Bool.and_true, Bool.true_and, Nat.zero_add, true_and, and_true, Nat.le_refl, true_or, or_true, reduceCtorEq, Nat.add_zero, Nat.reduceLT, Bool.and_self, Bool.not_true, Fin.isValue, Nat.reduceLeDiff, List.take_nil, List.drop_nil, mm_i1, mm_i2, mm_i3, mm_i4, mm_i5, mm_i6, mm_i7, mm_i16, mm_i17, mm_i18, mm_i19, mm_i20, mm_i21, mm_i22, mm_i23, mm_l3, mm_l4, mm_l5, mm_l6, mm_l7, mm_l18, mm_l19, mm_l20, mm_l21, mm_l22, kdX2_isTrueWalk, ct_X2_isTrueWalk, flX2, sp_X1_leaving, sp_X1_goalOf, sp_X2_leadsBack, wk_is hw]
    exact lp_X2_isTrueWalk hw ht hv hD hn hq n 0 _ 0 none (by omega) v2 (by omega) cor_0.symm (fun x h => by rw [bt_0] at h; omega) (fun j hj => by omega)
  · exact h.elim
theorem me_X2_isTrueWalk {l : Launch} (hl : l.stackTraces = false) : mm_Met l yX2_isTrueWalk cX2_isTrueWalk 5 (some .boolean) [] 10 186 0 sp_X2_isTrueWalk := mm_mt hl rn_X2_isTrueWalk ⟨plX2, rfl⟩ kkX2_isTrueWalk rfl ⟨Nat.le_of_ble_eq_true rfl, Nat.le_of_ble_eq_true rfl⟩ flkX2 (fun _ h => nomatch h) (⟨mm_pe (me_X1_leaving hl) mwX1_leaving (mm_t2 98 rfl rfl) (Nat.le_of_ble_eq_true rfl) (Nat.le_of_ble_eq_true rfl), mm_pe (me_X1_goalOf hl) mwX1_goalOf (mm_t1 195 rfl rfl) (Nat.le_of_ble_eq_true rfl) (Nat.le_of_ble_eq_true rfl), mm_pe (me_X2_leadsBack hl) mwX2_leadsBack (mm_t2 102 rfl rfl) (Nat.le_of_ble_eq_true rfl) (Nat.le_of_ble_eq_true rfl), trivial⟩) (mm_xe0 _) n9X2

