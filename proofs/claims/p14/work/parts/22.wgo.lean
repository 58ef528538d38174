/-! the class's walks: going on -/
theorem wk_mm {w : Nat} (h : isK w) (d : List Nat) : w ∈ mm_ids d := (wk_is h (fun _ _ => 0) d).2
def sp_X2_notWalked : mm_S := fun av M d Q => match av with
  | [.inr (.inr (.inl w))] =>  isK w ∧ tW M ∧ wV M w ∧ ∀ r, r = nwk M w (M w 2).toNat ∧ 0 ≤ r ∧ r < 1073741824 → Q (.inl (some (mm_I r))) M d
  | _ => False
def ct_X2_notWalked : List (Nat × mm_Ca) := [(87, (0, 1, 11, sp_X1_allStreets, 0))]
abbrev rr_X2_notWalked (Q : mm_Q) := mm_run (mm_look flX2) (mm_look ct_X2_notWalked) mm_x0 (mm_look ([] : List (Nat × Int))) (fun _ => none) 1 0 (fun _ _ => none) Q kdX2_notWalked
set_option maxRecDepth 20000 in
theorem lp_X2_notWalked {M : mm_M} {d : List Nat} {Q : mm_Q} {w n : Nat} (hw : isK w) (ht : tW M) (hv : wV M w) (hn : M w 2 = n) (hq : ∀ r, r = nwk M w n ∧ 0 ≤ r ∧ r < 1073741824 → Q (.inl (some (mm_I r))) M d) : ∀ (k i : Nat), i + k = n → rr_X2_notWalked Q 10 [some (mm_R w), some (mm_I (nwk M w i)), some (mm_I i)] [] M d 0 := by
  obtain ⟨v1, v2, v3⟩ := id hv
  have h1 := ht.1
  intro k
  induction k with
  | zero =>
    intro i hi
    have hb := nwk_b ht hv i (by omega)
    refine mm_run_at (stop := [10]) (S := rr_X2_notWalked Q) kkX2_notWalked 60 ?_ (fun _ _ _ _ _ _ _ h => h)
    simp only [mm_wp, mm_op, mm_nxt, mm_jmp, mm_at, mm_in, mm_nth, mm_set, mm_ok, mm_isL, mm_ret, mm_isRet, mm_bool, mm_call, mm_push, mm_rv, mm_cats, mm_cat, mm_look, mm_ft, mm_fv, mm_pf, mm_thr, mm_ent, mm_pad, mm_fl, beq_self_eq_true, cond_true, cond_false, Nat.reduceBEq, Nat.reduceEqDiff, List.drop_succ_cons, List.drop_zero, List.take_succ_cons, List.take_zero, List.reverse_cons, List.reverse_nil, List.nil_append, List.cons_append, List.length_cons, List.length_nil, Nat.reduceAdd, Nat.reduceSub, Nat.reduceLeDiff, Bool.not_false, Bool.and_true, Bool.true_and, Nat.zero_add, true_and, and_true, Nat.le_refl, true_or, or_true, reduceCtorEq, Nat.add_zero, Nat.reduceLT, Bool.and_self, Bool.not_true, Fin.isValue, Nat.reduceLeDiff, List.take_nil, List.drop_nil, mm_i1, mm_i2, mm_i3, mm_i4, mm_i5, mm_i6, mm_i7, mm_i16, mm_i17, mm_i18, mm_i19, mm_i20, mm_i21, mm_i22, mm_i23, mm_l3, mm_l4, mm_l5, mm_l6, mm_l7, mm_l18, mm_l19, mm_l20, mm_l21, mm_l22, kdX2_notWalked, ct_X2_notWalked, flX2, sp_X1_allStreets, wk_is hw, wk_iw hw, wk_ln hw]
    have e : i = n := by omega
    subst e
    exact ⟨⟨by omega, by omega⟩, ⟨by omega, by omega⟩, fun _ => hq _ ⟨rfl, hb⟩, fun h => by omega⟩
  | succ k ih =>
    intro i hi
    have v4 := v3 i (by omega)
    refine mm_run_at (stop := [10]) (S := rr_X2_notWalked Q) kkX2_notWalked 60 ?_ (fun _ _ _ _ _ _ _ h => h)
    simp only [mm_wp, mm_op, mm_nxt, mm_jmp, mm_at, mm_in, mm_nth, mm_set, mm_ok, mm_isL, mm_ret, mm_isRet, mm_bool, mm_call, mm_push, mm_rv, mm_cats, mm_cat, mm_look, mm_ft, mm_fv, mm_pf, mm_thr, mm_ent, mm_pad, mm_fl, beq_self_eq_true, cond_true, cond_false, Nat.reduceBEq, Nat.reduceEqDiff, List.drop_succ_cons, List.drop_zero, List.take_succ_cons, List.take_zero, List.reverse_cons, List.reverse_nil, List.nil_append, List.cons_append, List.length_cons, List.length_nil, Nat.reduceAdd, Nat.reduceSub, Nat.reduceLeDiff, Bool.not_false, Bool.and_true, Bool.true_and, Nat.zero_add, true_and, and_true, Nat.le_refl, true_or, or_true, reduceCtorEq, Nat.add_zero, Nat.reduceLT, Bool.and_self, Bool.not_true, Fin.isValue, Nat.reduceLeDiff, List.take_nil, List.drop_nil, mm_i1, mm_i2, mm_i3, mm_i4, mm_i5, mm_i6, mm_i7, mm_i16, mm_i17, mm_i18, mm_i19, mm_i20, mm_i21, mm_i22, mm_i23, mm_l3, mm_l4, mm_l5, mm_l6, mm_l7, mm_l18, mm_l19, mm_l20, mm_l21, mm_l22, kdX2_notWalked, ct_X2_notWalked, flX2, sp_X1_allStreets, wk_is hw, wk_iw hw, wk_ln hw, tp1]
    simp only [Int.toNat_natCast]
    refine ⟨⟨by omega, by omega⟩, ⟨by omega, by omega⟩, fun h => by omega, fun _ => ⟨by omega, ⟨by omega, by omega⟩, by omega, by omega, ?_⟩⟩
    exact ih (i + 1) (by omega)
set_option maxRecDepth 20000 in
theorem rn_X2_notWalked : mm_RN flX2 ct_X2_notWalked mm_x0 [] 1 0 3 kdX2_notWalked sp_X2_notWalked := by
  intro av M d Q h
  unfold sp_X2_notWalked at h
  split at h
  · rename_i w
    obtain ⟨hw, ht, hv, hq⟩ := h
    have v1 := hv.1
    obtain ⟨n, hn⟩ := Int.eq_ofNat_of_zero_le v1.1
    refine ⟨Nat.le_of_ble_eq_true rfl, mm_run_at (stop := [10]) (S := rr_X2_notWalked Q) kkX2_notWalked 80 ?_ (fun _ _ _ _ _ _ _ h => h)⟩
    simp only [mm_wp, mm_op, mm_nxt, mm_jmp, mm_at, mm_in, mm_nth, mm_set, mm_ok, mm_isL, mm_ret, mm_isRet, mm_bool, mm_call, mm_push, mm_rv, mm_cats, mm_cat, mm_look, mm_ft, mm_fv, mm_pf, mm_thr, mm_ent, mm_pad, mm_fl, beq_self_eq_true, cond_true, cond_false, Nat.reduceBEq, Nat.reduceEqDiff, List.drop_succ_cons, List.drop_zero, List.take_succ_cons, List.take_zero, List.reverse_cons, List.reverse_nil, List.nil_append, List.cons_append, List.length_cons, List.length_nil, Nat.reduceAdd, Nat.reduceSub, Nat.reduceLeDiff, Bool.not_false, Bool.and_true, Bool.true_and, Nat.zero_add, true_and, and_true, Nat.le_refl, true_or, or_true, reduceCtorEq, Nat.add_zero, Nat.reduceLT, Bool.and_self, Bool.not_true, Fin.isValue, Nat.reduceLeDiff, List.take_nil, List.drop_nil, mm_i1, mm_i2, mm_i3, mm_i4, mm_i5, mm_i6, mm_i7, mm_i16, mm_i17, mm_i18, mm_i19, mm_i20, mm_i21, mm_i22, mm_i23, mm_l3, mm_l4, mm_l5, mm_l6, mm_l7, mm_l18, mm_l19, mm_l20, mm_l21, mm_l22, kdX2_notWalked, ct_X2_notWalked, flX2, sp_X1_allStreets, wk_is hw]
    refine ⟨ht, fun r hr => ?_⟩
    have h3 := lp_X2_notWalked (Q := Q) (d := d) hw ht hv hn (fun r h => hq r (by rw [hn]; exact h)) n 0 (by omega)
    rw [hr.1]
    exact h3
  · exact h.elim
theorem me_X2_notWalked {l : Launch} (hl : l.stackTraces = false) : mm_Met l yX2_notWalked cX2_notWalked 3 (some .int) [] 7 120 0 sp_X2_notWalked := mm_mt hl rn_X2_notWalked ⟨plX2, rfl⟩ kkX2_notWalked rfl ⟨Nat.le_of_ble_eq_true rfl, Nat.le_of_ble_eq_true rfl⟩ flkX2 (fun _ h => nomatch h) (⟨mm_pe (me_X1_allStreets hl) mwX1_allStreets (mm_t2 128 rfl rfl) (Nat.le_of_ble_eq_true rfl) (Nat.le_of_ble_eq_true rfl), trivial⟩) (mm_xe0 _) n9X2
def sp_X2_walkStreet : mm_S := fun av M d Q => match av with
  | [.inr (.inr (.inl w)), .inl s, .inl a] =>  isK w ∧ tW M ∧ wV M w ∧ wD M w ∧ (0 ≤ s ∧ s < M 2 4) ∧ (a = 0 ∨ a = 1) ∧ ∀ M' r, fr [w, w + 1] M M' ∧ wV M' w ∧ wD M' w ∧ (r = -9 → M' = M) ∧ (-9 ≤ r ∧ r < 10) ∧ wsR M M' w s a r → Q (.inl (some (mm_I r))) M' d
  | _ => False
def ct_X2_walkStreet : List (Nat × mm_Ca) := [(50, (0, 3, 11, sp_X1_comingTo, 0)), (54, (0, 1, 12, sp_X2_lastCorner, 0)), (57, (0, 3, 11, sp_X1_leaving, 0)), (60, (0, 2, 12, sp_X2_placeOf, 0)), (63, (0, 2, 12, sp_X2_putAhead, 0)), (39, (0, 3, 12, sp_X2_putIn, 0))]
abbrev rr_X2_walkStreet (Q : mm_Q) := mm_run (mm_look flX2) (mm_look ct_X2_walkStreet) mm_x0 (mm_look ([] : List (Nat × Int))) (fun _ => none) 1 0 (fun _ _ => none) Q kdX2_walkStreet
set_option maxRecDepth 20000 in
theorem rn_X2_walkStreet : mm_RN flX2 ct_X2_walkStreet mm_x0 [] 1 0 4 kdX2_walkStreet sp_X2_walkStreet := by
  intro av M d Q h
  unfold sp_X2_walkStreet at h
  split at h
  · rename_i w s a
    obtain ⟨hw, ht, hv, hD, hs, ha, hq⟩ := h
    have hz := wk_no hw
    have t1 := ht.1
    obtain ⟨v1, v2, v3⟩ := id hv
    have hno : (wsF M w s a = -1 ∨ ¬ wN M w s) → ((-128 : Int) ≤ -9 ∧ (-9 : Int) < 128) ∧ Q (.inl (some (mm_I (-9)))) M d := fun h => ⟨⟨by omega, by omega⟩, hq M (-9) ⟨fr.rf, hv, hD, fun _ => rfl, ⟨by omega, by omega⟩, Or.inl ⟨h, rfl, rfl⟩⟩⟩
    have hnp : ∀ r2 : Int, ¬ (0 > r2) → ((r2 = -1 ∧ ∀ i : Nat, i < M w 2 → M (w + 1) i / 2 ≠ s) ∨ (0 ≤ r2 ∧ r2 < M w 2 ∧ M (w + 1) r2.toNat / 2 = s ∧ ∀ i : Nat, i < r2 → M (w + 1) i / 2 ≠ s)) → ¬ wN M w s := fun r2 h0 h hn => by
      rcases h with h | h
      · omega
      · exact hn r2.toNat (by omega) h.2.2.1
    have hyp : ∀ r2 : Int, 0 > r2 → ((r2 = -1 ∧ ∀ i : Nat, i < M w 2 → M (w + 1) i / 2 ≠ s) ∨ (0 ≤ r2 ∧ r2 < M w 2 ∧ M (w + 1) r2.toNat / 2 = s ∧ ∀ i : Nat, i < r2 → M (w + 1) i / 2 ≠ s)) → wN M w s := fun r2 h0 h => by
      rcases h with h | h
      · exact h.2
      · omega
    have hA : ∀ r r2 c : Int, a = 0 → c = cor M w (M w 2) → r = lv M s c ∧ -1 ≤ r ∧ r < 2 * M 2 4 ∧ (0 ≤ r → r / 2 = s) → 0 ≤ r → wN M w s → ∀ M', fr [w, w + 1] M M' ∧ wV M' w ∧ putR M M' w (M w 2) r → ∀ r3, (r3 = cor M' w (M' w 2) ∧ 0 ≤ r3 ∧ r3 < 10) → Q (.inl (some (mm_I r3))) M' d := by
      intro r r2 c h0 hc hr hr0 hN M' h5 r3 hr3
      have hlt := wD_lt hv hD hs hN
      have hF : wsF M w s a = r := by unfold wsF; rw [if_neg (by omega), hr.1, hc]
      have hg := put_cor hw h5.1 h5.2.2 ⟨by omega, by omega, by omega⟩
      rw [← (put_at h5.2.2 ⟨by omega, by omega, by omega⟩).1, ← hr3.1] at hg
      exact hq M' r3 ⟨h5.1, h5.2.1, put_wD hD (by rw [hr.2.2.2 hr0]; exact hN) h5.2.2, fun _ => by omega, ⟨by omega, by omega⟩, Or.inr ⟨by omega, hN, h5.1, Or.inr ⟨h0, by rw [hF]; exact hg, by rw [hF]; exact h5.2.2⟩⟩⟩
    have hB : ∀ r r2 : Int, a = 1 → r = cm M s (M w 3) ∧ -1 ≤ r ∧ r < 2 * M 2 4 ∧ (0 ≤ r → r / 2 = s) → 0 ≤ r → wN M w s → ∀ M', (fr [w, w + 1] M M' ∧ wV M' w ∧ ∃ M1, putR M M1 w 0 r ∧ M' = mm_up M1 w 3 (sr M r)) → Q (.inl (some (mm_I (M' w 3)))) M' d := by
      intro r r2 h0 hr hr0 hN M' ⟨h5, h6, M1, h7, h8⟩
      have hF : wsF M w s a = r := by unfold wsF; rw [if_pos h0, hr.1]
      have e3 : M' w 3 = sr M r := by rw [h8]; simp [mm_up]
      have hb := h6.2.1
      have hf1 : fr [w, w + 1] M M1 := fun o ho => by
        rw [← h5 o ho, h8, mm_up_o _ (fun e => ho (by rw [e]; simp))]
      refine hq M' _ ⟨h5, h6, (put_wD hD (by rw [hr.2.2.2 hr0]; exact hN) h7).to2 (by rw [h8]; simp [mm_up]) (by rw [h8]; funext k; simp [mm_up]), fun _ => by omega, ⟨by omega, by omega⟩, Or.inr ⟨by omega, hN, h5, Or.inl ⟨h0, by rw [hF]; exact e3, M1, hf1, by rw [hF]; exact h7, by rw [e3]; exact h8⟩⟩⟩
    have hFa : ∀ r c : Int, a = 0 → c = cor M w (M w 2) → r = lv M s c → 0 > r → -1 ≤ r → wsF M w s a = -1 := fun r c h0 hc hr h1 h2 => by
      unfold wsF
      rw [if_neg (by omega), ← hc, ← hr]
      omega
    have hFb : ∀ r : Int, a = 1 → r = cm M s (M w 3) → 0 > r → -1 ≤ r → wsF M w s a = -1 := fun r h0 hr h1 h2 => by
      unfold wsF
      rw [if_pos h0, ← hr]
      omega
    refine ⟨Nat.le_of_ble_eq_true rfl, mm_run_at (stop := []) (S := mm_F0) kkX2_walkStreet 80 ?_ mm_F0h⟩
    simp only [mm_wp, mm_op, mm_nxt, mm_jmp, mm_at, mm_in, mm_nth, mm_set, mm_ok, mm_isL, mm_ret, mm_isRet, mm_bool, mm_call, mm_push, mm_rv, mm_cats, mm_cat, mm_look, mm_ft, mm_fv, mm_pf, mm_thr, mm_ent, mm_pad, mm_fl, beq_self_eq_true, cond_true, cond_false, Nat.reduceBEq, Nat.reduceEqDiff, List.drop_succ_cons, List.drop_zero, List.take_succ_cons, List.take_zero, List.reverse_cons, List.reverse_nil, List.nil_append, List.cons_append, List.length_cons, List.length_nil, Nat.reduceAdd, Nat.reduceSub, Nat.reduceLeDiff, Bool.not_false, Bool.and_true, Bool.true_and, Nat.zero_add, true_and, and_true, Nat.le_refl, true_or, or_true, reduceCtorEq, Nat.add_zero, Nat.reduceLT, Bool.and_self, Bool.not_true, Fin.isValue, Nat.reduceLeDiff, List.take_nil, List.drop_nil, mm_i1, mm_i2, mm_i3, mm_i4, mm_i5, mm_i6, mm_i7, mm_i16, mm_i17, mm_i18, mm_i19, mm_i20, mm_i21, mm_i22, mm_i23, mm_l3, mm_l4, mm_l5, mm_l6, mm_l7, mm_l18, mm_l19, mm_l20, mm_l21, mm_l22, kdX2_walkStreet, ct_X2_walkStreet, flX2, sp_X1_comingTo, sp_X2_lastCorner, sp_X1_leaving, sp_X2_placeOf, sp_X2_putAhead, sp_X2_putIn, wk_is hw]
    refine ⟨⟨by omega, by omega⟩, fun h => ⟨hw, ht, hv, fun c hc => ⟨ht, hs, ⟨by omega, by omega⟩, fun r hr => ⟨⟨by omega, by omega⟩, fun h1 => hno (Or.inl (hFa r c h hc.1 hr.1 (by omega) hr.2.1)), fun h2 => ⟨hw, ht, hv, ⟨by omega, by omega⟩, fun r2 hr2 => ⟨⟨by omega, by omega⟩, fun h3 => ⟨⟨by omega, by omega⟩, fun h4 => ⟨hw, hv, ⟨by omega, by omega⟩, ⟨h2, by omega⟩, fun M' h5 => ⟨hw, tWk ht h5.1 hw, h5.2.1, fun r3 hr3 => hA r r2 c h hc.1 hr h2 (hyp r2 (by omega) hr2) M' h5 r3 hr3⟩⟩, fun h4 => absurd h h4⟩, fun h3 => hno (Or.inr (hnp r2 (by omega) hr2))⟩⟩⟩⟩⟩, fun h => ⟨ht, hs, ⟨by omega, by omega⟩, fun r hr => ⟨⟨by omega, by omega⟩, fun h1 => hno (Or.inl (hFb r (by omega) hr.1 (by omega) hr.2.1)), fun h2 => ⟨hw, ht, hv, ⟨by omega, by omega⟩, fun r2 hr2 => ⟨⟨by omega, by omega⟩, fun h3 => ⟨⟨by omega, by omega⟩, fun h4 => absurd h4 h, fun h4 => ⟨hw, ht, hv, ⟨h2, by omega⟩, fun M' h5 => hB r r2 (by omega) hr h2 (hyp r2 (by omega) hr2) M' h5⟩⟩, fun h3 => hno (Or.inr (hnp r2 (by omega) hr2))⟩⟩⟩⟩⟩
  · exact h.elim
theorem me_X2_walkStreet {l : Launch} (hl : l.stackTraces = false) : mm_Met l yX2_walkStreet cX2_walkStreet 4 (some .int) [] 10 185 0 sp_X2_walkStreet := mm_mt hl rn_X2_walkStreet ⟨plX2, rfl⟩ kkX2_walkStreet rfl ⟨Nat.le_of_ble_eq_true rfl, Nat.le_of_ble_eq_true rfl⟩ flkX2 (fun _ h => nomatch h) (⟨mm_pe (me_X1_comingTo hl) mwX1_comingTo (mm_t3 215 rfl rfl) (Nat.le_of_ble_eq_true rfl) (Nat.le_of_ble_eq_true rfl), mm_pe (me_X2_lastCorner hl) mwX2_lastCorner (mm_t1 187 rfl rfl) (Nat.le_of_ble_eq_true rfl) (Nat.le_of_ble_eq_true rfl), mm_pe (me_X1_leaving hl) mwX1_leaving (mm_t2 98 rfl rfl) (Nat.le_of_ble_eq_true rfl) (Nat.le_of_ble_eq_true rfl), mm_pe (me_X2_placeOf hl) mwX2_placeOf (mm_t3 219 rfl rfl) (Nat.le_of_ble_eq_true rfl) (Nat.le_of_ble_eq_true rfl), mm_pe (me_X2_putAhead hl) mwX2_putAhead (mm_t3 220 rfl rfl) (Nat.le_of_ble_eq_true rfl) (Nat.le_of_ble_eq_true rfl), mm_pe (me_X2_putIn hl) mwX2_putIn (mm_t2 134 rfl rfl) (Nat.le_of_ble_eq_true rfl) (Nat.le_of_ble_eq_true rfl), trivial⟩) (mm_xe0 _) n9X2
def sp_X2_goOn : mm_S := fun av M d Q => match av with
  | [.inr (.inr (.inl w)), .inl p, .inl up] =>  isK w ∧ tW M ∧ wV M w ∧ wD M w ∧ (0 ≤ p ∧ p ≤ M w 2) ∧ (up = 0 ∨ up = 1) ∧ ∀ M' (r : Nat), fr [w, w + 1] M M' ∧ wV M' w ∧ wD M' w ∧ M' w 2 = M w 2 + r ∧ r ≤ 30 ∧ goR up w r p M M' → Q (.inl (some (mm_I r))) M' d
  | _ => False
def ct_X2_goOn : List (Nat × mm_Ca) := [(26, (0, 2, 12, sp_X2_cornerOf, 0)), (72, (0, 1, 12, sp_X2_notWalked, 0)), (75, (0, 4, 11, sp_X1_stepOn, 0)), (39, (0, 3, 12, sp_X2_putIn, 0)), (30, (0, 2, 11, sp_X1_goalOf, 0))]
abbrev rr_X2_goOn (Q : mm_Q) := mm_run (mm_look flX2) (mm_look ct_X2_goOn) mm_x0 (mm_look ([] : List (Nat × Int))) (fun _ => none) 1 0 (fun _ _ => none) Q kdX2_goOn
set_option maxRecDepth 20000 in
theorem lp_X2_goOn {d : List Nat} {w : Nat} {p up : Int} (hw : isK w) (hp : 0 ≤ p) (hu : up = 0 ∨ up = 1) : ∀ (k i : Nat) (M : mm_M) (Q : mm_Q) (c S : Int) (x7 : Option mm_V), i + k = 30 → tW M → wV M w → wD M w → p + i ≤ M w 2 → (c = cor M w (p + i) ∧ 0 ≤ c ∧ c < 10) → (lfX M w S ∧ 0 ≤ S ∧ S < 1073741824) → (∀ M' (r : Nat), fr [w, w + 1] M M' ∧ wV M' w ∧ wD M' w ∧ M' w 2 = M w 2 + r ∧ i + r ≤ 30 ∧ goR up w r (p + i) M M' → Q (.inl (some (mm_I ((i : Int) + r)))) M' d) → rr_X2_goOn Q 18 [some (mm_R w), some (mm_I p), some (mm_I up), some (mm_I c), some (mm_I S), some (mm_I i), some (mm_I i), x7] [] M d 0 := by
  intro k
  induction k with
  | zero =>
    intro i M Q c S x7 hi ht hv hD hm hc hS hq
    have t1 := ht.1
    have h9 := hq M 0 ⟨fr.rf, hv, hD, by omega, by omega, full_on ht hv hD (by omega) (nwk_lfX ht hv), rfl⟩
    rw [show (i : Int) + ((0 : Nat) : Int) = i by omega] at h9
    refine mm_run_at (stop := [18]) (S := rr_X2_goOn Q) kkX2_goOn 60 ?_ (fun _ _ _ _ _ _ _ h => h)
    simp only [mm_wp, mm_op, mm_nxt, mm_jmp, mm_at, mm_in, mm_nth, mm_set, mm_ok, mm_isL, mm_ret, mm_isRet, mm_bool, mm_call, mm_push, mm_rv, mm_cats, mm_cat, mm_look, mm_ft, mm_fv, mm_pf, mm_thr, mm_ent, mm_pad, mm_fl, beq_self_eq_true, cond_true, cond_false, Nat.reduceBEq, Nat.reduceEqDiff, List.drop_succ_cons, List.drop_zero, List.take_succ_cons, List.take_zero, List.reverse_cons, List.reverse_nil, List.nil_append, List.cons_append, List.length_cons, List.length_nil, Nat.reduceAdd, Nat.reduceSub, Nat.reduceLeDiff, Bool.not_false, Bool.and_true, Bool.true_and, Nat.zero_add, true_and, and_true, Nat.le_refl, true_or, or_true, reduceCtorEq, Nat.add_zero, Nat.reduceLT, Bool.and_self, Bool.not_true, Fin.isValue, Nat.reduceLeDiff, List.take_nil, List.drop_nil, mm_i1, mm_i2, mm_i3, mm_i4, mm_i5, mm_i6, mm_i7, mm_i16, mm_i17, mm_i18, mm_i19, mm_i20, mm_i21, mm_i22, mm_i23, mm_l3, mm_l4, mm_l5, mm_l6, mm_l7, mm_l18, mm_l19, mm_l20, mm_l21, mm_l22, kdX2_goOn, ct_X2_goOn, flX2, sp_X2_cornerOf, sp_X2_notWalked, sp_X1_stepOn, sp_X2_putIn, sp_X1_goalOf, wk_is hw, wk_iw hw, wk_ln hw]
    exact ⟨by omega, ⟨by omega, by omega⟩, ⟨by omega, by omega⟩, fun _ => h9, fun h => by omega⟩
  | succ k ih =>
    intro i M Q c S x7 hi ht hv hD hm hc hS hq
    have t1 := ht.1
    have v1 := hv.1
    have hl := nwk_lfX ht hv
    have hon : ∀ r, onR M S c up r → onR M (nwk M w (M w 2).toNat) (cor M w (p + i)) up r := fun r hr => by
      rw [← hc.1]
      exact onR_bits (fun s hs => by rw [hS.1 s (by omega), hl s (by omega)]) hr
    refine mm_run_at (stop := [18]) (S := rr_X2_goOn Q) kkX2_goOn 60 ?_ (fun _ _ _ _ _ _ _ h => h)
    simp only [mm_wp, mm_op, mm_nxt, mm_jmp, mm_at, mm_in, mm_nth, mm_set, mm_ok, mm_isL, mm_ret, mm_isRet, mm_bool, mm_call, mm_push, mm_rv, mm_cats, mm_cat, mm_look, mm_ft, mm_fv, mm_pf, mm_thr, mm_ent, mm_pad, mm_fl, beq_self_eq_true, cond_true, cond_false, Nat.reduceBEq, Nat.reduceEqDiff, List.drop_succ_cons, List.drop_zero, List.take_succ_cons, List.take_zero, List.reverse_cons, List.reverse_nil, List.nil_append, List.cons_append, List.length_cons, List.length_nil, Nat.reduceAdd, Nat.reduceSub, Nat.reduceLeDiff, Bool.not_false, Bool.and_true, Bool.true_and, Nat.zero_add, true_and, and_true, Nat.le_refl, true_or, or_true, reduceCtorEq, Nat.add_zero, Nat.reduceLT, Bool.and_self, Bool.not_true, Fin.isValue, Nat.reduceLeDiff, List.take_nil, List.drop_nil, mm_i1, mm_i2, mm_i3, mm_i4, mm_i5, mm_i6, mm_i7, mm_i16, mm_i17, mm_i18, mm_i19, mm_i20, mm_i21, mm_i22, mm_i23, mm_l3, mm_l4, mm_l5, mm_l6, mm_l7, mm_l18, mm_l19, mm_l20, mm_l21, mm_l22, kdX2_goOn, ct_X2_goOn, flX2, sp_X2_cornerOf, sp_X2_notWalked, sp_X1_stepOn, sp_X2_putIn, sp_X1_goalOf, wk_is hw, wk_iw hw, wk_ln hw, tp1]
    refine ⟨by omega, ⟨by omega, by omega⟩, ⟨by omega, by omega⟩, fun h => by omega, fun _ => ⟨ht, hS.2, ⟨by omega, by omega⟩, hu, fun r hr => ⟨⟨by omega, by omega⟩, fun h => ⟨hw, hv, ⟨by omega, by omega⟩, ⟨h, by omega⟩, fun M' h2 => ?_⟩, fun h => ?_⟩⟩⟩
    · have e := h2.1.k hw
      have hcl := clr_spec (S := S) (s := (r / 2).toNat) hS.2 (by omega)
      have hb := hr.2.2.2 h
      have hN : wN M w (r / 2) := by
        have := ((hS.1 _ (by omega)).mp hb).2
        rw [show (((r / 2).toNat : Nat) : Int) = r / 2 by omega] at this
        exact this
      have hlt := wD_lt hv hD (s := r / 2) (by omega) hN
      have hcnd : 0 ≤ p + (i : Int) ∧ p + (i : Int) ≤ M w 2 ∧ M w 2 < 30 := ⟨by omega, hm, by omega⟩
      obtain ⟨p1, p2, p3⟩ := put_at h2.2.2 hcnd
      refine ⟨⟨by omega, by omega⟩, by omega, by omega, tWk ht h2.1 hw, by rw [e.1]; exact ⟨h, by omega⟩, fun r2 hr2 => ?_⟩
      have hcr := put_cor hw h2.1 h2.2.2 hcnd
      have hgl : gl M' r = gl M r := by unfold gl; rw [e.2.1, e.2.2]
      refine ih (i + 1) M' Q r2 (clr S (r / 2).toNat) (some (mm_I r)) (by omega) (tWk ht h2.1 hw) h2.2.1 (put_wD hD hN h2.2.2) (by omega) ⟨?_, hr2.2⟩ ⟨lfX_put hw hS.2 (by omega) hS.1 h2.1 h2.2.2 hcnd, hcl.1⟩ (fun M2 r' h3 => ?_)
      · rw [hr2.1, hgl, ← hcr]
        congr 1
        omega
      · have h10 := hq M2 (r' + 1) ⟨h2.1.tr h3.1, h3.2.1, h3.2.2.1, by have := h3.2.2.2.1; omega, by have := h3.2.2.2.2.1; omega, r, M', hon r hr.1, h, by omega, h2.2.2, h2.1, by have := h3.2.2.2.2.2; rw [show p + ((i + 1 : Nat) : Int) = p + i + 1 by omega] at this; exact this⟩
        rw [show ((i + 1 : Nat) : Int) + r' = (i : Int) + ((r' + 1 : Nat) : Int) by omega]
        exact h10
    · have h9 := hq M 0 ⟨fr.rf, hv, hD, by omega, by omega, by have := hon r hr.1; rw [show r = -1 by omega] at this; exact this, rfl⟩
      rw [show (i : Int) + ((0 : Nat) : Int) = i by omega] at h9
      exact h9
set_option maxRecDepth 20000 in
theorem rn_X2_goOn : mm_RN flX2 ct_X2_goOn mm_x0 [] 1 0 8 kdX2_goOn sp_X2_goOn := by
  intro av M d Q h
  unfold sp_X2_goOn at h
  split at h
  · rename_i w p up
    obtain ⟨hw, ht, hv, hD, hp, hu, hq⟩ := h
    have v1 := hv.1
    refine ⟨Nat.le_of_ble_eq_true rfl, mm_run_at (stop := [18]) (S := rr_X2_goOn Q) kkX2_goOn 80 ?_ (fun _ _ _ _ _ _ _ h => h)⟩
    simp only [mm_wp, mm_op, mm_nxt, mm_jmp, mm_at, mm_in, mm_nth, mm_set, mm_ok, mm_isL, mm_ret, mm_isRet, mm_bool, mm_call, mm_push, mm_rv, mm_cats, mm_cat, mm_look, mm_ft, mm_fv, mm_pf, mm_thr, mm_ent, mm_pad, mm_fl, beq_self_eq_true, cond_true, cond_false, Nat.reduceBEq, Nat.reduceEqDiff, List.drop_succ_cons, List.drop_zero, List.take_succ_cons, List.take_zero, List.reverse_cons, List.reverse_nil, List.nil_append, List.cons_append, List.length_cons, List.length_nil, Nat.reduceAdd, Nat.reduceSub, Nat.reduceLeDiff, Bool.not_false, Bool.and_true, Bool.true_and, Nat.zero_add, true_and, and_true, Nat.le_refl, true_or, or_true, reduceCtorEq, Nat.add_zero, Nat.reduceLT, Bool.and_self, Bool.not_true, Fin.isValue, Nat.reduceLeDiff, List.take_nil, List.drop_nil, mm_i1, mm_i2, mm_i3, mm_i4, mm_i5, mm_i6, mm_i7, mm_i16, mm_i17, mm_i18, mm_i19, mm_i20, mm_i21, mm_i22, mm_i23, mm_l3, mm_l4, mm_l5, mm_l6, mm_l7, mm_l18, mm_l19, mm_l20, mm_l21, mm_l22, kdX2_goOn, ct_X2_goOn, flX2, sp_X2_cornerOf, sp_X2_notWalked, sp_X1_stepOn, sp_X2_putIn, sp_X1_goalOf, wk_is hw]
    refine ⟨hw, ht, hv, ⟨by omega, by omega⟩, fun c hc => ⟨hw, ht, hv, fun r hr => ?_⟩⟩
    exact lp_X2_goOn hw hp.1 hu 30 0 M Q c r none (by omega) ht hv hD (by omega) (by rw [show p + ((0 : Nat) : Int) = p by omega]; exact hc) ⟨by rw [hr.1]; exact nwk_lfX ht hv, hr.2⟩ (fun M' r h => by rw [show ((0 : Nat) : Int) + r = r by omega]; rw [show p + ((0 : Nat) : Int) = p by omega] at h; exact hq M' r ⟨h.1, h.2.1, h.2.2.1, h.2.2.2.1, by have := h.2.2.2.2.1; omega, h.2.2.2.2.2⟩)
  · exact h.elim
theorem me_X2_goOn {l : Launch} (hl : l.stackTraces = false) : mm_Met l yX2_goOn cX2_goOn 8 (some .int) [] 9 169 0 sp_X2_goOn := mm_mt hl rn_X2_goOn ⟨plX2, rfl⟩ kkX2_goOn rfl ⟨Nat.le_of_ble_eq_true rfl, Nat.le_of_ble_eq_true rfl⟩ flkX2 (fun _ h => nomatch h) (⟨mm_pe (me_X2_cornerOf hl) mwX2_cornerOf (mm_t1 191 rfl rfl) (Nat.le_of_ble_eq_true rfl) (Nat.le_of_ble_eq_true rfl), mm_pe (me_X2_notWalked hl) mwX2_notWalked (mm_t2 124 rfl rfl) (Nat.le_of_ble_eq_true rfl) (Nat.le_of_ble_eq_true rfl), mm_pe (me_X1_stepOn hl) mwX1_stepOn (mm_t2 129 rfl rfl) (Nat.le_of_ble_eq_true rfl) (Nat.le_of_ble_eq_true rfl), mm_pe (me_X2_putIn hl) mwX2_putIn (mm_t2 134 rfl rfl) (Nat.le_of_ble_eq_true rfl) (Nat.le_of_ble_eq_true rfl), mm_pe (me_X1_goalOf hl) mwX1_goalOf (mm_t1 195 rfl rfl) (Nat.le_of_ble_eq_true rfl) (Nat.le_of_ble_eq_true rfl), trivial⟩) (mm_xe0 _) n9X2
def sp_X2_fillUp : mm_S := fun av M d Q => match av with
  | [.inr (.inr (.inl w)), .inl up] =>  isK w ∧ tW M ∧ wV M w ∧ wD M w ∧ (up = 0 ∨ up = 1) ∧ ∀ M' (r : Nat), fr [w, w + 1] M M' ∧ wV M' w ∧ wD M' w ∧ M' w 2 = M w 2 + r ∧ comR up w M M' r → Q (.inl (some (mm_I r))) M' d
  | _ => False
def ct_X2_fillUp : List (Nat × mm_Ca) := [(79, (0, 3, 12, sp_X2_goOn, 0))]
abbrev rr_X2_fillUp (Q : mm_Q) := mm_run (mm_look flX2) (mm_look ct_X2_fillUp) mm_x0 (mm_look ([] : List (Nat × Int))) (fun _ => none) 1 0 (fun _ _ => none) Q kdX2_fillUp
set_option maxRecDepth 20000 in
theorem lp_X2_fillUp {d : List Nat} {w : Nat} {up : Int} (hw : isK w) (hu : up = 0 ∨ up = 1) : ∀ (k i c0 : Nat) (M : mm_M) (Q : mm_Q), i + k = 31 → tW M → wV M w → wD M w → c0 ≤ M w 2 → (∀ M' (m c : Nat), fr [w, w + 1] M M' ∧ wV M' w ∧ wD M' w ∧ M' w 2 = M w 2 + c ∧ comL up w m i M M' c → Q (.inl (some (mm_I ((c0 : Int) + c)))) M' d) → rr_X2_fillUp Q 12 [some (mm_R w), some (mm_I up), some (mm_I c0), some (mm_I i)] [] M d 0 := by
  intro k
  induction k with
  | zero =>
    intro i c0 M Q hi ht hv hD hc hq
    have v1 := hv.1
    have h9 : M w 2 < i → Q (.inl (some (mm_I c0))) M d := fun h => by
      have := hq M 0 0 ⟨fr.rf, hv, hD, by omega, h, rfl, rfl⟩
      rw [show (c0 : Int) + ((0 : Nat) : Int) = c0 by omega] at this
      exact this
    refine mm_run_at (stop := [12]) (S := rr_X2_fillUp Q) kkX2_fillUp 60 ?_ (fun _ _ _ _ _ _ _ h => h)
    simp only [mm_wp, mm_op, mm_nxt, mm_jmp, mm_at, mm_in, mm_nth, mm_set, mm_ok, mm_isL, mm_ret, mm_isRet, mm_bool, mm_call, mm_push, mm_rv, mm_cats, mm_cat, mm_look, mm_ft, mm_fv, mm_pf, mm_thr, mm_ent, mm_pad, mm_fl, beq_self_eq_true, cond_true, cond_false, Nat.reduceBEq, Nat.reduceEqDiff, List.drop_succ_cons, List.drop_zero, List.take_succ_cons, List.take_zero, List.reverse_cons, List.reverse_nil, List.nil_append, List.cons_append, List.length_cons, List.length_nil, Nat.reduceAdd, Nat.reduceSub, Nat.reduceLeDiff, Bool.not_false, Bool.and_true, Bool.true_and, Nat.zero_add, true_and, and_true, Nat.le_refl, true_or, or_true, reduceCtorEq, Nat.add_zero, Nat.reduceLT, Bool.and_self, Bool.not_true, Fin.isValue, Nat.reduceLeDiff, List.take_nil, List.drop_nil, mm_i1, mm_i2, mm_i3, mm_i4, mm_i5, mm_i6, mm_i7, mm_i16, mm_i17, mm_i18, mm_i19, mm_i20, mm_i21, mm_i22, mm_i23, mm_l3, mm_l4, mm_l5, mm_l6, mm_l7, mm_l18, mm_l19, mm_l20, mm_l21, mm_l22, kdX2_fillUp, ct_X2_fillUp, flX2, sp_X2_goOn, wk_is hw, wk_iw hw, wk_ln hw]
    exact ⟨⟨by omega, by omega⟩, ⟨by omega, by omega⟩, fun _ => h9 (by omega), fun h => by omega⟩
  | succ k ih =>
    intro i c0 M Q hi ht hv hD hc hq
    have v1 := hv.1
    have h9 : M w 2 < i → Q (.inl (some (mm_I c0))) M d := fun h => by
      have := hq M 0 0 ⟨fr.rf, hv, hD, by omega, h, rfl, rfl⟩
      rw [show (c0 : Int) + ((0 : Nat) : Int) = c0 by omega] at this
      exact this
    refine mm_run_at (stop := [12]) (S := rr_X2_fillUp Q) kkX2_fillUp 60 ?_ (fun _ _ _ _ _ _ _ h => h)
    simp only [mm_wp, mm_op, mm_nxt, mm_jmp, mm_at, mm_in, mm_nth, mm_set, mm_ok, mm_isL, mm_ret, mm_isRet, mm_bool, mm_call, mm_push, mm_rv, mm_cats, mm_cat, mm_look, mm_ft, mm_fv, mm_pf, mm_thr, mm_ent, mm_pad, mm_fl, beq_self_eq_true, cond_true, cond_false, Nat.reduceBEq, Nat.reduceEqDiff, List.drop_succ_cons, List.drop_zero, List.take_succ_cons, List.take_zero, List.reverse_cons, List.reverse_nil, List.nil_append, List.cons_append, List.length_cons, List.length_nil, Nat.reduceAdd, Nat.reduceSub, Nat.reduceLeDiff, Bool.not_false, Bool.and_true, Bool.true_and, Nat.zero_add, true_and, and_true, Nat.le_refl, true_or, or_true, reduceCtorEq, Nat.add_zero, Nat.reduceLT, Bool.and_self, Bool.not_true, Fin.isValue, Nat.reduceLeDiff, List.take_nil, List.drop_nil, mm_i1, mm_i2, mm_i3, mm_i4, mm_i5, mm_i6, mm_i7, mm_i16, mm_i17, mm_i18, mm_i19, mm_i20, mm_i21, mm_i22, mm_i23, mm_l3, mm_l4, mm_l5, mm_l6, mm_l7, mm_l18, mm_l19, mm_l20, mm_l21, mm_l22, kdX2_fillUp, ct_X2_fillUp, flX2, sp_X2_goOn, wk_is hw, wk_iw hw, wk_ln hw]
    refine ⟨⟨by omega, by omega⟩, ⟨by omega, by omega⟩, fun h => h9 (by omega), fun hle => ⟨by omega, ⟨by omega, by omega⟩, ⟨by omega, by omega⟩, fun h => by omega, fun _ => ⟨hw, ht, hv, hD, ⟨by omega, by omega⟩, hu, fun M' r hr => ?_⟩⟩⟩
    obtain ⟨g1, g2, g3, g4, g5, g6⟩ := hr
    refine ih (i + 1) (c0 + r) M' Q (by omega) (tWk ht g1 hw) g2 g3 (by omega) (fun M2 m c h => ?_)
    have h10 := hq M2 (m + 1) (r + c) ⟨g1.tr h.1, h.2.1, h.2.2.1, by have := h.2.2.2.1; omega, by omega, r, M', c, g6, h.2.2.2.2, rfl⟩
    rw [show ((c0 + r : Nat) : Int) + c = (c0 : Int) + ((r + c : Nat) : Int) by omega]
    exact h10
set_option maxRecDepth 20000 in
theorem rn_X2_fillUp : mm_RN flX2 ct_X2_fillUp mm_x0 [] 1 0 4 kdX2_fillUp sp_X2_fillUp := by
  intro av M d Q h
  unfold sp_X2_fillUp at h
  split at h
  · rename_i w up
    obtain ⟨hw, ht, hv, hD, hu, hq⟩ := h
    have v1 := hv.1
    refine ⟨Nat.le_of_ble_eq_true rfl, mm_run_at (stop := [12]) (S := rr_X2_fillUp Q) kkX2_fillUp 80 ?_ (fun _ _ _ _ _ _ _ h => h)⟩
    simp only [mm_wp, mm_op, mm_nxt, mm_jmp, mm_at, mm_in, mm_nth, mm_set, mm_ok, mm_isL, mm_ret, mm_isRet, mm_bool, mm_call, mm_push, mm_rv, mm_cats, mm_cat, mm_look, mm_ft, mm_fv, mm_pf, mm_thr, mm_ent, mm_pad, mm_fl, beq_self_eq_true, cond_true, cond_false, Nat.reduceBEq, Nat.reduceEqDiff, List.drop_succ_cons, List.drop_zero, List.take_succ_cons, List.take_zero, List.reverse_cons, List.reverse_nil, List.nil_append, List.cons_append, List.length_cons, List.length_nil, Nat.reduceAdd, Nat.reduceSub, Nat.reduceLeDiff, Bool.not_false, Bool.and_true, Bool.true_and, Nat.zero_add, true_and, and_true, Nat.le_refl, true_or, or_true, reduceCtorEq, Nat.add_zero, Nat.reduceLT, Bool.and_self, Bool.not_true, Fin.isValue, Nat.reduceLeDiff, List.take_nil, List.drop_nil, mm_i1, mm_i2, mm_i3, mm_i4, mm_i5, mm_i6, mm_i7, mm_i16, mm_i17, mm_i18, mm_i19, mm_i20, mm_i21, mm_i22, mm_i23, mm_l3, mm_l4, mm_l5, mm_l6, mm_l7, mm_l18, mm_l19, mm_l20, mm_l21, mm_l22, kdX2_fillUp, ct_X2_fillUp, flX2, sp_X2_goOn, wk_is hw]
    refine ⟨hw, ht, hv, hD, ⟨by omega, by omega⟩, hu, fun M' r hr => ?_⟩
    obtain ⟨g1, g2, g3, g4, g5, g6⟩ := hr
    refine lp_X2_fillUp hw hu 31 0 r M' Q (by omega) (tWk ht g1 hw) g2 g3 (by omega) (fun M2 m c h => ?_)
    have h10 := hq M2 (r + c) ⟨g1.tr h.1, h.2.1, h.2.2.1, by have := h.2.2.2.1; omega, r, M', m, c, g6, h.2.2.2.2, rfl⟩
    rw [show (r : Int) + c = ((r + c : Nat) : Int) by omega]
    exact h10
  · exact h.elim
theorem me_X2_fillUp {l : Launch} (hl : l.stackTraces = false) : mm_Met l yX2_fillUp cX2_fillUp 4 (some .int) [] 10 196 0 sp_X2_fillUp := mm_mt hl rn_X2_fillUp ⟨plX2, rfl⟩ kkX2_fillUp rfl ⟨Nat.le_of_ble_eq_true rfl, Nat.le_of_ble_eq_true rfl⟩ flkX2 (fun _ h => nomatch h) (⟨mm_pe (me_X2_goOn hl) mwX2_goOn (mm_t2 120 rfl rfl) (Nat.le_of_ble_eq_true rfl) (Nat.le_of_ble_eq_true rfl), trivial⟩) (mm_xe0 _) n9X2
def sp_X2_canTakeIn : mm_S := fun av M d Q => match av with
  | [.inr (.inr (.inl w)), .inr (.inr (.inl v))] =>  isK w ∧ isK v ∧ tW M ∧ wV M w ∧ wV M v ∧ ∀ r, (r = 0 ∨ r = 1) ∧ (r = 1 ↔ rdR M w v) → Q (.inl (some (mm_I r))) M d
  | _ => False
def ct_X2_canTakeIn : List (Nat × mm_Ca) := [(83, (0, 1, 12, sp_X2_isHome, 0)), (72, (0, 1, 12, sp_X2_notWalked, 0)), (87, (0, 1, 11, sp_X1_allStreets, 0))]
abbrev rr_X2_canTakeIn (Q : mm_Q) := mm_run (mm_look flX2) (mm_look ct_X2_canTakeIn) mm_x0 (mm_look ([] : List (Nat × Int))) (fun _ => none) 2 0 (fun _ _ => none) Q kdX2_canTakeIn
set_option maxRecDepth 20000 in
theorem rn_X2_canTakeIn : mm_RN flX2 ct_X2_canTakeIn mm_x0 [] 2 0 2 kdX2_canTakeIn sp_X2_canTakeIn := by
  intro av M d Q h
  unfold sp_X2_canTakeIn at h
  split at h
  · rename_i w v
    obtain ⟨hw, hv, ht, a1, a2, hq⟩ := h
    have v1 := a2.1
    have w1 := a1.1
    have t1 := ht.1
    refine ⟨Nat.le_of_ble_eq_true rfl, mm_run_at (stop := []) (S := mm_F0) kkX2_canTakeIn 80 ?_ mm_F0h⟩
    simp only [mm_wp, mm_op, mm_nxt, mm_jmp, mm_at, mm_in, mm_nth, mm_set, mm_ok, mm_isL, mm_ret, mm_isRet, mm_bool, mm_call, mm_push, mm_rv, mm_cats, mm_cat, mm_look, mm_ft, mm_fv, mm_pf, mm_thr, mm_ent, mm_pad, mm_fl, beq_self_eq_true, cond_true, cond_false, Nat.reduceBEq, Nat.reduceEqDiff, List.drop_succ_cons, List.drop_zero, List.take_succ_cons, List.take_zero, List.reverse_cons, List.reverse_nil, List.nil_append, List.cons_append, List.length_cons, List.length_nil, Nat.reduceAdd, Nat.reduceSub, Nat.reduceLeDiff, Bool.not_false, Bool.and_true, Bool.true_and, Nat.zero_add, true_and, and_true, Nat.le_refl, true_or, or_true, reduceCtorEq, Nat.add_zero, Nat.reduceLT, Bool.and_self, Bool.not_true, Fin.isValue, Nat.reduceLeDiff, List.take_nil, List.drop_nil, mm_i1, mm_i2, mm_i3, mm_i4, mm_i5, mm_i6, mm_i7, mm_i16, mm_i17, mm_i18, mm_i19, mm_i20, mm_i21, mm_i22, mm_i23, mm_l3, mm_l4, mm_l5, mm_l6, mm_l7, mm_l18, mm_l19, mm_l20, mm_l21, mm_l22, kdX2_canTakeIn, ct_X2_canTakeIn, flX2, sp_X2_isHome, sp_X2_notWalked, sp_X1_allStreets, wk_is hw, wk_is hv, wk_mm hw, wk_mm hv]
    have hno : ¬ rdR M w v → Q (.inl (some (mm_I 0))) M d := fun h => hq 0 ⟨Or.inl rfl, fun h => by omega, fun h2 => absurd h2 h⟩
    refine ⟨fun e => hno fun h => ?_, fun hne => ⟨⟨by omega, by omega⟩, fun h0 => hno fun h => h.2.1 h0, fun h0 => ⟨hv, ht, a2, fun r hr => ⟨inI2 (P := cor M v (M v 2) = M v 3) hr, fun h => ⟨hw, ht, a1, fun r1 hr1 => ⟨hv, ht, a2, fun r2 hr2 => ⟨ht, fun r3 hr3 => ?_⟩⟩⟩, fun h => hno fun h2 => ?_⟩⟩⟩⟩
    · exact h.1 e.symm
    · obtain ⟨hb, hb2⟩ := mm_or_bt (a := r1) (b := r2) (by omega) (by omega)
      have l1 : lfX M w r1 := by rw [hr1.1]; exact nwk_lfX ht a1
      have l2 : lfX M v r2 := by rw [hr2.1]; exact nwk_lfX ht a2
      refine ⟨⟨by omega, by omega⟩, ⟨by omega, by omega⟩, fun h9 => hno fun hR => h9 ?_, fun h9 => hq 1 ⟨Or.inr rfl, fun _ => ⟨fun e => hne e.symm, h0, ?_, fun j hj i hi e => ?_⟩, fun _ => rfl⟩⟩
      · refine bt_ext2 (by omega) (by omega) (fun k => ?_)
        rw [hr3.1, bt_all (M 2 4).toNat k]
        by_cases hk : k < 32
        · have y1 := bt_01 r1 k
          have y2 := bt_01 r2 k
          have z1 := l1 k hk
          have z2 := l2 k hk
          rw [hb2 k]
          by_cases hkn : k < (M 2 4).toNat
          · rw [if_pos hkn]
            refine ⟨fun _ => rfl, fun _ => ?_⟩
            by_cases hN : wN M w k
            · rw [z1.mpr ⟨by omega, hN⟩]
              omega
            · have hN2 : wN M v k := fun j hj e => hN (by have := hR.2.2.2 j hj; rw [e] at this; exact this)
              rw [z2.mpr ⟨by omega, hN2⟩]
              omega
          · rw [if_neg hkn]
            refine ⟨fun h => ?_, fun h => by omega⟩
            have q1 : bt r1 k ≠ 1 := fun z => by have := (z1.mp z).1; omega
            have q2 : bt r2 k ≠ 1 := fun z => by have := (z2.mp z).1; omega
            rw [show bt r1 k = 0 by omega, show bt r2 k = 0 by omega] at h
            omega
        · rw [if_neg (by omega), hb2 k, bt_hi30 hr1.2 (by omega), bt_hi30 hr2.2 (by omega)]
          exact ⟨fun h => by omega, fun h => by omega⟩
      · exact Classical.byContradiction fun h8 => h (hr.2 h8)
      · have u1 := a2.2.2 j hj
        have u2 := a1.2.2 i hi
        have h8 := hb2 (M (v + 1) j / 2).toNat
        have h5 := bt_all (M 2 4).toNat (M (v + 1) j / 2).toNat
        rw [h9, hr3.1, h5, if_pos (by omega)] at h8
        have z1 : bt r1 (M (v + 1) j / 2).toNat ≠ 1 := fun z => by
          have := ((l1 _ (by omega)).mp z).2 i hi
          omega
        have z2 : bt r2 (M (v + 1) j / 2).toNat ≠ 1 := fun z => by
          have := ((l2 _ (by omega)).mp z).2 j hj
          omega
        have y1 := bt_01 r1 (M (v + 1) j / 2).toNat
        have y2 := bt_01 r2 (M (v + 1) j / 2).toNat
        rw [show bt r1 (M (v + 1) j / 2).toNat = 0 by omega, show bt r2 (M (v + 1) j / 2).toNat = 0 by omega] at h8
        omega
    · have := hr.1 h2.2.2.1
      omega
  · exact h.elim
theorem me_X2_canTakeIn {l : Launch} (hl : l.stackTraces = false) : mm_Met l yX2_canTakeIn cX2_canTakeIn 2 (some .boolean) [] 10 184 0 sp_X2_canTakeIn := mm_mt hl rn_X2_canTakeIn ⟨plX2, rfl⟩ kkX2_canTakeIn rfl ⟨Nat.le_of_ble_eq_true rfl, Nat.le_of_ble_eq_true rfl⟩ flkX2 (fun _ h => nomatch h) (⟨mm_pe (me_X2_isHome hl) mwX2_isHome (mm_t3 55 rfl rfl) (Nat.le_of_ble_eq_true rfl) (Nat.le_of_ble_eq_true rfl), mm_pe (me_X2_notWalked hl) mwX2_notWalked (mm_t2 124 rfl rfl) (Nat.le_of_ble_eq_true rfl) (Nat.le_of_ble_eq_true rfl), mm_pe (me_X1_allStreets hl) mwX1_allStreets (mm_t2 128 rfl rfl) (Nat.le_of_ble_eq_true rfl) (Nat.le_of_ble_eq_true rfl), trivial⟩) (mm_xe0 _) n9X2
def sp_X2_meetingPlace : mm_S := fun av M d Q => match av with
  | [.inr (.inr (.inl w)), .inr (.inr (.inl v))] =>  isK w ∧ isK v ∧ tW M ∧ wV M w ∧ wV M v ∧ ∀ r, (r = -1 ∧ ∀ i j : Nat, i ≤ M w 2 → j ≤ M v 2 → cor M v j ≠ cor M w i) ∨ (0 ≤ r ∧ r ≤ M w 2 ∧ (∃ j : Nat, j ≤ M v 2 ∧ cor M v j = cor M w r) ∧ ∀ i j : Nat, i < r → j ≤ M v 2 → cor M v j ≠ cor M w i) → Q (.inl (some (mm_I r))) M d
  | _ => False
def ct_X2_meetingPlace : List (Nat × mm_Ca) := [(26, (0, 2, 12, sp_X2_cornerOf, 0)), (90, (0, 2, 12, sp_X2_placeOfCorner, 0))]
abbrev rr_X2_meetingPlace (Q : mm_Q) := mm_run (mm_look flX2) (mm_look ct_X2_meetingPlace) mm_x0 (mm_look ([] : List (Nat × Int))) (fun _ => none) 1 0 (fun _ _ => none) Q kdX2_meetingPlace
set_option maxRecDepth 20000 in
theorem lp_X2_meetingPlace {M : mm_M} {d : List Nat} {Q : mm_Q} {w v n : Nat} (hw : isK w) (hv : isK v) (ht : tW M) (a1 : wV M w) (a2 : wV M v) (hn : M w 2 = n) (hq : ∀ r, (r = -1 ∧ ∀ i j : Nat, i ≤ M w 2 → j ≤ M v 2 → cor M v j ≠ cor M w i) ∨ (0 ≤ r ∧ r ≤ M w 2 ∧ (∃ j : Nat, j ≤ M v 2 ∧ cor M v j = cor M w r) ∧ ∀ i j : Nat, i < r → j ≤ M v 2 → cor M v j ≠ cor M w i) → Q (.inl (some (mm_I r))) M d) : ∀ (k i : Nat), i + k = n + 1 → (∀ i' j : Nat, i' < i → j ≤ M v 2 → cor M v j ≠ cor M w i') → rr_X2_meetingPlace Q 2 [some (mm_R w), some (mm_R v), some (mm_I i)] [] M d 0 := by
  obtain ⟨v1, v2, v3⟩ := id a1
  have v4 := a2.1
  intro k
  induction k with
  | zero =>
    intro i hi hj
    refine mm_run_at (stop := [2]) (S := rr_X2_meetingPlace Q) kkX2_meetingPlace 60 ?_ (fun _ _ _ _ _ _ _ h => h)
    simp only [mm_wp, mm_op, mm_nxt, mm_jmp, mm_at, mm_in, mm_nth, mm_set, mm_ok, mm_isL, mm_ret, mm_isRet, mm_bool, mm_call, mm_push, mm_rv, mm_cats, mm_cat, mm_look, mm_ft, mm_fv, mm_pf, mm_thr, mm_ent, mm_pad, mm_fl, beq_self_eq_true, cond_true, cond_false, Nat.reduceBEq, Nat.reduceEqDiff, List.drop_succ_cons, List.drop_zero, List.take_succ_cons, List.take_zero, List.reverse_cons, List.reverse_nil, List.nil_append, List.cons_append, List.length_cons, List.length_nil, Nat.reduceAdd, Nat.reduceSub, Nat.reduceLeDiff, Bool.not_false, Bool.and_true, Bool.true_and, Nat.zero_add, true_and, and_true, Nat.le_refl, true_or, or_true, reduceCtorEq, Nat.add_zero, Nat.reduceLT, Bool.and_self, Bool.not_true, Fin.isValue, Nat.reduceLeDiff, List.take_nil, List.drop_nil, mm_i1, mm_i2, mm_i3, mm_i4, mm_i5, mm_i6, mm_i7, mm_i16, mm_i17, mm_i18, mm_i19, mm_i20, mm_i21, mm_i22, mm_i23, mm_l3, mm_l4, mm_l5, mm_l6, mm_l7, mm_l18, mm_l19, mm_l20, mm_l21, mm_l22, kdX2_meetingPlace, ct_X2_meetingPlace, flX2, sp_X2_cornerOf, sp_X2_placeOfCorner, wk_is hw, wk_is hv]
    exact ⟨⟨by omega, by omega⟩, ⟨by omega, by omega⟩, fun _ => hq _ (Or.inl ⟨rfl, fun j k h => hj j k (by omega)⟩), fun h => by omega⟩
  | succ k ih =>
    intro i hi hj
    refine mm_run_at (stop := [2]) (S := rr_X2_meetingPlace Q) kkX2_meetingPlace 60 ?_ (fun _ _ _ _ _ _ _ h => h)
    simp only [mm_wp, mm_op, mm_nxt, mm_jmp, mm_at, mm_in, mm_nth, mm_set, mm_ok, mm_isL, mm_ret, mm_isRet, mm_bool, mm_call, mm_push, mm_rv, mm_cats, mm_cat, mm_look, mm_ft, mm_fv, mm_pf, mm_thr, mm_ent, mm_pad, mm_fl, beq_self_eq_true, cond_true, cond_false, Nat.reduceBEq, Nat.reduceEqDiff, List.drop_succ_cons, List.drop_zero, List.take_succ_cons, List.take_zero, List.reverse_cons, List.reverse_nil, List.nil_append, List.cons_append, List.length_cons, List.length_nil, Nat.reduceAdd, Nat.reduceSub, Nat.reduceLeDiff, Bool.not_false, Bool.and_true, Bool.true_and, Nat.zero_add, true_and, and_true, Nat.le_refl, true_or, or_true, reduceCtorEq, Nat.add_zero, Nat.reduceLT, Bool.and_self, Bool.not_true, Fin.isValue, Nat.reduceLeDiff, List.take_nil, List.drop_nil, mm_i1, mm_i2, mm_i3, mm_i4, mm_i5, mm_i6, mm_i7, mm_i16, mm_i17, mm_i18, mm_i19, mm_i20, mm_i21, mm_i22, mm_i23, mm_l3, mm_l4, mm_l5, mm_l6, mm_l7, mm_l18, mm_l19, mm_l20, mm_l21, mm_l22, kdX2_meetingPlace, ct_X2_meetingPlace, flX2, sp_X2_cornerOf, sp_X2_placeOfCorner, wk_is hw, wk_is hv]
    refine ⟨⟨by omega, by omega⟩, ⟨by omega, by omega⟩, fun h => by omega, fun _ => ⟨hw, ht, a1, ⟨by omega, by omega⟩, fun r hr => ⟨hv, ht, a2, ⟨by omega, by omega⟩, fun r2 hr2 => ⟨⟨by omega, by omega⟩, fun h => ?_, fun h => ?_⟩⟩⟩⟩
    · refine ih (i + 1) (by omega) (fun j j2 hj2 hj3 => ?_)
      by_cases e : j = i
      · subst e
        rw [← hr.1]
        rcases hr2 with h4 | h4
        · exact h4.2 j2 (by omega)
        · omega
      · exact hj j j2 (by omega) hj3
    · refine hq _ (Or.inr ⟨by omega, by omega, ?_, fun j k h => hj j k (by omega)⟩)
      rcases hr2 with h4 | h4
      · omega
      · refine ⟨r2.toNat, by omega, ?_⟩
        rw [← hr.1, show ((r2.toNat : Nat) : Int) = r2 by omega]
        exact h4.2.2.1
set_option maxRecDepth 20000 in
theorem rn_X2_meetingPlace : mm_RN flX2 ct_X2_meetingPlace mm_x0 [] 1 0 3 kdX2_meetingPlace sp_X2_meetingPlace := by
  intro av M d Q h
  unfold sp_X2_meetingPlace at h
  split at h
  · rename_i w v
    obtain ⟨hw, hv, ht, a1, a2, hq⟩ := h
    have v1 := a1.1
    obtain ⟨n, hn⟩ := Int.eq_ofNat_of_zero_le v1.1
    refine ⟨Nat.le_of_ble_eq_true rfl, mm_run_at (stop := [2]) (S := rr_X2_meetingPlace Q) kkX2_meetingPlace 80 ?_ (fun _ _ _ _ _ _ _ h => h)⟩
    simp only [mm_wp, mm_op, mm_nxt, mm_jmp, mm_at, mm_in, mm_nth, mm_set, mm_ok, mm_isL, mm_ret, mm_isRet, mm_bool, mm_call, mm_push, mm_rv, mm_cats, mm_cat, mm_look, mm_ft, mm_fv, mm_pf, mm_thr, mm_ent, mm_pad, mm_fl, beq_self_eq_true, cond_true, cond_false, Nat.reduceBEq, Nat.reduceEqDiff, List.drop_succ_cons, List.drop_zero, List.take_succ_cons, List.take_zero, List.reverse_cons, List.reverse_nil, List.nil_append, List.cons_append, List.length_cons, List.length_nil, Nat.reduceAdd, Nat.reduceSub, Nat.reduceLeDiff, Bool.not_false, Bool.and_true, Bool.true_and, Nat.zero_add, true_and, and_true, Nat.le_refl, true_or, or_true, reduceCtorEq, Nat.add_zero, Nat.reduceLT, Bool.and_self, Bool.not_true, Fin.isValue, Nat.reduceLeDiff, List.take_nil, List.drop_nil, mm_i1, mm_i2, mm_i3, mm_i4, mm_i5, mm_i6, mm_i7, mm_i16, mm_i17, mm_i18, mm_i19, mm_i20, mm_i21, mm_i22, mm_i23, mm_l3, mm_l4, mm_l5, mm_l6, mm_l7, mm_l18, mm_l19, mm_l20, mm_l21, mm_l22, kdX2_meetingPlace, ct_X2_meetingPlace, flX2, sp_X2_cornerOf, sp_X2_placeOfCorner]
    exact lp_X2_meetingPlace hw hv ht a1 a2 hn hq (n + 1) 0 (by omega) (fun i j hj => by omega)
  · exact h.elim
theorem me_X2_meetingPlace {l : Launch} (hl : l.stackTraces = false) : mm_Met l yX2_meetingPlace cX2_meetingPlace 3 (some .int) [] 10 186 0 sp_X2_meetingPlace := mm_mt hl rn_X2_meetingPlace ⟨plX2, rfl⟩ kkX2_meetingPlace rfl ⟨Nat.le_of_ble_eq_true rfl, Nat.le_of_ble_eq_true rfl⟩ flkX2 (fun _ h => nomatch h) (⟨mm_pe (me_X2_cornerOf hl) mwX2_cornerOf (mm_t1 191 rfl rfl) (Nat.le_of_ble_eq_true rfl) (Nat.le_of_ble_eq_true rfl), mm_pe (me_X2_placeOfCorner hl) mwX2_placeOfCorner (mm_t4 51 rfl rfl) (Nat.le_of_ble_eq_true rfl) (Nat.le_of_ble_eq_true rfl), trivial⟩) (mm_xe0 _) n9X2

