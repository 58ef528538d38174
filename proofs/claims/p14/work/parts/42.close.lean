/-! the class: close -/
/-- the first i walks have their streets' numbers anew -/
def cloI (s : Int) (M1 M : mm_M) (i : Nat) : Prop := fr [8, 9, 10, 11, 12, 13] M1 M ∧ (∀ j : Nat, j < i → j < 3 → wV M (8 + 2 * j) ∧ wD M (8 + 2 * j) ∧ M (8 + 2 * j) 2 = M1 (8 + 2 * j) 2 ∧ renR M1 M (8 + 2 * j) s) ∧ (∀ j : Nat, i ≤ j → j < 3 → M (8 + 2 * j) = M1 (8 + 2 * j) ∧ M (9 + 2 * j) = M1 (9 + 2 * j))
def sp_X3_close : mm_S := fun av M d Q => match av with
  | [.inr (.inr (.inl o)), .inl s] =>  o = 1 ∧ wA M ∧ InI s ∧ (∀ M' r, cP M M' ∧ InI r ∧ C_close s M M' 0 r → Q (.inl (some (mm_I r))) M' d) ∧ (∀ k, k = 0 ∧ C_close s M M 1 0 → Q (.inr k) M d)
  | _ => False
def ct_X3_close : List (Nat × mm_Ca) := [(76, (0, 2, 10, sp_X3_checkStreet, 1)), (79, (0, 2, 12, sp_X2_placeOf, 0)), (44, (0, 2, 10, sp_X3_counted, 0)), (48, (0, 1, 11, sp_X1_endWords, 0)), (82, (0, 2, 11, sp_X1_dropStreet, 0)), (85, (0, 2, 12, sp_X2_renumberBehind, 0)), (55, (0, 1, 11, sp_X1_size, 0))]
abbrev rr_X3_close (Q : mm_Q) := mm_run (mm_look flX3) (mm_look ct_X3_close) mm_x0 (mm_look ([] : List (Nat × Int))) (fun _ => none) 1 1 (fun _ _ => none) Q kdX3_close
set_option maxRecDepth 20000 in
theorem lp2_X3_close {M1 : mm_M} {d : List Nat} {Q : mm_Q} {s : Int} (ht : tW M1) (hw : ∀ w, isW3 w → ((0 ≤ M1 w 2 ∧ M1 w 2 ≤ 30) ∧ (0 ≤ M1 w 3 ∧ M1 w 3 < 10) ∧ ∀ i : Nat, i < M1 w 2 → 0 ≤ M1 (w + 1) i ∧ M1 (w + 1) i < 2 * M1 2 4 + 2) ∧ wD M1 w ∧ wN M1 w s) (hs : 0 ≤ s ∧ s ≤ M1 2 4) (hq : ∀ M', cloI s M1 M' 3 → wA M' ∧ ∀ M2 r, cP M' M2 ∧ InI r ∧ r = M' 2 4 ∧ M2 = cnF M' r → Q (.inl (some (mm_I r))) M2 d) : ∀ (k i : Nat) (M : mm_M), i + k = 3 → cloI s M1 M i → rr_X3_close Q 59 [some (mm_R 1), some (mm_I s), some (mm_I i)] [] M d 1 := by
  intro k
  induction k with
  | zero =>
    intro i M hi hI
    refine mm_run_at (stop := [59]) (S := rr_X3_close Q) kkX3_close 60 ?_ (fun _ _ _ _ _ _ _ h => h)
    simp only [mm_wp, mm_op, mm_nxt, mm_jmp, mm_at, mm_in, mm_nth, mm_set, mm_ok, mm_isL, mm_ret, mm_isRet, mm_bool, mm_call, mm_push, mm_rv, mm_cats, mm_cat, mm_look, mm_ft, mm_fv, mm_pf, mm_thr, mm_ent, mm_pad, mm_fl, beq_self_eq_true, cond_true, cond_false, Nat.reduceBEq, Nat.reduceEqDiff, List.drop_succ_cons, List.drop_zero, List.take_succ_cons, List.take_zero, List.reverse_cons, List.reverse_nil, List.nil_append, List.cons_append, List.length_cons, List.length_nil, Nat.reduceAdd, Nat.reduceSub, Nat.reduceLeDiff, Bool.not_false, Bool.and_true, Bool.true_and, Nat.zero_add, true_and, and_true, Nat.le_refl, true_or, or_true, reduceCtorEq, Nat.add_zero, Nat.reduceLT, Bool.and_self, Bool.not_true, Fin.isValue, Nat.reduceLeDiff, List.take_nil, List.drop_nil, mm_i1, mm_i2, mm_i3, mm_i4, mm_i5, mm_i6, mm_i7, mm_i16, mm_i17, mm_i18, mm_i19, mm_i20, mm_i21, mm_i22, mm_i23, mm_l3, mm_l4, mm_l5, mm_l6, mm_l7, mm_l18, mm_l19, mm_l20, mm_l21, mm_l22, kdX3_close, ct_X3_close, flX3, sp_X3_checkStreet, sp_X2_placeOf, sp_X3_counted, sp_X1_endWords, sp_X1_dropStreet, sp_X2_renumberBehind, sp_X1_size]
    have e : i = 3 := by omega
    subst e
    refine ⟨⟨by omega, by omega⟩, ⟨by omega, by omega⟩, fun _ => ?_, fun h => by omega⟩
    obtain ⟨h1, h2⟩ := hq M hI
    have t1 := h1.1.1
    exact ⟨h1, ⟨by omega, by omega⟩, fun M2 h => h2 M2 _ ⟨h.1, ⟨by omega, by omega⟩, rfl, h.2⟩⟩
  | succ k ih =>
    intro i M hi hI
    have hk3 : isW3 (8 + 2 * i) := by unfold isW3; omega
    have hk := hk3.k
    have hl := isK_le hk
    refine mm_run_at (stop := [59]) (S := rr_X3_close Q) kkX3_close 60 ?_ (fun _ _ _ _ _ _ _ h => h)
    simp only [mm_wp, mm_op, mm_nxt, mm_jmp, mm_at, mm_in, mm_nth, mm_set, mm_ok, mm_isL, mm_ret, mm_isRet, mm_bool, mm_call, mm_push, mm_rv, mm_cats, mm_cat, mm_look, mm_ft, mm_fv, mm_pf, mm_thr, mm_ent, mm_pad, mm_fl, beq_self_eq_true, cond_true, cond_false, Nat.reduceBEq, Nat.reduceEqDiff, List.drop_succ_cons, List.drop_zero, List.take_succ_cons, List.take_zero, List.reverse_cons, List.reverse_nil, List.nil_append, List.cons_append, List.length_cons, List.length_nil, Nat.reduceAdd, Nat.reduceSub, Nat.reduceLeDiff, Bool.not_false, Bool.and_true, Bool.true_and, Nat.zero_add, true_and, and_true, Nat.le_refl, true_or, or_true, reduceCtorEq, Nat.add_zero, Nat.reduceLT, Bool.and_self, Bool.not_true, Fin.isValue, Nat.reduceLeDiff, List.take_nil, List.drop_nil, mm_i1, mm_i2, mm_i3, mm_i4, mm_i5, mm_i6, mm_i7, mm_i16, mm_i17, mm_i18, mm_i19, mm_i20, mm_i21, mm_i22, mm_i23, mm_l3, mm_l4, mm_l5, mm_l6, mm_l7, mm_l18, mm_l19, mm_l20, mm_l21, mm_l22, kdX3_close, ct_X3_close, flX3, sp_X3_checkStreet, sp_X2_placeOf, sp_X3_counted, sp_X1_endWords, sp_X1_dropStreet, sp_X2_renumberBehind, sp_X1_size, wk_is hk, Int.toNat_natCast]
    obtain ⟨hf, hd, hn⟩ := hI
    have e2 := hf 2 (by simp)
    have ⟨e8, e9⟩ := hn i (Nat.le_refl _) (by omega)
    have e9' : M (8 + 2 * i + 1) = M1 (8 + 2 * i + 1) := by rw [show 8 + 2 * i + 1 = 9 + 2 * i by omega]; exact e9
    obtain ⟨a1, a2, a3⟩ := hw _ hk3
    refine ⟨⟨by omega, by omega⟩, ⟨by omega, by omega⟩, fun h => by omega, fun _ => ⟨by omega, hk, ht.fr hf (by simp) (by simp) (by simp), by rw [e8, e9', e2]; exact a1, a2.to e8 e9', a3.to e8 e9', by rw [e2]; exact hs, fun M' h2 => ih (i + 1) M' (by omega) ⟨hf.tr (h2.1.mono ?_), fun j hj hj3 => ?_, fun j hj hj3 => ?_⟩⟩⟩
    · simp; omega
    · have hkj : isK (8 + 2 * j) := by unfold isK; omega
      by_cases e : j = i
      · subst e
        exact ⟨h2.2.1, h2.2.2.1, by rw [h2.2.2.2.1, e8], by have := h2.2.2.2.2; unfold renR at this ⊢; rw [e8, e9'] at this; exact this⟩
      · obtain ⟨b1, b2, b3, b4⟩ := hd j (by omega) hj3
        have x1 : M' (8 + 2 * j) = M (8 + 2 * j) := h2.1 _ (by simp; omega)
        have x2 : M' (8 + 2 * j + 1) = M (8 + 2 * j + 1) := h2.1 _ (by simp; omega)
        exact ⟨b1.to x1 x2 (h2.1 2 (by simp; omega)), b2.to x1 x2, by rw [x1]; exact b3, by unfold renR at b4 ⊢; rw [x1, x2]; exact b4⟩
    · obtain ⟨b1, b2⟩ := hn j (by omega) hj3
      exact ⟨by rw [← b1]; exact h2.1 _ (by simp; omega), by rw [← b2]; exact h2.1 _ (by simp; omega)⟩
set_option maxRecDepth 20000 in
theorem lp_X3_close {M : mm_M} {d : List Nat} {Q : mm_Q} {s : Int} (ha : wA M) (hs : 0 ≤ s ∧ s < M 2 4) (hq : ∀ M' r, cP M M' ∧ InI r ∧ C_close s M M' 0 r → Q (.inl (some (mm_I r))) M' d) : ∀ (k i : Nat), i + k = 3 → (∀ j : Nat, j < i → wN M (8 + 2 * j) s) → rr_X3_close Q 7 [some (mm_R 1), some (mm_I s), some (mm_I i)] [] M d 1 := by
  have ht := ha.1
  have t1 := ht.1
  intro k
  induction k with
  | zero =>
    intro i hi hN
    refine mm_run_at (stop := [7, 59]) (S := rr_X3_close Q) kkX3_close 60 ?_ (fun _ _ _ _ _ _ _ h => h)
    simp only [mm_wp, mm_op, mm_nxt, mm_jmp, mm_at, mm_in, mm_nth, mm_set, mm_ok, mm_isL, mm_ret, mm_isRet, mm_bool, mm_call, mm_push, mm_rv, mm_cats, mm_cat, mm_look, mm_ft, mm_fv, mm_pf, mm_thr, mm_ent, mm_pad, mm_fl, beq_self_eq_true, cond_true, cond_false, Nat.reduceBEq, Nat.reduceEqDiff, List.drop_succ_cons, List.drop_zero, List.take_succ_cons, List.take_zero, List.reverse_cons, List.reverse_nil, List.nil_append, List.cons_append, List.length_cons, List.length_nil, Nat.reduceAdd, Nat.reduceSub, Nat.reduceLeDiff, Bool.not_false, Bool.and_true, Bool.true_and, Nat.zero_add, true_and, and_true, Nat.le_refl, true_or, or_true, reduceCtorEq, Nat.add_zero, Nat.reduceLT, Bool.and_self, Bool.not_true, Fin.isValue, Nat.reduceLeDiff, List.take_nil, List.drop_nil, mm_i1, mm_i2, mm_i3, mm_i4, mm_i5, mm_i6, mm_i7, mm_i16, mm_i17, mm_i18, mm_i19, mm_i20, mm_i21, mm_i22, mm_i23, mm_l3, mm_l4, mm_l5, mm_l6, mm_l7, mm_l18, mm_l19, mm_l20, mm_l21, mm_l22, kdX3_close, ct_X3_close, flX3, sp_X3_checkStreet, sp_X2_placeOf, sp_X3_counted, sp_X1_endWords, sp_X1_dropStreet, sp_X2_renumberBehind, sp_X1_size]
    refine ⟨⟨by omega, by omega⟩, ⟨by omega, by omega⟩, fun _ => ?_, fun h => by omega⟩
    have e : (mm_up (mm_up M 2 6 0) 2 7 0) 2 4 = M 2 4 := by simp [mm_up]
    refine ⟨ht.q, by rw [e]; exact hs, fun M1 hR => ?_⟩
    obtain ⟨g1, g2, g3, g4, g5⟩ := hR
    rw [e] at g4
    have hf : fr [2, 3, 4] M M1 := ((fr.rf.up (o := 2) (by simp)).up (o := 2) (by simp)).tr g2
    refine lp2_X3_close g1 (fun w hw => ?_) (by omega) (fun M' hI => ?_) 3 0 M1 (by omega) ⟨fr.rf, fun j hj => by omega, fun j _ _ => ⟨rfl, rfl⟩⟩
    · have hl := isK_le hw.k
      obtain ⟨⟨v1, v2, v3⟩, hD⟩ := ha.2.1 w hw
      have e1 := hf w (by simp; omega)
      have e2 := hf (w + 1) (by simp; omega)
      refine ⟨⟨by rw [e1]; exact v1, by rw [e1]; exact v2, fun j hj => ?_⟩, hD.to e1 e2, ?_⟩
      · rw [e1] at hj
        rw [e2]
        have := v3 j hj
        omega
      · have h9 : wN M w s := by
          rcases hw with rfl | rfl | rfl
          · exact hN 0 (by omega)
          · exact hN 1 (by omega)
          · exact hN 2 (by omega)
        exact h9.to e1 e2
    · obtain ⟨f1, f2, -⟩ := hI
      have e16 : M' 16 = M 16 := by rw [f1 16 (by simp), hf 16 (by simp)]
      have hkk : ∀ w, isW3 w → wV M' w ∧ wD M' w ∧ M' w 2 = M w 2 ∧ renR M1 M' w s := by
        intro w hw
        have hl := isK_le hw.k
        have e1 := hf w (by simp; omega)
        rcases hw with rfl | rfl | rfl
        · have := f2 0 (by omega) (by omega)
          simpa [e1] using this
        · have := f2 1 (by omega) (by omega)
          simpa [e1] using this
        · have := f2 2 (by omega) (by omega)
          simpa [e1] using this
      have hA : wA M' := ⟨g1.fr f1 (by simp) (by simp) (by simp), fun w hw => ⟨(hkk w hw).1, (hkk w hw).2.1⟩, ha.2.2.to e16 (fun h1 h2 => by rw [(hkk _ (ha.2.2.1.resolve_left h1)).2.2.1]; exact Int.le_refl _)⟩
      have hP : cP M M' := ⟨hA, (cF.of hf (by simp)).tr (cF.of f1 (by simp)), by rw [f1 1 (by simp), hf 1 (by simp)]⟩
      have hNa : ∀ w, isW3 w → wN M w s := fun w hw => by
        rcases hw with rfl | rfl | rfl
        · exact hN 0 (by omega)
        · exact hN 1 (by omega)
        · exact hN 2 (by omega)
      have e22 : M' 2 = M1 2 := f1 2 (by simp)
      refine ⟨hA, fun M2 r h => hq M2 r ⟨hP.tr h.1, h.2.1, ok1.y hs (no9.y hNa ⟨by rw [h.2.2.1, e22, g4], M', ⟨.of ?_, .of e16, by rw [e22, g4], by rw [e22, g3 5 (by omega)]; simp [mm_up], by rw [e22, g3 6 (by omega)]; simp [mm_up], by rw [e22, g3 7 (by omega)]; simp [mm_up], fun x hx => ?_, fun x hx hx2 => ?_, fun w hw => ?_⟩, SE.eq h.2.2.2⟩)⟩⟩
      · rw [f1 1 (by simp), hf 1 (by simp)]
      · rw [f1 3 (by simp), f1 4 (by simp)]
        exact g5.1 x hx
      · rw [f1 3 (by simp), f1 4 (by simp)]
        exact g5.2 x hx (by rw [e]; exact hx2)
      · have hl := isK_le hw.k
        have := (hkk w hw).2.2.2
        unfold renR at this ⊢
        rw [hf w (by simp; omega), hf (w + 1) (by simp; omega)] at this
        exact this
  | succ k ih =>
    intro i hi hN
    have hk3 : isW3 (8 + 2 * i) := by unfold isW3; omega
    have hk := hk3.k
    have hn9 : InI (-9 : Int) := ⟨by omega, by omega⟩
    have v1 := (ha.2.1 _ hk3).1.1
    refine mm_run_at (stop := [7, 59]) (S := rr_X3_close Q) kkX3_close 60 ?_ (fun _ _ _ _ _ _ _ h => h)
    simp only [mm_wp, mm_op, mm_nxt, mm_jmp, mm_at, mm_in, mm_nth, mm_set, mm_ok, mm_isL, mm_ret, mm_isRet, mm_bool, mm_call, mm_push, mm_rv, mm_cats, mm_cat, mm_look, mm_ft, mm_fv, mm_pf, mm_thr, mm_ent, mm_pad, mm_fl, beq_self_eq_true, cond_true, cond_false, Nat.reduceBEq, Nat.reduceEqDiff, List.drop_succ_cons, List.drop_zero, List.take_succ_cons, List.take_zero, List.reverse_cons, List.reverse_nil, List.nil_append, List.cons_append, List.length_cons, List.length_nil, Nat.reduceAdd, Nat.reduceSub, Nat.reduceLeDiff, Bool.not_false, Bool.and_true, Bool.true_and, Nat.zero_add, true_and, and_true, Nat.le_refl, true_or, or_true, reduceCtorEq, Nat.add_zero, Nat.reduceLT, Bool.and_self, Bool.not_true, Fin.isValue, Nat.reduceLeDiff, List.take_nil, List.drop_nil, mm_i1, mm_i2, mm_i3, mm_i4, mm_i5, mm_i6, mm_i7, mm_i16, mm_i17, mm_i18, mm_i19, mm_i20, mm_i21, mm_i22, mm_i23, mm_l3, mm_l4, mm_l5, mm_l6, mm_l7, mm_l18, mm_l19, mm_l20, mm_l21, mm_l22, kdX3_close, ct_X3_close, flX3, sp_X3_checkStreet, sp_X2_placeOf, sp_X3_counted, sp_X1_endWords, sp_X1_dropStreet, sp_X2_renumberBehind, sp_X1_size, wk_is hk, Int.toNat_natCast]
    refine ⟨⟨by omega, by omega⟩, ⟨by omega, by omega⟩, fun h => by omega, fun _ => ⟨by omega, hk, ht, (ha.2.1 _ hk3).1, ⟨by omega, by omega⟩, fun r hr => ⟨⟨by omega, by omega⟩, fun h => ih (i + 1) (by omega) (fun j hj => ?_), fun h => ⟨by omega, ha, hn9, fun M' h2 => hq M' _ ⟨h2.1, hn9, ok1.y hs (no9.n (fun h3 => ?_) h2.2)⟩⟩⟩⟩⟩
    · by_cases e : j = i
      · subst e
        rcases hr with h9 | h9
        · exact h9.2
        · omega
      · exact hN j (by omega)
    · rcases hr with h9 | h9
      · omega
      · exact h3 _ hk3 r.toNat (by omega) h9.2.2.1
set_option maxRecDepth 20000 in
theorem rn_X3_close : mm_RN flX3 ct_X3_close mm_x0 [] 1 1 3 kdX3_close sp_X3_close := by
  intro av M d Q h
  unfold sp_X3_close at h
  split at h
  · rename_i o s
    obtain ⟨rfl, ha, hs, hq, hx⟩ := h
    refine ⟨Nat.le_of_ble_eq_true rfl, mm_run_at (stop := [7]) (S := rr_X3_close Q) kkX3_close 80 ?_ (fun _ _ _ _ _ _ _ h => h)⟩
    simp only [mm_wp, mm_op, mm_nxt, mm_jmp, mm_at, mm_in, mm_nth, mm_set, mm_ok, mm_isL, mm_ret, mm_isRet, mm_bool, mm_call, mm_push, mm_rv, mm_cats, mm_cat, mm_look, mm_ft, mm_fv, mm_pf, mm_thr, mm_ent, mm_pad, mm_fl, beq_self_eq_true, cond_true, cond_false, Nat.reduceBEq, Nat.reduceEqDiff, List.drop_succ_cons, List.drop_zero, List.take_succ_cons, List.take_zero, List.reverse_cons, List.reverse_nil, List.nil_append, List.cons_append, List.length_cons, List.length_nil, Nat.reduceAdd, Nat.reduceSub, Nat.reduceLeDiff, Bool.not_false, Bool.and_true, Bool.true_and, Nat.zero_add, true_and, and_true, Nat.le_refl, true_or, or_true, reduceCtorEq, Nat.add_zero, Nat.reduceLT, Bool.and_self, Bool.not_true, Fin.isValue, Nat.reduceLeDiff, List.take_nil, List.drop_nil, mm_i1, mm_i2, mm_i3, mm_i4, mm_i5, mm_i6, mm_i7, mm_i16, mm_i17, mm_i18, mm_i19, mm_i20, mm_i21, mm_i22, mm_i23, mm_l3, mm_l4, mm_l5, mm_l6, mm_l7, mm_l18, mm_l19, mm_l20, mm_l21, mm_l22, kdX3_close, ct_X3_close, flX3, sp_X3_checkStreet, sp_X2_placeOf, sp_X3_counted, sp_X1_endWords, sp_X1_dropStreet, sp_X2_renumberBehind, sp_X1_size]
    exact ⟨ha, hs, fun h => lp_X3_close ha h hq 3 0 (by omega) (fun j hj => by omega), fun h => hx _ ⟨rfl, ok1.n h⟩⟩
  · exact h.elim
theorem me_X3_close {l : Launch} (hl : l.stackTraces = false) : mm_Met l yX3_close cX3_close 3 (some .int) [] 8 141 1 sp_X3_close := mm_mt hl rn_X3_close ⟨plX3, rfl⟩ kkX3_close rfl ⟨Nat.le_of_ble_eq_true rfl, Nat.le_of_ble_eq_true rfl⟩ flkX3 (fun _ h => nomatch h) (⟨mm_pe (me_X3_checkStreet hl) mwX3_checkStreet (mm_t3 148 rfl rfl) (Nat.le_of_ble_eq_true rfl) (Nat.le_of_ble_eq_true rfl), mm_pe (me_X2_placeOf hl) mwX2_placeOf (mm_t3 153 rfl rfl) (Nat.le_of_ble_eq_true rfl) (Nat.le_of_ble_eq_true rfl), mm_pe (me_X3_counted hl) mwX3_counted (mm_t1 155 rfl rfl) (Nat.le_of_ble_eq_true rfl) (Nat.le_of_ble_eq_true rfl), mm_pe (me_X1_endWords hl) mwX1_endWords (mm_t1 207 rfl rfl) (Nat.le_of_ble_eq_true rfl) (Nat.le_of_ble_eq_true rfl), mm_pe (me_X1_dropStreet hl) mwX1_dropStreet (mm_t3 157 rfl rfl) (Nat.le_of_ble_eq_true rfl) (Nat.le_of_ble_eq_true rfl), mm_pe (me_X2_renumberBehind hl) mwX2_renumberBehind (mm_t3 161 rfl rfl) (Nat.le_of_ble_eq_true rfl) (Nat.le_of_ble_eq_true rfl), mm_pe (me_X1_size hl) mwX1_size (mm_t1 131 rfl rfl) (Nat.le_of_ble_eq_true rfl) (Nat.le_of_ble_eq_true rfl), trivial⟩) (mm_xe0 _) n9X3

