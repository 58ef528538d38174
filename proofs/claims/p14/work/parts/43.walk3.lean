/-! the class: the walks' calls -/
theorem wA.Lw {M M' : mm_M} {w : Nat} (ha : wA M) (hw : isW3 w) (hf : fr [w, w + 1, 5, 6] M M') (h1 : wV M' w) (h2 : wD M' w) : wL M' w ∧ cF M M' ∧ M' 1 6 = M 1 6 := ⟨ha.L.w hw.k hf h1 h2, wL.cf hw.k hf⟩
theorem wA.Le {M M' : mm_M} {w : Nat} (ha : wA M) (hw : isW3 w) (hf : fr [w, w + 1, 5, 6] M M') (h1 : wV M' w) (h2 : wD M' w) (h3 : M w 2 ≤ M' w 2) : cP M M' := by
  have hl := isK_le hw.k
  refine ha.w hw.k (hf.mono (by simp)) h1 h2 (ha.2.2.to (hf 16 (by simp; omega)) (fun h4 _ => ?_))
  have hk4 := (ha.2.2.1.resolve_left h4).k
  have := isK_le hk4
  by_cases e : (M 16 1).toNat = w
  · rw [e]
    exact h3
  · have := wk_ap hk4 hw.k e
    rw [hf _ (by simp; omega)]
    exact Int.le_refl _
/-- a walk's end is not on it by the cursor, and the cursor is lost if it is there -/
theorem wL.los {M M' : mm_M} {w : Nat} (h : wL M w) (h2 : (M 16 1 = w ∧ M' = mm_up M 16 4 1) ∨ (M 16 1 ≠ w ∧ M' = M)) : cP M M' := by
  rcases h2 with ⟨e, h2⟩ | ⟨e, h2⟩
  · subst h2
    exact ⟨h.lose, cF.rf.up (by simp), by simp [mm_up]⟩
  · subst h2
    exact (h.off e).rf
def wL2 (M : mm_M) (w v : Nat) : Prop := tW M ∧ (∀ x, isW3 x → wV M x ∧ wD M x) ∧ (M 16 1 = 0 ∨ isW3 (M 16 1).toNat) ∧ (M 16 1 ≠ w → M 16 1 ≠ v → cV M)
theorem wL2.one {M M' : mm_M} {w v : Nat} (h : wL2 M w v) (h2 : (M 16 1 = v ∧ M' = mm_up M 16 4 1) ∨ (M 16 1 ≠ v ∧ M' = M)) : wL M' w ∧ cF M M' ∧ M' 1 6 = M 1 6 := by
  rcases h2 with ⟨e, h2⟩ | ⟨e, h2⟩
  · subst h2
    have : wL M v := ⟨h.1, h.2.1, h.2.2.1, fun h3 => absurd e h3⟩
    exact ⟨this.lose.L, cF.rf.up (by simp), by simp [mm_up]⟩
  · rw [h2]
    exact ⟨⟨h.1, h.2.1, h.2.2.1, fun h3 => h.2.2.2 h3 e⟩, cF.rf, rfl⟩
theorem wA.two {M M' : mm_M} {w v : Nat} (h : wA M) (hw : isW3 w) (hv : isW3 v) (hf : fr [w, w + 1, v, v + 1] M M') (h1 : wV M' w ∧ wD M' w) (h2 : wV M' v ∧ wD M' v) : wL2 M' w v ∧ cF M M' ∧ M' 1 6 = M 1 6 := by
  have hl := isK_le hw.k
  have hl2 := isK_le hv.k
  have e16 : M' 16 = M 16 := hf 16 (by simp; omega)
  refine ⟨⟨h.1.fr hf (by simp; omega) (by simp; omega) (by simp; omega), fun x hx => ?_, by rw [e16]; exact h.2.2.1, fun h3 h4 => ?_⟩, cF.of hf (by simp; omega), by rw [hf 1 (by simp; omega)]⟩
  · have hl3 := isK_le hx.k
    by_cases e : x = w
    · subst e
      exact h1
    · by_cases e2 : x = v
      · subst e2
        exact h2
      · have := wk_ap hx.k hw.k e
        have := wk_ap hx.k hv.k e2
        exact wV.me (h.2.1 x hx) (hf x (by simp; omega)) (hf (x + 1) (by simp; omega)) (hf 2 (by simp; omega))
  · rw [e16] at h3 h4
    refine h.2.2.to e16 (fun h5 _ => ?_)
    have hk := (h.2.2.1.resolve_left h5).k
    have := isK_le hk
    have n1 : (M 16 1).toNat ≠ w := by omega
    have n2 : (M 16 1).toNat ≠ v := by omega
    have := wk_ap hk hw.k n1
    have := wk_ap hk hv.k n2
    rw [hf (M 16 1).toNat (by simp; omega)]
    exact Int.le_refl _
theorem cP.of {M M' M'' : mm_M} (h : cF M M') (h1 : M' 1 6 = M 1 6) (h2 : cP M' M'') : cP M M'' := ⟨h2.1, h.tr h2.2.1, h2.2.2.trans h1⟩
/-- a cursor on the walk is lost: whatever the walk becomes -/
theorem wA.lo {M M' : mm_M} {w : Nat} (ha : wA M) (hw : isW3 w) (hlo : M 16 1 = w → M 16 4 = 1) (hf : fr [w, w + 1, 5, 6] M M') (h1 : wV M' w) (h2 : wD M' w) : cP M M' := by
  have hl := isK_le hw.k
  refine ha.w hw.k (hf.mono (by simp)) h1 h2 (ha.2.2.to (hf 16 (by simp; omega)) (fun h4 h5 => ?_))
  have hk4 := (ha.2.2.1.resolve_left h4).k
  have := isK_le hk4
  have e : (M 16 1).toNat ≠ w := fun e => by have := hlo (by omega); omega
  have := wk_ap hk4 hw.k e
  rw [hf _ (by simp; omega)]
  exact Int.le_refl _
/-- the scratch walk alone is another -/
theorem wA.x {M M' : mm_M} (h : wA M) (hf : fr [14, 15, 5, 6] M M') : cP M M' := by
  refine ⟨⟨h.1.fr hf (by simp) (by simp) (by simp), fun w hw => ?_, h.2.2.to (hf 16 (by simp)) (fun h1 _ => ?_)⟩, cF.of hf (by simp), by rw [hf 1 (by simp)]⟩
  · have : w ≠ 14 ∧ w ≠ 15 ∧ w ≠ 5 ∧ w ≠ 6 ∧ w + 1 ≠ 14 ∧ w + 1 ≠ 15 ∧ w + 1 ≠ 5 ∧ w + 1 ≠ 6 := by
      rcases hw with rfl | rfl | rfl <;> simp
    exact wV.me (h.2.1 w hw) (hf w (by simp; omega)) (hf (w + 1) (by simp; omega)) (hf 2 (by simp))
  · have hw := h.2.2.1.resolve_left h1
    have : (M 16 1).toNat ≠ 14 ∧ (M 16 1).toNat ≠ 15 ∧ (M 16 1).toNat ≠ 5 ∧ (M 16 1).toNat ≠ 6 := by
      rcases hw with e | e | e <;> rw [e] <;> simp
    rw [hf _ (by simp; omega)]
    exact Int.le_refl _
def sp_X3_begin : mm_S := fun av M d Q => match av with
  | [.inr (.inr (.inl o)), .inl a, .inl c] =>  o = 1 ∧ wA M ∧ InI a ∧ InI c ∧ (∀ M' r, cP M M' ∧ InI r ∧ C_begin a c M M' 0 r → Q (.inl (some (mm_I r))) M' d) ∧ (∀ k, k = 0 ∧ C_begin a c M M 1 0 → Q (.inr k) M d)
  | _ => False
def ct_X3_begin : List (Nat × mm_Ca) := [(145, (0, 2, 10, sp_X3_walkOf, 1)), (36, (0, 2, 10, sp_X3_checkCorner, 1)), (149, (0, 1, 12, sp_X2_size, 0)), (150, (0, 2, 12, sp_X2_restart, 0)), (153, (0, 2, 13, sp_X0_loseOn, 0)), (44, (0, 2, 10, sp_X3_counted, 0))]
abbrev rr_X3_begin (Q : mm_Q) := mm_run (mm_look flX3) (mm_look ct_X3_begin) mm_x0 (mm_look ([] : List (Nat × Int))) (fun _ => none) 1 2 (fun _ _ => none) Q kdX3_begin
set_option maxRecDepth 20000 in
theorem rn_X3_begin : mm_RN flX3 ct_X3_begin mm_x0 [] 1 2 5 kdX3_begin sp_X3_begin := by
  intro av M d Q h
  unfold sp_X3_begin at h
  split at h
  · rename_i o a c
    obtain ⟨rfl, ha, h1, h2, hq, hx⟩ := h
    refine ⟨Nat.le_of_ble_eq_true rfl, mm_run_at (stop := []) (S := mm_F0) kkX3_begin 80 ?_ mm_F0h⟩
    simp only [mm_wp, mm_op, mm_nxt, mm_jmp, mm_at, mm_in, mm_nth, mm_set, mm_ok, mm_isL, mm_ret, mm_isRet, mm_bool, mm_call, mm_push, mm_rv, mm_cats, mm_cat, mm_look, mm_ft, mm_fv, mm_pf, mm_thr, mm_ent, mm_pad, mm_fl, beq_self_eq_true, cond_true, cond_false, Nat.reduceBEq, Nat.reduceEqDiff, List.drop_succ_cons, List.drop_zero, List.take_succ_cons, List.take_zero, List.reverse_cons, List.reverse_nil, List.nil_append, List.cons_append, List.length_cons, List.length_nil, Nat.reduceAdd, Nat.reduceSub, Nat.reduceLeDiff, Bool.not_false, Bool.and_true, Bool.true_and, Nat.zero_add, true_and, and_true, Nat.le_refl, true_or, or_true, reduceCtorEq, Nat.add_zero, Nat.reduceLT, Bool.and_self, Bool.not_true, Fin.isValue, Nat.reduceLeDiff, List.take_nil, List.drop_nil, mm_i1, mm_i2, mm_i3, mm_i4, mm_i5, mm_i6, mm_i7, mm_i16, mm_i17, mm_i18, mm_i19, mm_i20, mm_i21, mm_i22, mm_i23, mm_l3, mm_l4, mm_l5, mm_l6, mm_l7, mm_l18, mm_l19, mm_l20, mm_l21, mm_l22, kdX3_begin, ct_X3_begin, flX3, sp_X3_walkOf, sp_X3_checkCorner, sp_X2_size, sp_X2_restart, sp_X0_loseOn, sp_X3_counted]
    refine ⟨h1, fun w ca ew hw => ⟨h2, fun cc => ?_, fun h => hx _ ⟨rfl, ok1.n (fun h2 => h h2.2)⟩⟩, fun h => hx _ ⟨rfl, ok1.n (fun h2 => h h2.1)⟩⟩
    have hk := hw.k
    have ew2 : wk a = w := ew.symm
    have hs := wk_is hk M d
    have hl := isK_le hk
    obtain ⟨hv, hD⟩ := ha.2.1 w hw
    have v1 := hv.1
    have hI : InI (M w 2) := ⟨by omega, by omega⟩
    have hf : fr [w, w + 1, 5, 6] M (mm_up (mm_up M w 2 0) w 3 c) := (fr.rf.up (by simp)).up (by simp)
    have hv' : wV (mm_up (mm_up M w 2 0) w 3 c) w := ⟨by simp [mm_up], by simp [mm_up]; exact cc, fun j hj => by simp [mm_up] at hj; omega⟩
    have hD' : wD (mm_up (mm_up M w 2 0) w 3 c) w := wD_0 (by simp [mm_up])
    obtain ⟨g1, g2, g3⟩ := ha.Lw hw hf hv' hD'
    refine ⟨hs, hk, hs, hk, hI, fun h0 => ?_, fun h0 => ⟨g1.2.2.1, hk, fun M1 h3 => ?_⟩⟩
    · have hP := ha.Le hw hf hv' hD' (by simp [mm_up]; omega)
      exact ⟨hP.1, hI, fun M2 h => hq M2 _ ⟨hP.tr h.1, hI, by unfold C_begin; rw [ew2]; exact ok1.y ⟨ca, cc⟩ ⟨rfl, SE.eq (by rw [losI_n (by omega)]; exact h.2)⟩⟩⟩
    · have hP := g1.los h3
      exact ⟨hP.1, hI, fun M2 h => hq M2 _ ⟨cP.of g2 g3 (hP.tr h.1), hI, by unfold C_begin; rw [ew2]; exact ok1.y ⟨ca, cc⟩ ⟨rfl, SE.eq (by rw [losI_y (by omega), h.2, losM.of h3]; rfl)⟩⟩⟩
  · exact h.elim
theorem me_X3_begin {l : Launch} (hl : l.stackTraces = false) : mm_Met l yX3_begin cX3_begin 5 (some .int) [] 8 141 2 sp_X3_begin := mm_mt hl rn_X3_begin ⟨plX3, rfl⟩ kkX3_begin rfl ⟨Nat.le_of_ble_eq_true rfl, Nat.le_of_ble_eq_true rfl⟩ flkX3 (fun _ h => nomatch h) (⟨mm_pe (me_X3_walkOf hl) mwX3_walkOf (mm_t2 209 rfl rfl) (Nat.le_of_ble_eq_true rfl) (Nat.le_of_ble_eq_true rfl), mm_pe (me_X3_checkCorner hl) mwX3_checkCorner (mm_t3 80 rfl rfl) (Nat.le_of_ble_eq_true rfl) (Nat.le_of_ble_eq_true rfl), mm_pe (me_X2_size hl) mwX2_size (mm_t3 40 rfl rfl) (Nat.le_of_ble_eq_true rfl) (Nat.le_of_ble_eq_true rfl), mm_pe (me_X2_restart hl) mwX2_restart (mm_t1 147 rfl rfl) (Nat.le_of_ble_eq_true rfl) (Nat.le_of_ble_eq_true rfl), mm_pe (me_X0_loseOn hl) mwX0_loseOn (mm_t3 200 rfl rfl) (Nat.le_of_ble_eq_true rfl) (Nat.le_of_ble_eq_true rfl), mm_pe (me_X3_counted hl) mwX3_counted (mm_t1 155 rfl rfl) (Nat.le_of_ble_eq_true rfl) (Nat.le_of_ble_eq_true rfl), trivial⟩) (mm_xe0 _) n9X3
def sp_X3_step : mm_S := fun av M d Q => match av with
  | [.inr (.inr (.inl o)), .inl a, .inl c, .inl f] =>  o = 1 ∧ wA M ∧ InI a ∧ InI c ∧ (f = 0 ∨ f = 1) ∧ (∀ M' r, cP M M' ∧ InI r ∧ C_step a c f M M' 0 r → Q (.inl (some (mm_I r))) M' d) ∧ (∀ k, k = 0 ∧ C_step a c f M M 1 0 → Q (.inr k) M d)
  | _ => False
def ct_X3_step : List (Nat × mm_Ca) := [(145, (0, 2, 10, sp_X3_walkOf, 1)), (76, (0, 2, 10, sp_X3_checkStreet, 1)), (157, (0, 3, 12, sp_X2_walkStreet, 0)), (161, (0, 3, 10, sp_X3_countedMove, 0))]
abbrev rr_X3_step (Q : mm_Q) := mm_run (mm_look flX3) (mm_look ct_X3_step) mm_x0 (mm_look ([] : List (Nat × Int))) (fun _ => none) 1 2 (fun _ _ => none) Q kdX3_step
set_option maxRecDepth 20000 in
theorem rn_X3_step : mm_RN flX3 ct_X3_step mm_x0 [] 1 2 5 kdX3_step sp_X3_step := by
  intro av M d Q h
  unfold sp_X3_step at h
  split at h
  · rename_i o a c f
    obtain ⟨rfl, ha, h1, h2, h3, hq, hx⟩ := h
    refine ⟨Nat.le_of_ble_eq_true rfl, mm_run_at (stop := []) (S := mm_F0) kkX3_step 80 ?_ mm_F0h⟩
    simp only [mm_wp, mm_op, mm_nxt, mm_jmp, mm_at, mm_in, mm_nth, mm_set, mm_ok, mm_isL, mm_ret, mm_isRet, mm_bool, mm_call, mm_push, mm_rv, mm_cats, mm_cat, mm_look, mm_ft, mm_fv, mm_pf, mm_thr, mm_ent, mm_pad, mm_fl, beq_self_eq_true, cond_true, cond_false, Nat.reduceBEq, Nat.reduceEqDiff, List.drop_succ_cons, List.drop_zero, List.take_succ_cons, List.take_zero, List.reverse_cons, List.reverse_nil, List.nil_append, List.cons_append, List.length_cons, List.length_nil, Nat.reduceAdd, Nat.reduceSub, Nat.reduceLeDiff, Bool.not_false, Bool.and_true, Bool.true_and, Nat.zero_add, true_and, and_true, Nat.le_refl, true_or, or_true, reduceCtorEq, Nat.add_zero, Nat.reduceLT, Bool.and_self, Bool.not_true, Fin.isValue, Nat.reduceLeDiff, List.take_nil, List.drop_nil, mm_i1, mm_i2, mm_i3, mm_i4, mm_i5, mm_i6, mm_i7, mm_i16, mm_i17, mm_i18, mm_i19, mm_i20, mm_i21, mm_i22, mm_i23, mm_l3, mm_l4, mm_l5, mm_l6, mm_l7, mm_l18, mm_l19, mm_l20, mm_l21, mm_l22, kdX3_step, ct_X3_step, flX3, sp_X3_walkOf, sp_X3_checkStreet, sp_X2_walkStreet, sp_X3_countedMove]
    refine ⟨h1, fun w ca ew hw => ⟨ha, h2, fun cc => ?_, fun h => hx _ ⟨rfl, ok1.n (fun h2 => h h2.2)⟩⟩, fun h => hx _ ⟨rfl, ok1.n (fun h2 => h h2.1)⟩⟩
    have hk := hw.k
    have ew2 : wk a = w := ew.symm
    obtain ⟨hv, hD⟩ := ha.2.1 w hw
    refine ⟨wk_is hk M d, hk, ha.1, hv, hD, cc, h3, fun M' r h => ?_⟩
    obtain ⟨f1, f2, f3, f4, f5, f6⟩ := h
    obtain ⟨g1, g2, g3⟩ := ha.Lw hw (f1.mono (by simp)) f2 f3
    have hI : InI r := ⟨by omega, by omega⟩
    exact ⟨hw, hI, g1, fun h => by rw [f4 h]; exact ha, fun M2 h => hq M2 _ ⟨cP.of g2 g3 h.1, hI, by unfold C_step; rw [ew2]; exact ok1.y ⟨ca, cc⟩ ⟨M', f6, SE.eq h.2⟩⟩⟩
  · exact h.elim
theorem me_X3_step {l : Launch} (hl : l.stackTraces = false) : mm_Met l yX3_step cX3_step 5 (some .int) [] 11 208 2 sp_X3_step := mm_mt hl rn_X3_step ⟨plX3, rfl⟩ kkX3_step rfl ⟨Nat.le_of_ble_eq_true rfl, Nat.le_of_ble_eq_true rfl⟩ flkX3 (fun _ h => nomatch h) (⟨mm_pe (me_X3_walkOf hl) mwX3_walkOf (mm_t2 209 rfl rfl) (Nat.le_of_ble_eq_true rfl) (Nat.le_of_ble_eq_true rfl), mm_pe (me_X3_checkStreet hl) mwX3_checkStreet (mm_t3 148 rfl rfl) (Nat.le_of_ble_eq_true rfl) (Nat.le_of_ble_eq_true rfl), mm_pe (me_X2_walkStreet hl) mwX2_walkStreet (mm_t3 211 rfl rfl) (Nat.le_of_ble_eq_true rfl) (Nat.le_of_ble_eq_true rfl), mm_pe (me_X3_countedMove hl) mwX3_countedMove (mm_t3 224 rfl rfl) (Nat.le_of_ble_eq_true rfl) (Nat.le_of_ble_eq_true rfl), trivial⟩) (mm_xe0 _) n9X3
def sp_X3_back : mm_S := fun av M d Q => match av with
  | [.inr (.inr (.inl o)), .inl a, .inl f] =>  o = 1 ∧ wA M ∧ InI a ∧ (f = 0 ∨ f = 1) ∧ (∀ M' r, cP M M' ∧ InI r ∧ C_back a f M M' 0 r → Q (.inl (some (mm_I r))) M' d) ∧ (∀ k, k = 0 ∧ C_back a f M M 1 0 → Q (.inr k) M d)
  | _ => False
def ct_X3_back : List (Nat × mm_Ca) := [(145, (0, 2, 10, sp_X3_walkOf, 1)), (165, (0, 2, 12, sp_X2_stepBack, 0)), (161, (0, 3, 10, sp_X3_countedMove, 0))]
abbrev rr_X3_back (Q : mm_Q) := mm_run (mm_look flX3) (mm_look ct_X3_back) mm_x0 (mm_look ([] : List (Nat × Int))) (fun _ => none) 1 1 (fun _ _ => none) Q kdX3_back
set_option maxRecDepth 20000 in
theorem rn_X3_back : mm_RN flX3 ct_X3_back mm_x0 [] 1 1 4 kdX3_back sp_X3_back := by
  intro av M d Q h
  unfold sp_X3_back at h
  split at h
  · rename_i o a f
    obtain ⟨rfl, ha, h1, h3, hq, hx⟩ := h
    refine ⟨Nat.le_of_ble_eq_true rfl, mm_run_at (stop := []) (S := mm_F0) kkX3_back 80 ?_ mm_F0h⟩
    simp only [mm_wp, mm_op, mm_nxt, mm_jmp, mm_at, mm_in, mm_nth, mm_set, mm_ok, mm_isL, mm_ret, mm_isRet, mm_bool, mm_call, mm_push, mm_rv, mm_cats, mm_cat, mm_look, mm_ft, mm_fv, mm_pf, mm_thr, mm_ent, mm_pad, mm_fl, beq_self_eq_true, cond_true, cond_false, Nat.reduceBEq, Nat.reduceEqDiff, List.drop_succ_cons, List.drop_zero, List.take_succ_cons, List.take_zero, List.reverse_cons, List.reverse_nil, List.nil_append, List.cons_append, List.length_cons, List.length_nil, Nat.reduceAdd, Nat.reduceSub, Nat.reduceLeDiff, Bool.not_false, Bool.and_true, Bool.true_and, Nat.zero_add, true_and, and_true, Nat.le_refl, true_or, or_true, reduceCtorEq, Nat.add_zero, Nat.reduceLT, Bool.and_self, Bool.not_true, Fin.isValue, Nat.reduceLeDiff, List.take_nil, List.drop_nil, mm_i1, mm_i2, mm_i3, mm_i4, mm_i5, mm_i6, mm_i7, mm_i16, mm_i17, mm_i18, mm_i19, mm_i20, mm_i21, mm_i22, mm_i23, mm_l3, mm_l4, mm_l5, mm_l6, mm_l7, mm_l18, mm_l19, mm_l20, mm_l21, mm_l22, kdX3_back, ct_X3_back, flX3, sp_X3_walkOf, sp_X2_stepBack, sp_X3_countedMove]
    refine ⟨h1, fun w ca ew hw => ?_, fun h => hx _ ⟨rfl, ok1.n h⟩⟩
    have ew2 : wk a = w := ew.symm
    have hk := hw.k
    have hl := isK_le hk
    have t1 := ha.1.1
    obtain ⟨hv, hD⟩ := ha.2.1 w hw
    have v1 := hv.1
    refine ⟨wk_is hk M d, hk, ha.1, hv, h3, fun M' r h => ?_⟩
    obtain ⟨f1, f2, f3, f4⟩ := h
    by_cases h0 : M w 2 = 0
    · obtain ⟨e1, e2⟩ := f3 h0
      subst e1
      rw [e2]
      exact ⟨hw, ⟨by omega, by omega⟩, ha.L, fun _ => ha, fun M2 h => hq M2 _ ⟨h.1, ⟨by omega, by omega⟩, by unfold C_back; rw [ew2]; exact ok1.y ca (no9.n (by omega) (by rw [h.2, losI_n (by omega)]))⟩⟩
    · obtain ⟨f5, f6, f7, f8⟩ := f4 (by omega)
      unfold stO at f5
      have hD' : wD M' w := by
        rcases h3 with h3 | h3
        · rw [(f8 h3).2]
          intro x y hx hy e
          simp [mm_up] at hx hy e
          exact hD x y (by omega) (by omega) e
        · exact tak_wD (M := mm_up M w 3 (cor M w 1)) (hD.to2 (by simp [mm_up]) (by rw [mm_up_o _ (by omega)])) (f7 h3).2
      obtain ⟨g1, g2, g3⟩ := ha.Lw hw (f1.mono (by simp)) f2 hD'
      have hI : InI r := ⟨by omega, by omega⟩
      have hR : r = M (w + 1) (if f = 0 then (M w 2 - 1).toNat else 0) ∧ bckR M M' w f := by
        rcases h3 with h3 | h3
        · obtain ⟨z1, z2⟩ := f8 h3
          refine ⟨by rw [if_pos h3]; exact z1, f1, f6, by rw [if_pos h3, z2, mm_up_ob2 (by omega)], fun x hx => by rw [if_pos h3, z2, mm_up_o _ (by omega)]⟩
        · obtain ⟨z1, z2⟩ := f7 h3
          rcases z2 with ⟨y0, y1, y2, y3⟩ | y0
          · refine ⟨by rw [if_neg (by omega)]; exact z1, f1, f6, by rw [if_neg (by omega), y2]; simp [mm_up], fun x hx => ?_⟩
            have := (y3 x (by simpa [mm_up] using hx)).2 (by omega)
            rw [mm_up_o _ (show w + 1 ≠ w by omega)] at this
            rw [if_neg (by omega)]
            exact this
          · exact absurd ⟨by omega, by simp [mm_up]; omega⟩ y0.1
      exact ⟨hw, hI, g1, fun h => by omega, fun M2 h => hq M2 _ ⟨cP.of g2 g3 h.1, hI, by unfold C_back; rw [ew2]; exact ok1.y ca (no9.y (by omega) ⟨hR.1, M', hR.2, SE.eq (by rw [h.2, losI_y (by omega)])⟩)⟩⟩
  · exact h.elim
theorem me_X3_back {l : Launch} (hl : l.stackTraces = false) : mm_Met l yX3_back cX3_back 4 (some .int) [] 11 206 1 sp_X3_back := mm_mt hl rn_X3_back ⟨plX3, rfl⟩ kkX3_back rfl ⟨Nat.le_of_ble_eq_true rfl, Nat.le_of_ble_eq_true rfl⟩ flkX3 (fun _ h => nomatch h) (⟨mm_pe (me_X3_walkOf hl) mwX3_walkOf (mm_t2 209 rfl rfl) (Nat.le_of_ble_eq_true rfl) (Nat.le_of_ble_eq_true rfl), mm_pe (me_X2_stepBack hl) mwX2_stepBack (mm_t3 235 rfl rfl) (Nat.le_of_ble_eq_true rfl) (Nat.le_of_ble_eq_true rfl), mm_pe (me_X3_countedMove hl) mwX3_countedMove (mm_t3 224 rfl rfl) (Nat.le_of_ble_eq_true rfl) (Nat.le_of_ble_eq_true rfl), trivial⟩) (mm_xe0 _) n9X3
def sp_X3_on : mm_S := fun av M d Q => match av with
  | [.inr (.inr (.inl o)), .inl a, .inl f] =>  o = 1 ∧ wA M ∧ InI a ∧ (f = 0 ∨ f = 1) ∧ (∀ M' r, cP M M' ∧ InI r ∧ C_on a f M M' 0 r → Q (.inl (some (mm_I r))) M' d) ∧ (∀ k, k = 0 ∧ C_on a f M M 1 0 → Q (.inr k) M d)
  | _ => False
def ct_X3_on : List (Nat × mm_Ca) := [(145, (0, 2, 10, sp_X3_walkOf, 1)), (149, (0, 1, 12, sp_X2_size, 0)), (169, (0, 3, 12, sp_X2_goOn, 0)), (172, (0, 3, 10, sp_X3_countedGrowth, 0))]
abbrev rr_X3_on (Q : mm_Q) := mm_run (mm_look flX3) (mm_look ct_X3_on) mm_x0 (mm_look ([] : List (Nat × Int))) (fun _ => none) 1 1 (fun _ _ => none) Q kdX3_on
set_option maxRecDepth 20000 in
theorem rn_X3_on : mm_RN flX3 ct_X3_on mm_x0 [] 1 1 4 kdX3_on sp_X3_on := by
  intro av M d Q h
  unfold sp_X3_on at h
  split at h
  · rename_i o a f
    obtain ⟨rfl, ha, h1, h3, hq, hx⟩ := h
    refine ⟨Nat.le_of_ble_eq_true rfl, mm_run_at (stop := []) (S := mm_F0) kkX3_on 80 ?_ mm_F0h⟩
    simp only [mm_wp, mm_op, mm_nxt, mm_jmp, mm_at, mm_in, mm_nth, mm_set, mm_ok, mm_isL, mm_ret, mm_isRet, mm_bool, mm_call, mm_push, mm_rv, mm_cats, mm_cat, mm_look, mm_ft, mm_fv, mm_pf, mm_thr, mm_ent, mm_pad, mm_fl, beq_self_eq_true, cond_true, cond_false, Nat.reduceBEq, Nat.reduceEqDiff, List.drop_succ_cons, List.drop_zero, List.take_succ_cons, List.take_zero, List.reverse_cons, List.reverse_nil, List.nil_append, List.cons_append, List.length_cons, List.length_nil, Nat.reduceAdd, Nat.reduceSub, Nat.reduceLeDiff, Bool.not_false, Bool.and_true, Bool.true_and, Nat.zero_add, true_and, and_true, Nat.le_refl, true_or, or_true, reduceCtorEq, Nat.add_zero, Nat.reduceLT, Bool.and_self, Bool.not_true, Fin.isValue, Nat.reduceLeDiff, List.take_nil, List.drop_nil, mm_i1, mm_i2, mm_i3, mm_i4, mm_i5, mm_i6, mm_i7, mm_i16, mm_i17, mm_i18, mm_i19, mm_i20, mm_i21, mm_i22, mm_i23, mm_l3, mm_l4, mm_l5, mm_l6, mm_l7, mm_l18, mm_l19, mm_l20, mm_l21, mm_l22, kdX3_on, ct_X3_on, flX3, sp_X3_walkOf, sp_X2_size, sp_X2_goOn, sp_X3_countedGrowth]
    refine ⟨h1, fun w ca ew hw => ?_, fun h => hx _ ⟨rfl, ok1.n h⟩⟩
    have ew2 : wk a = w := ew.symm
    have hk := hw.k
    have hs := wk_is hk M d
    obtain ⟨hv, hD⟩ := ha.2.1 w hw
    have v1 := hv.1
    refine ⟨hs, hk, hs, hk, ha.1, hv, hD, ⟨by omega, by omega⟩, h3, fun M' r h => ?_⟩
    obtain ⟨f1, f2, f3, f4, f5, f6⟩ := h
    obtain ⟨g1, g2, g3⟩ := ha.Lw hw (f1.mono (by simp)) f2 f3
    have hI : InI (r : Int) := ⟨by omega, by omega⟩
    exact ⟨hw, hI, g1, fun h => (ha.Le hw (f1.mono (by simp)) f2 f3 (by omega)).1, fun M2 h => hq M2 _ ⟨cP.of g2 g3 h.1, hI, by unfold C_on; rw [ew2]; exact ok1.y ca ⟨M', r, f6, rfl, SE.eq h.2⟩⟩⟩
  · exact h.elim
theorem me_X3_on {l : Launch} (hl : l.stackTraces = false) : mm_Met l yX3_on cX3_on 4 (some .int) [] 10 196 1 sp_X3_on := mm_mt hl rn_X3_on ⟨plX3, rfl⟩ kkX3_on rfl ⟨Nat.le_of_ble_eq_true rfl, Nat.le_of_ble_eq_true rfl⟩ flkX3 (fun _ h => nomatch h) (⟨mm_pe (me_X3_walkOf hl) mwX3_walkOf (mm_t2 209 rfl rfl) (Nat.le_of_ble_eq_true rfl) (Nat.le_of_ble_eq_true rfl), mm_pe (me_X2_size hl) mwX2_size (mm_t3 40 rfl rfl) (Nat.le_of_ble_eq_true rfl) (Nat.le_of_ble_eq_true rfl), mm_pe (me_X2_goOn hl) mwX2_goOn (mm_t4 8 rfl rfl) (Nat.le_of_ble_eq_true rfl) (Nat.le_of_ble_eq_true rfl), mm_pe (me_X3_countedGrowth hl) mwX3_countedGrowth (mm_t4 9 rfl rfl) (Nat.le_of_ble_eq_true rfl) (Nat.le_of_ble_eq_true rfl), trivial⟩) (mm_xe0 _) n9X3
def sp_X3_complete : mm_S := fun av M d Q => match av with
  | [.inr (.inr (.inl o)), .inl a, .inl f] =>  o = 1 ∧ wA M ∧ InI a ∧ (f = 0 ∨ f = 1) ∧ (∀ M' r, cP M M' ∧ InI r ∧ C_complete a f M M' 0 r → Q (.inl (some (mm_I r))) M' d) ∧ (∀ k, k = 0 ∧ C_complete a f M M 1 0 → Q (.inr k) M d)
  | _ => False
def ct_X3_complete : List (Nat × mm_Ca) := [(145, (0, 2, 10, sp_X3_walkOf, 1)), (117, (0, 1, 11, sp_X1_allStreets, 0)), (175, (0, 1, 12, sp_X2_firstCorner, 0)), (135, (0, 3, 11, sp_X1_isStartOf, 0)), (44, (0, 2, 10, sp_X3_counted, 0)), (178, (0, 2, 12, sp_X2_fillUp, 0)), (172, (0, 3, 10, sp_X3_countedGrowth, 0))]
abbrev rr_X3_complete (Q : mm_Q) := mm_run (mm_look flX3) (mm_look ct_X3_complete) mm_x0 (mm_look ([] : List (Nat × Int))) (fun _ => none) 1 1 (fun _ _ => none) Q kdX3_complete
set_option maxRecDepth 20000 in
theorem rn_X3_complete : mm_RN flX3 ct_X3_complete mm_x0 [] 1 1 4 kdX3_complete sp_X3_complete := by
  intro av M d Q h
  unfold sp_X3_complete at h
  split at h
  · rename_i o a f
    obtain ⟨rfl, ha, h1, h3, hq, hx⟩ := h
    refine ⟨Nat.le_of_ble_eq_true rfl, mm_run_at (stop := []) (S := mm_F0) kkX3_complete 80 ?_ mm_F0h⟩
    simp only [mm_wp, mm_op, mm_nxt, mm_jmp, mm_at, mm_in, mm_nth, mm_set, mm_ok, mm_isL, mm_ret, mm_isRet, mm_bool, mm_call, mm_push, mm_rv, mm_cats, mm_cat, mm_look, mm_ft, mm_fv, mm_pf, mm_thr, mm_ent, mm_pad, mm_fl, beq_self_eq_true, cond_true, cond_false, Nat.reduceBEq, Nat.reduceEqDiff, List.drop_succ_cons, List.drop_zero, List.take_succ_cons, List.take_zero, List.reverse_cons, List.reverse_nil, List.nil_append, List.cons_append, List.length_cons, List.length_nil, Nat.reduceAdd, Nat.reduceSub, Nat.reduceLeDiff, Bool.not_false, Bool.and_true, Bool.true_and, Nat.zero_add, true_and, and_true, Nat.le_refl, true_or, or_true, reduceCtorEq, Nat.add_zero, Nat.reduceLT, Bool.and_self, Bool.not_true, Fin.isValue, Nat.reduceLeDiff, List.take_nil, List.drop_nil, mm_i1, mm_i2, mm_i3, mm_i4, mm_i5, mm_i6, mm_i7, mm_i16, mm_i17, mm_i18, mm_i19, mm_i20, mm_i21, mm_i22, mm_i23, mm_l3, mm_l4, mm_l5, mm_l6, mm_l7, mm_l18, mm_l19, mm_l20, mm_l21, mm_l22, kdX3_complete, ct_X3_complete, flX3, sp_X3_walkOf, sp_X1_allStreets, sp_X2_firstCorner, sp_X1_isStartOf, sp_X3_counted, sp_X2_fillUp, sp_X3_countedGrowth]
    refine ⟨h1, fun w ca ew hw => ?_, fun h => hx _ ⟨rfl, ok1.n h⟩⟩
    have ew2 : wk a = w := ew.symm
    have hk := hw.k
    obtain ⟨hv, hD⟩ := ha.2.1 w hw
    have hn9 : InI (-9 : Int) := ⟨by omega, by omega⟩
    refine ⟨ha.1, fun r hr => ⟨wk_is hk M d, hk, ha.1, hr.2, hv.2.1, fun M1 r1 h1 => ?_⟩⟩
    have hP := ha.s h1.1
    have hv' := wV5 hv h1.1 hk
    have hD' := wD5 hD h1.1 hk
    have hST : (STV M (al M) (M w 3) → r1 = 1) ∧ (¬ STV M (al M) (M w 3) → r1 = 0) := by have := h1.2; rw [hr.1] at this; exact this
    refine ⟨inI2 h1.2, fun hy => ⟨wk_is hk M1 d, hk, hP.1.1, hv', hD', h3, fun M' r h => ?_⟩, fun hn => ⟨by omega, hP.1, hn9, fun M2 h => hq M2 _ ⟨hP.tr h.1, hn9, by unfold C_complete; rw [ew2]; exact ok1.y ca (no9.s (inI_n hST (by omega)) (.scr (h1.1.mono (by simp))) h.2)⟩⟩⟩
    obtain ⟨f1, f2, f3, f4, f5⟩ := h
    obtain ⟨g1, g2, g3⟩ := hP.1.Lw hw (f1.mono (by simp)) f2 f3
    have y1 := f2.1
    have y2 := hv'.1
    have hI : InI (r : Int) := ⟨by omega, by omega⟩
    exact ⟨hw, hI, g1, fun h => (hP.1.Le hw (f1.mono (by simp)) f2 f3 (by omega)).1, fun M2 h => hq M2 _ ⟨hP.tr (cP.of g2 g3 h.1), hI, by unfold C_complete; rw [ew2]; exact ok1.y ca (no9.y (inI_y hST (by omega)) ⟨M1, M', r, h1.1, f5, f1, rfl, SE.eq h.2⟩)⟩⟩
  · exact h.elim
theorem me_X3_complete {l : Launch} (hl : l.stackTraces = false) : mm_Met l yX3_complete cX3_complete 4 (some .int) [] 11 219 1 sp_X3_complete := mm_mt hl rn_X3_complete ⟨plX3, rfl⟩ kkX3_complete rfl ⟨Nat.le_of_ble_eq_true rfl, Nat.le_of_ble_eq_true rfl⟩ flkX3 (fun _ h => nomatch h) (⟨mm_pe (me_X3_walkOf hl) mwX3_walkOf (mm_t2 209 rfl rfl) (Nat.le_of_ble_eq_true rfl) (Nat.le_of_ble_eq_true rfl), mm_pe (me_X1_allStreets hl) mwX1_allStreets (mm_t1 220 rfl rfl) (Nat.le_of_ble_eq_true rfl) (Nat.le_of_ble_eq_true rfl), mm_pe (me_X2_firstCorner hl) mwX2_firstCorner (mm_t3 41 rfl rfl) (Nat.le_of_ble_eq_true rfl) (Nat.le_of_ble_eq_true rfl), mm_pe (me_X1_isStartOf hl) mwX1_isStartOf (mm_t2 199 rfl rfl) (Nat.le_of_ble_eq_true rfl) (Nat.le_of_ble_eq_true rfl), mm_pe (me_X3_counted hl) mwX3_counted (mm_t1 155 rfl rfl) (Nat.le_of_ble_eq_true rfl) (Nat.le_of_ble_eq_true rfl), mm_pe (me_X2_fillUp hl) mwX2_fillUp (mm_t2 116 rfl rfl) (Nat.le_of_ble_eq_true rfl) (Nat.le_of_ble_eq_true rfl), mm_pe (me_X3_countedGrowth hl) mwX3_countedGrowth (mm_t4 9 rfl rfl) (Nat.le_of_ble_eq_true rfl) (Nat.le_of_ble_eq_true rfl), trivial⟩) (mm_xe0 _) n9X3
def sp_X3_splice : mm_S := fun av M d Q => match av with
  | [.inr (.inr (.inl o)), .inl a, .inl b, .inl c] =>  o = 1 ∧ wA M ∧ InI a ∧ InI b ∧ InI c ∧ (∀ M' r, cP M M' ∧ InI r ∧ C_splice a b c M M' 0 r → Q (.inl (some (mm_I r))) M' d) ∧ (∀ k, k = 0 ∧ C_splice a b c M M 1 0 → Q (.inr k) M d)
  | _ => False
def ct_X3_splice : List (Nat × mm_Ca) := [(145, (0, 2, 10, sp_X3_walkOf, 1)), (149, (0, 1, 12, sp_X2_size, 0)), (181, (1, 2, 0, sp_X3_checkIndex, 1)), (184, (0, 2, 12, sp_X2_canTakeIn, 0)), (175, (0, 1, 12, sp_X2_firstCorner, 0)), (188, (0, 2, 12, sp_X2_cornerOf, 0)), (44, (0, 2, 10, sp_X3_counted, 0)), (191, (0, 3, 12, sp_X2_takeIn, 0)), (153, (0, 2, 13, sp_X0_loseOn, 0)), (161, (0, 3, 10, sp_X3_countedMove, 0))]
abbrev rr_X3_splice (Q : mm_Q) := mm_run (mm_look flX3) (mm_look ct_X3_splice) mm_x0 (mm_look ([] : List (Nat × Int))) (fun _ => none) 1 3 (fun _ _ => none) Q kdX3_splice
set_option maxRecDepth 20000 in
theorem rn_X3_splice : mm_RN flX3 ct_X3_splice mm_x0 [] 1 3 6 kdX3_splice sp_X3_splice := by
  intro av M d Q h
  unfold sp_X3_splice at h
  split at h
  · rename_i o a b c
    obtain ⟨rfl, ha, h1, h2, h3, hq, hx⟩ := h
    refine ⟨Nat.le_of_ble_eq_true rfl, mm_run_at (stop := []) (S := mm_F0) kkX3_splice 80 ?_ mm_F0h⟩
    simp only [mm_wp, mm_op, mm_nxt, mm_jmp, mm_at, mm_in, mm_nth, mm_set, mm_ok, mm_isL, mm_ret, mm_isRet, mm_bool, mm_call, mm_push, mm_rv, mm_cats, mm_cat, mm_look, mm_ft, mm_fv, mm_pf, mm_thr, mm_ent, mm_pad, mm_fl, beq_self_eq_true, cond_true, cond_false, Nat.reduceBEq, Nat.reduceEqDiff, List.drop_succ_cons, List.drop_zero, List.take_succ_cons, List.take_zero, List.reverse_cons, List.reverse_nil, List.nil_append, List.cons_append, List.length_cons, List.length_nil, Nat.reduceAdd, Nat.reduceSub, Nat.reduceLeDiff, Bool.not_false, Bool.and_true, Bool.true_and, Nat.zero_add, true_and, and_true, Nat.le_refl, true_or, or_true, reduceCtorEq, Nat.add_zero, Nat.reduceLT, Bool.and_self, Bool.not_true, Fin.isValue, Nat.reduceLeDiff, List.take_nil, List.drop_nil, mm_i1, mm_i2, mm_i3, mm_i4, mm_i5, mm_i6, mm_i7, mm_i16, mm_i17, mm_i18, mm_i19, mm_i20, mm_i21, mm_i22, mm_i23, mm_l3, mm_l4, mm_l5, mm_l6, mm_l7, mm_l18, mm_l19, mm_l20, mm_l21, mm_l22, kdX3_splice, ct_X3_splice, flX3, sp_X3_walkOf, sp_X2_size, sp_X3_checkIndex, sp_X2_canTakeIn, sp_X2_firstCorner, sp_X2_cornerOf, sp_X3_counted, sp_X2_takeIn, sp_X0_loseOn, sp_X3_countedMove]
    refine ⟨h1, fun w ca ew hw => ⟨h2, fun v cb ev hv => ?_, fun h => hx _ ⟨rfl, ok1.n (fun h2 => h h2.2.1)⟩⟩, fun h => hx _ ⟨rfl, ok1.n (fun h2 => h h2.1)⟩⟩
    have ew2 : wk a = w := ew.symm
    have ev2 : wk b = v := ev.symm
    have hn9 : InI (-9 : Int) := ⟨by omega, by omega⟩
    have hkw := hw.k
    have hkv := hv.k
    have sw := fun M => wk_is hkw M d
    have sv := fun M => wk_is hkv M d
    obtain ⟨vw, dw⟩ := ha.2.1 w hw
    obtain ⟨vv, dv⟩ := ha.2.1 v hv
    have w1 := vw.1
    have v1 := vv.1
    have v2 := vv.2.1
    have hno : (0 ≤ c ∧ c ≤ M w 2) → ¬ (rdR M w v ∧ M v 3 = cor M w c) → (-128 ≤ (-9 : Int) ∧ (-9 : Int) < 128) ∧ wA M ∧ InI (-9 : Int) ∧ ∀ M', (cP M M' ∧ M' = cnF M (-9)) → Q (.inl (some (mm_I (-9)))) M' d := fun cc hn => ⟨by omega, ha, hn9, fun M2 h => hq M2 _ ⟨h.1, hn9, by unfold C_splice; rw [ew2, ev2]; exact ok1.y ⟨ca, cb, cc⟩ (no9.n hn h.2)⟩⟩
    refine ⟨sw M, hkw, h3, ⟨by omega, by omega⟩, fun cc => ⟨sw M, hkw, hkv, ha.1, vw, vv, fun r hr => ⟨by rcases hr.1 with h | h <;> subst h <;> exact ⟨by omega, by omega⟩, fun h0 => hno cc (fun h => by have := hr.2.mpr h.1; omega), fun h0 => ?_⟩⟩, fun h => hx _ ⟨rfl, ok1.n (fun h2 => h (by have := h2.2.2; unfold onW at this; rw [ew2] at this; exact this))⟩⟩
    have hrd := hr.2.mp (by omega)
    obtain ⟨q1, q2, q3, q4⟩ := id hrd
    refine ⟨sv M, hkv, sw M, hkw, ha.1, vw, h3, fun r2 hr2 => ⟨⟨by omega, by omega⟩, ⟨by omega, by omega⟩, fun h4 => ⟨sw M, hkw, hkv, q1, ha.1, vw, vv, dw, dv, q4, cc, fun M' h5 => ?_⟩, fun h4 => hno cc (fun h => h4 (by rw [hr2.1]; exact h.2))⟩⟩
    obtain ⟨f1, f2, f3, f4, f5, f6⟩ := h5
    obtain ⟨g1, g2, g3⟩ := ha.two hw hv (f1.mono (by simp)) ⟨f2, f3⟩ ⟨f4, wD_0 f5⟩
    refine ⟨g1.2.2.1, hkv, fun M2 h6 => ?_⟩
    obtain ⟨k1, k2, k3⟩ := g1.one h6
    have x1 := (k1.2.1 w hw).1.1
    have hI : InI (M2 w 2) := ⟨by omega, by omega⟩
    have eM2 := losM.of h6
    have ew3 : M2 w 2 = M' w 2 := by rw [eM2, losM_o (by have := isK_le hkw; omega)]
    exact ⟨sw M2, hkw, hw, hI, k1, fun h => by omega, fun M3 h => hq M3 _ ⟨cP.of g2 g3 (cP.of k2 k3 h.1), hI, by unfold C_splice; rw [ew2, ev2]; exact ok1.y ⟨ca, cb, cc⟩ (no9.y ⟨hrd, by rw [← hr2.1]; exact h4⟩ ⟨by rw [ew3]; exact f6.1, M', f6, f1, SE.eq (by rw [h.2, losI_y (by omega), eM2])⟩)⟩⟩
  · exact h.elim
theorem me_X3_splice {l : Launch} (hl : l.stackTraces = false) : mm_Met l yX3_splice cX3_splice 6 (some .int) [] 11 205 3 sp_X3_splice := mm_mt hl rn_X3_splice ⟨plX3, rfl⟩ kkX3_splice rfl ⟨Nat.le_of_ble_eq_true rfl, Nat.le_of_ble_eq_true rfl⟩ flkX3 (fun _ h => nomatch h) (⟨mm_pe (me_X3_walkOf hl) mwX3_walkOf (mm_t2 209 rfl rfl) (Nat.le_of_ble_eq_true rfl) (Nat.le_of_ble_eq_true rfl), mm_pe (me_X2_size hl) mwX2_size (mm_t3 40 rfl rfl) (Nat.le_of_ble_eq_true rfl) (Nat.le_of_ble_eq_true rfl), mm_pe (me_X3_checkIndex hl) mwX3_checkIndex (mm_t4 27 rfl rfl) (Nat.le_of_ble_eq_true rfl) (Nat.le_of_ble_eq_true rfl), mm_pe (me_X2_canTakeIn hl) mwX2_canTakeIn (mm_t4 31 rfl rfl) (Nat.le_of_ble_eq_true rfl) (Nat.le_of_ble_eq_true rfl), mm_pe (me_X2_firstCorner hl) mwX2_firstCorner (mm_t3 41 rfl rfl) (Nat.le_of_ble_eq_true rfl) (Nat.le_of_ble_eq_true rfl), mm_pe (me_X2_cornerOf hl) mwX2_cornerOf (mm_t4 35 rfl rfl) (Nat.le_of_ble_eq_true rfl) (Nat.le_of_ble_eq_true rfl), mm_pe (me_X3_counted hl) mwX3_counted (mm_t1 155 rfl rfl) (Nat.le_of_ble_eq_true rfl) (Nat.le_of_ble_eq_true rfl), mm_pe (me_X2_takeIn hl) mwX2_takeIn (mm_t4 36 rfl rfl) (Nat.le_of_ble_eq_true rfl) (Nat.le_of_ble_eq_true rfl), mm_pe (me_X0_loseOn hl) mwX0_loseOn (mm_t3 200 rfl rfl) (Nat.le_of_ble_eq_true rfl) (Nat.le_of_ble_eq_true rfl), mm_pe (me_X3_countedMove hl) mwX3_countedMove (mm_t3 224 rfl rfl) (Nat.le_of_ble_eq_true rfl) (Nat.le_of_ble_eq_true rfl), trivial⟩) (mm_xe0 _) n9X3
def sp_X3_turnRound : mm_S := fun av M d Q => match av with
  | [.inr (.inr (.inl o)), .inl a] =>  o = 1 ∧ wA M ∧ InI a ∧ (∀ M' r, cP M M' ∧ InI r ∧ C_turnRound a M M' 0 r → Q (.inl (some (mm_I r))) M' d) ∧ (∀ k, k = 0 ∧ C_turnRound a M M 1 0 → Q (.inr k) M d)
  | _ => False
def ct_X3_turnRound : List (Nat × mm_Ca) := [(145, (0, 2, 10, sp_X3_walkOf, 1)), (92, (0, 1, 11, sp_X1_isOneWay, 0)), (44, (0, 2, 10, sp_X3_counted, 0)), (99, (0, 1, 12, sp_X2_turnOrder, 0)), (209, (0, 1, 12, sp_X2_turnSteps, 0)), (175, (0, 1, 12, sp_X2_firstCorner, 0))]
abbrev rr_X3_turnRound (Q : mm_Q) := mm_run (mm_look flX3) (mm_look ct_X3_turnRound) mm_x0 (mm_look ([] : List (Nat × Int))) (fun _ => none) 1 1 (fun _ _ => none) Q kdX3_turnRound
set_option maxRecDepth 20000 in
theorem rn_X3_turnRound : mm_RN flX3 ct_X3_turnRound mm_x0 [] 1 1 3 kdX3_turnRound sp_X3_turnRound := by
  intro av M d Q h
  unfold sp_X3_turnRound at h
  split at h
  · rename_i o a
    obtain ⟨rfl, ha, h1, hq, hx⟩ := h
    refine ⟨Nat.le_of_ble_eq_true rfl, mm_run_at (stop := []) (S := mm_F0) kkX3_turnRound 80 ?_ mm_F0h⟩
    simp only [mm_wp, mm_op, mm_nxt, mm_jmp, mm_at, mm_in, mm_nth, mm_set, mm_ok, mm_isL, mm_ret, mm_isRet, mm_bool, mm_call, mm_push, mm_rv, mm_cats, mm_cat, mm_look, mm_ft, mm_fv, mm_pf, mm_thr, mm_ent, mm_pad, mm_fl, beq_self_eq_true, cond_true, cond_false, Nat.reduceBEq, Nat.reduceEqDiff, List.drop_succ_cons, List.drop_zero, List.take_succ_cons, List.take_zero, List.reverse_cons, List.reverse_nil, List.nil_append, List.cons_append, List.length_cons, List.length_nil, Nat.reduceAdd, Nat.reduceSub, Nat.reduceLeDiff, Bool.not_false, Bool.and_true, Bool.true_and, Nat.zero_add, true_and, and_true, Nat.le_refl, true_or, or_true, reduceCtorEq, Nat.add_zero, Nat.reduceLT, Bool.and_self, Bool.not_true, Fin.isValue, Nat.reduceLeDiff, List.take_nil, List.drop_nil, mm_i1, mm_i2, mm_i3, mm_i4, mm_i5, mm_i6, mm_i7, mm_i16, mm_i17, mm_i18, mm_i19, mm_i20, mm_i21, mm_i22, mm_i23, mm_l3, mm_l4, mm_l5, mm_l6, mm_l7, mm_l18, mm_l19, mm_l20, mm_l21, mm_l22, kdX3_turnRound, ct_X3_turnRound, flX3, sp_X3_walkOf, sp_X1_isOneWay, sp_X3_counted, sp_X2_turnOrder, sp_X2_turnSteps, sp_X2_firstCorner]
    refine ⟨h1, fun w ca ew hw => ?_, fun h => hx _ ⟨rfl, ok1.n h⟩⟩
    have ew2 : wk a = w := ew.symm
    have hk := hw.k
    have hn9 : InI (-9 : Int) := ⟨by omega, by omega⟩
    obtain ⟨hv, hD⟩ := ha.2.1 w hw
    have t3 := ha.1.2.2.1
    have sw := fun M => wk_is hk M d
    refine ⟨ha.1, ⟨by omega, by omega⟩, fun h0 => ⟨sw M, hk, ha.1, hv, hD, fun M1 f => ?_⟩, fun h0 => ⟨by omega, ha, hn9, fun M2 h => hq M2 _ ⟨h.1, hn9, by unfold C_turnRound; rw [ew2]; exact ok1.y ca (no9.n (by omega) h.2)⟩⟩⟩
    have hP := ha.Le hw (f.1.mono (by simp)) f.2.1 f.2.2.1 (by rw [f.2.2.2.1]; exact Int.le_refl _)
    refine ⟨sw M1, hk, hP.1.1, f.2.1, f.2.2.1, fun M2 g => ?_⟩
    have hP2 := hP.1.Le hw (g.1.mono (by simp)) g.2.1 g.2.2.1 (by rw [g.2.2.2.1]; exact Int.le_refl _)
    have hI : InI (M2 w 3) := by have := g.2.1.2.1; exact ⟨by omega, by omega⟩
    exact ⟨sw M2, hk, hP2.1, hI, fun M3 h => hq M3 _ ⟨hP.tr (hP2.tr h.1), hI, by unfold C_turnRound; rw [ew2]; exact ok1.y ca (no9.y (by omega) ⟨M1, M2, f.2.2.2.2, f.1, g.2.2.2.2, g.1, rfl, SE.eq h.2⟩)⟩⟩
  · exact h.elim
theorem me_X3_turnRound {l : Launch} (hl : l.stackTraces = false) : mm_Met l yX3_turnRound cX3_turnRound 3 (some .int) [] 11 207 1 sp_X3_turnRound := mm_mt hl rn_X3_turnRound ⟨plX3, rfl⟩ kkX3_turnRound rfl ⟨Nat.le_of_ble_eq_true rfl, Nat.le_of_ble_eq_true rfl⟩ flkX3 (fun _ h => nomatch h) (⟨mm_pe (me_X3_walkOf hl) mwX3_walkOf (mm_t2 209 rfl rfl) (Nat.le_of_ble_eq_true rfl) (Nat.le_of_ble_eq_true rfl), mm_pe (me_X1_isOneWay hl) mwX1_isOneWay (mm_t1 171 rfl rfl) (Nat.le_of_ble_eq_true rfl) (Nat.le_of_ble_eq_true rfl), mm_pe (me_X3_counted hl) mwX3_counted (mm_t1 155 rfl rfl) (Nat.le_of_ble_eq_true rfl) (Nat.le_of_ble_eq_true rfl), mm_pe (me_X2_turnOrder hl) mwX2_turnOrder (mm_t1 183 rfl rfl) (Nat.le_of_ble_eq_true rfl) (Nat.le_of_ble_eq_true rfl), mm_pe (me_X2_turnSteps hl) mwX2_turnSteps (mm_t4 79 rfl rfl) (Nat.le_of_ble_eq_true rfl) (Nat.le_of_ble_eq_true rfl), mm_pe (me_X2_firstCorner hl) mwX2_firstCorner (mm_t3 41 rfl rfl) (Nat.le_of_ble_eq_true rfl) (Nat.le_of_ble_eq_true rfl), trivial⟩) (mm_xe0 _) n9X3
def sp_X3_rotate : mm_S := fun av M d Q => match av with
  | [.inr (.inr (.inl o)), .inl a, .inl b] =>  o = 1 ∧ wA M ∧ InI a ∧ InI b ∧ (∀ M' r, cP M M' ∧ InI r ∧ C_rotate a b M M' 0 r → Q (.inl (some (mm_I r))) M' d) ∧ (∀ k, (k = 0 ∧ C_rotate a b M M 1 0) ∨ (k = 1 ∧ C_rotate a b M M 2 0) → Q (.inr k) M d)
  | _ => False
def ct_X3_rotate : List (Nat × mm_Ca) := [(145, (0, 2, 10, sp_X3_walkOf, 1)), (59, (1, 3, 0, sp_X3_checkRange, 1)), (212, (0, 1, 12, sp_X2_isHome, 0)), (44, (0, 2, 10, sp_X3_counted, 0)), (202, (0, 2, 12, sp_X2_turnBy, 0)), (149, (0, 1, 12, sp_X2_size, 0)), (153, (0, 2, 13, sp_X0_loseOn, 0)), (175, (0, 1, 12, sp_X2_firstCorner, 0))]
abbrev rr_X3_rotate (Q : mm_Q) := mm_run (mm_look flX3) (mm_look ct_X3_rotate) mm_x0 (mm_look ([] : List (Nat × Int))) (fun _ => none) 1 2 (fun _ _ => none) Q kdX3_rotate
set_option maxRecDepth 20000 in
theorem rn_X3_rotate : mm_RN flX3 ct_X3_rotate mm_x0 [] 1 2 4 kdX3_rotate sp_X3_rotate := by
  intro av M d Q h
  unfold sp_X3_rotate at h
  split at h
  · rename_i o a b
    obtain ⟨rfl, ha, h1, h2, hq, hx⟩ := h
    have i0 : InI (0 : Int) := ⟨by omega, by omega⟩
    have i30 : InI (30 : Int) := ⟨by omega, by omega⟩
    refine ⟨Nat.le_of_ble_eq_true rfl, mm_run_at (stop := []) (S := mm_F0) kkX3_rotate 80 ?_ mm_F0h⟩
    simp only [mm_wp, mm_op, mm_nxt, mm_jmp, mm_at, mm_in, mm_nth, mm_set, mm_ok, mm_isL, mm_ret, mm_isRet, mm_bool, mm_call, mm_push, mm_rv, mm_cats, mm_cat, mm_look, mm_ft, mm_fv, mm_pf, mm_thr, mm_ent, mm_pad, mm_fl, beq_self_eq_true, cond_true, cond_false, Nat.reduceBEq, Nat.reduceEqDiff, List.drop_succ_cons, List.drop_zero, List.take_succ_cons, List.take_zero, List.reverse_cons, List.reverse_nil, List.nil_append, List.cons_append, List.length_cons, List.length_nil, Nat.reduceAdd, Nat.reduceSub, Nat.reduceLeDiff, Bool.not_false, Bool.and_true, Bool.true_and, Nat.zero_add, true_and, and_true, Nat.le_refl, true_or, or_true, reduceCtorEq, Nat.add_zero, Nat.reduceLT, Bool.and_self, Bool.not_true, Fin.isValue, Nat.reduceLeDiff, List.take_nil, List.drop_nil, mm_i1, mm_i2, mm_i3, mm_i4, mm_i5, mm_i6, mm_i7, mm_i16, mm_i17, mm_i18, mm_i19, mm_i20, mm_i21, mm_i22, mm_i23, mm_l3, mm_l4, mm_l5, mm_l6, mm_l7, mm_l18, mm_l19, mm_l20, mm_l21, mm_l22, kdX3_rotate, ct_X3_rotate, flX3, sp_X3_walkOf, sp_X3_checkRange, sp_X2_isHome, sp_X3_counted, sp_X2_turnBy, sp_X2_size, sp_X0_loseOn, sp_X2_firstCorner]
    refine ⟨h1, fun w ca ew hw => ⟨by omega, h2, i0, i30, fun cb => ?_, fun h => hx _ (Or.inr ⟨rfl, ok2.n2 ca h⟩)⟩, fun h => hx _ (Or.inl ⟨rfl, ok2.n1 h⟩)⟩
    have ew2 : wk a = w := ew.symm
    have hk := hw.k
    have hn9 : InI (-9 : Int) := ⟨by omega, by omega⟩
    obtain ⟨hv, hD⟩ := ha.2.1 w hw
    have sw := fun M => wk_is hk M d
    have v1 := hv.1
    refine ⟨sw M, hk, ha.1, hv, fun r hr => ⟨inI2 (P := cor M w (M w 2) = M w 3) hr, fun hy => ⟨sw M, hk, ha.1, hv, hD, by omega, fun M1 f => ?_⟩, fun hn => ⟨by omega, ha, hn9, fun M2 h => hq M2 _ ⟨h.1, hn9, by unfold C_rotate; rw [ew2]; exact ok2.y ca cb (no9.n (inI_n (P := hmP M w) hr (by omega)) h.2)⟩⟩⟩⟩
    have hP := ha.Le hw (f.1.mono (by simp)) f.2.1 f.2.2.1 (by rw [f.2.2.2.1]; exact Int.le_refl _)
    have hf2 := f.2.1
    have hI : InI (M1 w 3) := by have := hf2.2.1; exact ⟨by omega, by omega⟩
    have e1 := f.2.2.2.1
    have hy2 : hmP M w := inI_y (P := hmP M w) hr (by omega)
    have hF : ¬ (0 < b ∧ 0 < M w 2) → mm_is M1 d w 12 ∧ isK w ∧ wA M1 ∧ InI (M1 w 3) ∧ ∀ M', (cP M1 M' ∧ M' = cnF M1 (M1 w 3)) → Q (.inl (some (mm_I (M1 w 3)))) M' d := fun hn => ⟨sw M1, hk, hP.1, hI, fun M3 h => hq M3 _ ⟨hP.tr h.1, hI, by unfold C_rotate; rw [ew2]; exact ok2.y ca cb (no9.y hy2 ⟨M1, f.2.2.2.2.2, f.1, rfl, SE.eq (by rw [h.2, losI_n hn])⟩)⟩⟩
    refine ⟨h2, fun c1 => hF (by omega), fun c1 => ⟨sw M1, hk, ⟨by omega, by omega⟩, fun c2 => hF (by omega), fun c2 => ⟨hP.1.2.2.1, hk, fun M2 g => ?_⟩⟩⟩
    have hP2 := (hP.1.L (w := w)).los g
    have hI2 : InI (M2 w 3) := by have := (hP2.1.2.1 w hw).1.2.1; exact ⟨by omega, by omega⟩
    have eM2 := losM.of g
    have ew3 : M2 w 3 = M1 w 3 := by rw [eM2, losM_o (by have := isK_le hk; omega)]
    exact ⟨sw M2, hk, hP2.1, hI2, fun M3 h => hq M3 _ ⟨hP.tr (hP2.tr h.1), hI2, by unfold C_rotate; rw [ew2]; exact ok2.y ca cb (no9.y hy2 ⟨M1, f.2.2.2.2.2, f.1, ew3, SE.eq (by rw [h.2, losI_y ⟨by omega, by omega⟩, eM2])⟩)⟩⟩
  · exact h.elim
theorem me_X3_rotate {l : Launch} (hl : l.stackTraces = false) : mm_Met l yX3_rotate cX3_rotate 4 (some .int) [] 11 208 2 sp_X3_rotate := mm_mt hl rn_X3_rotate ⟨plX3, rfl⟩ kkX3_rotate rfl ⟨Nat.le_of_ble_eq_true rfl, Nat.le_of_ble_eq_true rfl⟩ flkX3 (fun _ h => nomatch h) (⟨mm_pe (me_X3_walkOf hl) mwX3_walkOf (mm_t2 209 rfl rfl) (Nat.le_of_ble_eq_true rfl) (Nat.le_of_ble_eq_true rfl), mm_pe (me_X3_checkRange hl) mwX3_checkRange (mm_t3 102 rfl rfl) (Nat.le_of_ble_eq_true rfl) (Nat.le_of_ble_eq_true rfl), mm_pe (me_X2_isHome hl) mwX2_isHome (mm_t2 143 rfl rfl) (Nat.le_of_ble_eq_true rfl) (Nat.le_of_ble_eq_true rfl), mm_pe (me_X3_counted hl) mwX3_counted (mm_t1 155 rfl rfl) (Nat.le_of_ble_eq_true rfl) (Nat.le_of_ble_eq_true rfl), mm_pe (me_X2_turnBy hl) mwX2_turnBy (mm_t4 56 rfl rfl) (Nat.le_of_ble_eq_true rfl) (Nat.le_of_ble_eq_true rfl), mm_pe (me_X2_size hl) mwX2_size (mm_t3 40 rfl rfl) (Nat.le_of_ble_eq_true rfl) (Nat.le_of_ble_eq_true rfl), mm_pe (me_X0_loseOn hl) mwX0_loseOn (mm_t3 200 rfl rfl) (Nat.le_of_ble_eq_true rfl) (Nat.le_of_ble_eq_true rfl), mm_pe (me_X2_firstCorner hl) mwX2_firstCorner (mm_t3 41 rfl rfl) (Nat.le_of_ble_eq_true rfl) (Nat.le_of_ble_eq_true rfl), trivial⟩) (mm_xe0 _) n9X3
def sp_X3_first : mm_S := fun av M d Q => match av with
  | [.inr (.inr (.inl o)), .inl a, .inl c, .inl f] =>  o = 1 ∧ wA M ∧ InI a ∧ InI c ∧ (f = 0 ∨ f = 1) ∧ (∀ M' r, cP M M' ∧ InI r ∧ C_first a c f M M' 0 r → Q (.inl (some (mm_I r))) M' d) ∧ (∀ k, k = 0 ∧ C_first a c f M M 1 0 → Q (.inr k) M d)
  | _ => False
def ct_X3_first : List (Nat × mm_Ca) := [(145, (0, 2, 10, sp_X3_walkOf, 1)), (36, (0, 2, 10, sp_X3_checkCorner, 1)), (117, (0, 1, 11, sp_X1_allStreets, 0)), (135, (0, 3, 11, sp_X1_isStartOf, 0)), (44, (0, 2, 10, sp_X3_counted, 0)), (149, (0, 1, 12, sp_X2_size, 0)), (150, (0, 2, 12, sp_X2_restart, 0)), (215, (0, 2, 12, sp_X2_fillInOrder, 0)), (153, (0, 2, 13, sp_X0_loseOn, 0))]
abbrev rr_X3_first (Q : mm_Q) := mm_run (mm_look flX3) (mm_look ct_X3_first) mm_x0 (mm_look ([] : List (Nat × Int))) (fun _ => none) 1 2 (fun _ _ => none) Q kdX3_first
set_option maxRecDepth 20000 in
theorem rn_X3_first : mm_RN flX3 ct_X3_first mm_x0 [] 1 2 6 kdX3_first sp_X3_first := by
  intro av M d Q h
  unfold sp_X3_first at h
  split at h
  · rename_i o a c f
    obtain ⟨rfl, ha, h1, h2, h3, hq, hx⟩ := h
    refine ⟨Nat.le_of_ble_eq_true rfl, mm_run_at (stop := []) (S := mm_F0) kkX3_first 80 ?_ mm_F0h⟩
    simp only [mm_wp, mm_op, mm_nxt, mm_jmp, mm_at, mm_in, mm_nth, mm_set, mm_ok, mm_isL, mm_ret, mm_isRet, mm_bool, mm_call, mm_push, mm_rv, mm_cats, mm_cat, mm_look, mm_ft, mm_fv, mm_pf, mm_thr, mm_ent, mm_pad, mm_fl, beq_self_eq_true, cond_true, cond_false, Nat.reduceBEq, Nat.reduceEqDiff, List.drop_succ_cons, List.drop_zero, List.take_succ_cons, List.take_zero, List.reverse_cons, List.reverse_nil, List.nil_append, List.cons_append, List.length_cons, List.length_nil, Nat.reduceAdd, Nat.reduceSub, Nat.reduceLeDiff, Bool.not_false, Bool.and_true, Bool.true_and, Nat.zero_add, true_and, and_true, Nat.le_refl, true_or, or_true, reduceCtorEq, Nat.add_zero, Nat.reduceLT, Bool.and_self, Bool.not_true, Fin.isValue, Nat.reduceLeDiff, List.take_nil, List.drop_nil, mm_i1, mm_i2, mm_i3, mm_i4, mm_i5, mm_i6, mm_i7, mm_i16, mm_i17, mm_i18, mm_i19, mm_i20, mm_i21, mm_i22, mm_i23, mm_l3, mm_l4, mm_l5, mm_l6, mm_l7, mm_l18, mm_l19, mm_l20, mm_l21, mm_l22, kdX3_first, ct_X3_first, flX3, sp_X3_walkOf, sp_X3_checkCorner, sp_X1_allStreets, sp_X1_isStartOf, sp_X3_counted, sp_X2_size, sp_X2_restart, sp_X2_fillInOrder, sp_X0_loseOn]
    refine ⟨h1, fun w ca ew hw => ⟨h2, fun cc => ?_, fun h => hx _ ⟨rfl, ok1.n (fun h2 => h h2.2)⟩⟩, fun h => hx _ ⟨rfl, ok1.n (fun h2 => h h2.1)⟩⟩
    have hk := hw.k
    have ew2 : wk a = w := ew.symm
    have hl := isK_le hk
    have hn9 : InI (-9 : Int) := ⟨by omega, by omega⟩
    have sw := fun M => wk_is hk M d
    refine ⟨ha.1, fun r hr => ⟨ha.1, hr.2, cc, fun M1 r1 h1 => ?_⟩⟩
    have hP := ha.s h1.1
    obtain ⟨hv, hD⟩ := hP.1.2.1 w hw
    have v1 := hv.1
    have hf : fr [w, w + 1, 5, 6] M1 (mm_up (mm_up M1 w 2 0) w 3 c) := (fr.rf.up (by simp)).up (by simp)
    have hv' : wV (mm_up (mm_up M1 w 2 0) w 3 c) w := ⟨by simp [mm_up], by simp [mm_up]; exact cc, fun j hj => by simp [mm_up] at hj; omega⟩
    have hD' : wD (mm_up (mm_up M1 w 2 0) w 3 c) w := wD_0 (by simp [mm_up])
    have ht' : tW (mm_up (mm_up M1 w 2 0) w 3 c) := tWK hP.1.1 hf hk
    have hI : InI (M1 w 2) := ⟨by omega, by omega⟩
    have hST : (STV M (al M) c → r1 = 1) ∧ (¬ STV M (al M) c → r1 = 0) := by have := h1.2; rw [hr.1] at this; exact this
    have em : M1 w 2 = M w 2 := by rw [h1.1 w (by simp; omega)]
    refine ⟨inI2 h1.2, fun hy => ⟨sw M1, hk, sw M1, hk, sw _, hk, ht', hv', hD', h3, fun M2 m g => ?_⟩, fun hn => ⟨by omega, hP.1, hn9, fun M2 h => hq M2 _ ⟨hP.tr h.1, hn9, by unfold C_first; rw [ew2]; exact ok1.y ⟨ca, cc⟩ (no9.s (inI_n hST (by omega)) (.scr (h1.1.mono (by simp))) h.2)⟩⟩⟩
    obtain ⟨g1, g2, g3, g4, g5⟩ := g
    have em2 : M2 w 2 = m := by rw [g4]; simp [mm_up]
    have hfin : ∀ M3 M4, M3 = losI (0 < M w 2 ∨ 0 < M2 w 2) M2 w → M4 = cnF M3 (M2 w 2) → C_first a c f M M4 0 (M2 w 2) := fun M3 M4 h1' h2' => by
      unfold C_first
      rw [ew2]
      refine ok1.y ⟨ca, cc⟩ (no9.y (inI_y hST (by omega)) ⟨M1, M2, M3, m, h1.1.mono (by simp), g5, g1, em2, fun o ho => ?_, ?_, SE.eq h2'⟩)
      · rw [h1', losI_o (by simpa using ho)]
      · rw [h1']
        exact losI_16 (by rw [g1 16 (by simp; omega), mm_up_o _ (by omega), mm_up_o _ (by omega), h1.1 16 (by simp)])
    have hf2 : fr [w, w + 1, 5, 6] M1 M2 := hf.tr g1
    obtain ⟨k1, k2, k3⟩ := hP.1.Lw hw hf2 g2 g3
    have w1 := g2.1
    have hl2 : (0 < M w 2 ∨ 0 < M2 w 2) → ∀ M', (M2 16 1 = w ∧ M' = mm_up M2 16 4 1) ∨ (M2 16 1 ≠ w ∧ M' = M2) → mm_is M' d w 12 ∧ isK w ∧ wA M' ∧ InI (M' w 2) ∧ ∀ M'', (cP M' M'' ∧ M'' = cnF M' (M' w 2)) → Q (.inl (some (mm_I (M' w 2)))) M'' d := fun hc M' h6 => by
      have hP2 := k1.los h6
      have hI2 : InI (M' w 2) := by have := (hP2.1.2.1 w hw).1.1; exact ⟨by omega, by omega⟩
      have eM := losM.of h6
      have ew3 : M' w 2 = M2 w 2 := by rw [eM, losM_o (by omega)]
      exact ⟨sw M', hk, hP2.1, hI2, fun M3 h => hq M3 _ ⟨hP.tr (cP.of k2 k3 (hP2.tr h.1)), hI2, by rw [ew3] at h ⊢; exact hfin M' M3 (by rw [losI_y hc]; exact eM) h.2⟩⟩
    refine ⟨hI, fun h0 => ⟨k1.2.2.1, hk, hl2 (by omega)⟩, fun h0 => ⟨sw M2, hk, ⟨by omega, by omega⟩, fun h9 => ?_, fun h9 => ⟨k1.2.2.1, hk, hl2 (by omega)⟩⟩⟩
    have hP2 := hP.1.Le hw hf2 g2 g3 (by omega)
    have hI2 : InI (M2 w 2) := ⟨by omega, by omega⟩
    exact ⟨sw M2, hk, hP2.1, hI2, fun M3 h => hq M3 _ ⟨hP.tr (hP2.tr h.1), hI2, hfin M2 M3 (by rw [losI_n (by omega)]) h.2⟩⟩
  · exact h.elim
theorem me_X3_first {l : Launch} (hl : l.stackTraces = false) : mm_Met l yX3_first cX3_first 6 (some .int) [] 12 238 2 sp_X3_first := mm_mt hl rn_X3_first ⟨plX3, rfl⟩ kkX3_first rfl ⟨Nat.le_of_ble_eq_true rfl, Nat.le_of_ble_eq_true rfl⟩ flkX3 (fun _ h => nomatch h) (⟨mm_pe (me_X3_walkOf hl) mwX3_walkOf (mm_t2 209 rfl rfl) (Nat.le_of_ble_eq_true rfl) (Nat.le_of_ble_eq_true rfl), mm_pe (me_X3_checkCorner hl) mwX3_checkCorner (mm_t3 80 rfl rfl) (Nat.le_of_ble_eq_true rfl) (Nat.le_of_ble_eq_true rfl), mm_pe (me_X1_allStreets hl) mwX1_allStreets (mm_t1 220 rfl rfl) (Nat.le_of_ble_eq_true rfl) (Nat.le_of_ble_eq_true rfl), mm_pe (me_X1_isStartOf hl) mwX1_isStartOf (mm_t2 199 rfl rfl) (Nat.le_of_ble_eq_true rfl) (Nat.le_of_ble_eq_true rfl), mm_pe (me_X3_counted hl) mwX3_counted (mm_t1 155 rfl rfl) (Nat.le_of_ble_eq_true rfl) (Nat.le_of_ble_eq_true rfl), mm_pe (me_X2_size hl) mwX2_size (mm_t3 40 rfl rfl) (Nat.le_of_ble_eq_true rfl) (Nat.le_of_ble_eq_true rfl), mm_pe (me_X2_restart hl) mwX2_restart (mm_t1 147 rfl rfl) (Nat.le_of_ble_eq_true rfl) (Nat.le_of_ble_eq_true rfl), mm_pe (me_X2_fillInOrder hl) mwX2_fillInOrder (mm_t4 98 rfl rfl) (Nat.le_of_ble_eq_true rfl) (Nat.le_of_ble_eq_true rfl), mm_pe (me_X0_loseOn hl) mwX0_loseOn (mm_t3 200 rfl rfl) (Nat.le_of_ble_eq_true rfl) (Nat.le_of_ble_eq_true rfl), trivial⟩) (mm_xe0 _) n9X3
def sp_X3_copy : mm_S := fun av M d Q => match av with
  | [.inr (.inr (.inl o)), .inl a, .inl b] =>  o = 1 ∧ wA M ∧ InI a ∧ InI b ∧ (∀ M' r, cP M M' ∧ InI r ∧ C_copy a b M M' 0 r → Q (.inl (some (mm_I r))) M' d) ∧ (∀ k, k = 0 ∧ C_copy a b M M 1 0 → Q (.inr k) M d)
  | _ => False
def ct_X3_copy : List (Nat × mm_Ca) := [(145, (0, 2, 10, sp_X3_walkOf, 1)), (44, (0, 2, 10, sp_X3_counted, 0)), (149, (0, 1, 12, sp_X2_size, 0)), (153, (0, 2, 13, sp_X0_loseOn, 0)), (221, (0, 2, 12, sp_X2_takeAllOf, 0))]
abbrev rr_X3_copy (Q : mm_Q) := mm_run (mm_look flX3) (mm_look ct_X3_copy) mm_x0 (mm_look ([] : List (Nat × Int))) (fun _ => none) 1 2 (fun _ _ => none) Q kdX3_copy
set_option maxRecDepth 20000 in
theorem rn_X3_copy : mm_RN flX3 ct_X3_copy mm_x0 [] 1 2 5 kdX3_copy sp_X3_copy := by
  intro av M d Q h
  unfold sp_X3_copy at h
  split at h
  · rename_i o a b
    obtain ⟨rfl, ha, h1, h2, hq, hx⟩ := h
    refine ⟨Nat.le_of_ble_eq_true rfl, mm_run_at (stop := []) (S := mm_F0) kkX3_copy 80 ?_ mm_F0h⟩
    simp only [mm_wp, mm_op, mm_nxt, mm_jmp, mm_at, mm_in, mm_nth, mm_set, mm_ok, mm_isL, mm_ret, mm_isRet, mm_bool, mm_call, mm_push, mm_rv, mm_cats, mm_cat, mm_look, mm_ft, mm_fv, mm_pf, mm_thr, mm_ent, mm_pad, mm_fl, beq_self_eq_true, cond_true, cond_false, Nat.reduceBEq, Nat.reduceEqDiff, List.drop_succ_cons, List.drop_zero, List.take_succ_cons, List.take_zero, List.reverse_cons, List.reverse_nil, List.nil_append, List.cons_append, List.length_cons, List.length_nil, Nat.reduceAdd, Nat.reduceSub, Nat.reduceLeDiff, Bool.not_false, Bool.and_true, Bool.true_and, Nat.zero_add, true_and, and_true, Nat.le_refl, true_or, or_true, reduceCtorEq, Nat.add_zero, Nat.reduceLT, Bool.and_self, Bool.not_true, Fin.isValue, Nat.reduceLeDiff, List.take_nil, List.drop_nil, mm_i1, mm_i2, mm_i3, mm_i4, mm_i5, mm_i6, mm_i7, mm_i16, mm_i17, mm_i18, mm_i19, mm_i20, mm_i21, mm_i22, mm_i23, mm_l3, mm_l4, mm_l5, mm_l6, mm_l7, mm_l18, mm_l19, mm_l20, mm_l21, mm_l22, kdX3_copy, ct_X3_copy, flX3, sp_X3_walkOf, sp_X3_counted, sp_X2_size, sp_X0_loseOn, sp_X2_takeAllOf]
    refine ⟨h1, fun v ca ev hv => ⟨h2, fun w cb ew hw => ?_, fun h => hx _ ⟨rfl, ok1.n (fun h2 => h h2.2)⟩⟩, fun h => hx _ ⟨rfl, ok1.n (fun h2 => h h2.1)⟩⟩
    have ew2 : wk b = w := ew.symm
    have ev2 : wk a = v := ev.symm
    have hkw := hw.k
    have hkv := hv.k
    have hn9 : InI (-9 : Int) := ⟨by omega, by omega⟩
    have sw := fun M => wk_is hkw M d
    have sv := fun M => wk_is hkv M d
    have x1 := (ha.2.1 w hw).1.1
    have x2 := (ha.2.1 v hv).1.1
    have tail : w ≠ v → ∀ M1, M1 = losI (0 < M v 2 ∨ 0 < M w 2) M w → cP M M1 → (∀ M', fr [w, w + 1, 5, 6] M1 M' → wV M' w → wD M' w → M' w 2 = M1 v 2 → cP M1 M') → mm_is M1 d w 12 ∧ isK w ∧ isK v ∧ w ≠ v ∧ tW M1 ∧ wV M1 v ∧ wD M1 v ∧ ∀ M', fr [w, w + 1] M1 M' ∧ wV M' w ∧ wD M' w ∧ M' w 2 = M1 v 2 ∧ M' w 3 = M1 v 3 ∧ (∀ j : Nat, j < M1 v 2 → M' (w + 1) j = M1 (v + 1) j) → mm_is M' d w 12 ∧ isK w ∧ wA M' ∧ InI (M' w 2) ∧ ∀ M2, (cP M' M2 ∧ M2 = cnF M' (M' w 2)) → Q (.inl (some (mm_I (M' w 2)))) M2 d := by
      intro hne M1 eM hP hc
      obtain ⟨y1, y2⟩ := hP.1.2.1 v hv
      refine ⟨sw M1, hkw, hkv, hne, hP.1.1, y1, y2, fun M' h => ?_⟩
      have hP2 := hc M' (h.1.mono (by simp)) h.2.1 h.2.2.1 h.2.2.2.1
      have hI2 : InI (M' w 2) := by have := (hP2.1.2.1 w hw).1.1; exact ⟨by omega, by omega⟩
      have lv := isK_le hkv
      exact ⟨sw M', hkw, hP2.1, hI2, fun M3 h9 => hq M3 _ ⟨hP.tr (hP2.tr h9.1), hI2, by unfold C_copy; rw [ew2, ev2]; exact ok1.y ⟨ca, cb⟩ (no9.y (Ne.symm hne) ⟨by rw [h.2.2.2.1, eM, losI_o (by omega)], M1, M', eM, h.2.2.2, h.1, SE.eq h9.2⟩)⟩⟩
    have los : w ≠ v → (0 < M v 2 ∨ 0 < M w 2) → ∀ M1, (M 16 1 = w ∧ M1 = mm_up M 16 4 1) ∨ (M 16 1 ≠ w ∧ M1 = M) → mm_is M1 d w 12 ∧ isK w ∧ isK v ∧ w ≠ v ∧ tW M1 ∧ wV M1 v ∧ wD M1 v ∧ ∀ M', fr [w, w + 1] M1 M' ∧ wV M' w ∧ wD M' w ∧ M' w 2 = M1 v 2 ∧ M' w 3 = M1 v 3 ∧ (∀ j : Nat, j < M1 v 2 → M' (w + 1) j = M1 (v + 1) j) → mm_is M' d w 12 ∧ isK w ∧ wA M' ∧ InI (M' w 2) ∧ ∀ M2, (cP M' M2 ∧ M2 = cnF M' (M' w 2)) → Q (.inl (some (mm_I (M' w 2)))) M2 d := by
      intro hne hc M1 h
      have hP := (ha.L (w := w)).los h
      refine tail hne M1 (by rw [losI_y hc]; exact losM.of h) hP (fun M' f1 f2 f3 _ => hP.1.lo hw ?_ f1 f2 f3)
      rcases h with ⟨h, rfl⟩ | ⟨h, rfl⟩
      · intro _
        simp [mm_up]
      · exact fun h9 => absurd h9 h
    refine ⟨Or.inr (wk_mm hkv d), Or.inr (wk_mm hkw d), fun hne => ⟨sv M, hkv, ⟨by omega, by omega⟩, fun h0 => ⟨ha.2.2.1, hkw, los (Ne.symm hne) (by omega)⟩, fun h0 => ⟨sw M, hkw, ⟨by omega, by omega⟩, fun h9 => tail (Ne.symm hne) M (by rw [losI_n (by omega)]) ha.rf (fun M' f1 f2 f3 f4 => ha.Le hw f1 f2 f3 (by omega)), fun h9 => ⟨ha.2.2.1, hkw, los (Ne.symm hne) (by omega)⟩⟩⟩, fun he => ⟨by omega, ha, hn9, fun M2 h => hq M2 _ ⟨h.1, hn9, by unfold C_copy; rw [ew2, ev2]; exact ok1.y ⟨ca, cb⟩ (no9.n (fun h3 => h3 (by omega)) h.2)⟩⟩⟩
  · exact h.elim
theorem me_X3_copy {l : Launch} (hl : l.stackTraces = false) : mm_Met l yX3_copy cX3_copy 5 (some .int) [] 8 146 2 sp_X3_copy := mm_mt hl rn_X3_copy ⟨plX3, rfl⟩ kkX3_copy rfl ⟨Nat.le_of_ble_eq_true rfl, Nat.le_of_ble_eq_true rfl⟩ flkX3 (fun _ h => nomatch h) (⟨mm_pe (me_X3_walkOf hl) mwX3_walkOf (mm_t2 209 rfl rfl) (Nat.le_of_ble_eq_true rfl) (Nat.le_of_ble_eq_true rfl), mm_pe (me_X3_counted hl) mwX3_counted (mm_t1 155 rfl rfl) (Nat.le_of_ble_eq_true rfl) (Nat.le_of_ble_eq_true rfl), mm_pe (me_X2_size hl) mwX2_size (mm_t3 40 rfl rfl) (Nat.le_of_ble_eq_true rfl) (Nat.le_of_ble_eq_true rfl), mm_pe (me_X0_loseOn hl) mwX0_loseOn (mm_t3 200 rfl rfl) (Nat.le_of_ble_eq_true rfl) (Nat.le_of_ble_eq_true rfl), mm_pe (me_X2_takeAllOf hl) mwX2_takeAllOf (mm_t4 113 rfl rfl) (Nat.le_of_ble_eq_true rfl) (Nat.le_of_ble_eq_true rfl), trivial⟩) (mm_xe0 _) n9X3
def sp_X3_join : mm_S := fun av M d Q => match av with
  | [.inr (.inr (.inl o)), .inl a, .inl b] =>  o = 1 ∧ wA M ∧ InI a ∧ InI b ∧ (∀ M' r, cP M M' ∧ InI r ∧ C_join a b M M' 0 r → Q (.inl (some (mm_I r))) M' d) ∧ (∀ k, k = 0 ∧ C_join a b M M 1 0 → Q (.inr k) M d)
  | _ => False
def ct_X3_join : List (Nat × mm_Ca) := [(145, (0, 2, 10, sp_X3_walkOf, 1)), (184, (0, 2, 12, sp_X2_canTakeIn, 0)), (195, (0, 2, 12, sp_X2_meetingPlace, 0)), (44, (0, 2, 10, sp_X3_counted, 0)), (188, (0, 2, 12, sp_X2_cornerOf, 0)), (199, (0, 2, 12, sp_X2_placeOfCorner, 0)), (202, (0, 2, 12, sp_X2_turnBy, 0)), (191, (0, 3, 12, sp_X2_takeIn, 0)), (153, (0, 2, 13, sp_X0_loseOn, 0)), (161, (0, 3, 10, sp_X3_countedMove, 0))]
abbrev rr_X3_join (Q : mm_Q) := mm_run (mm_look flX3) (mm_look ct_X3_join) mm_x0 (mm_look ([] : List (Nat × Int))) (fun _ => none) 1 2 (fun _ _ => none) Q kdX3_join
set_option maxRecDepth 20000 in
theorem rn_X3_join : mm_RN flX3 ct_X3_join mm_x0 [] 1 2 6 kdX3_join sp_X3_join := by
  intro av M d Q h
  unfold sp_X3_join at h
  split at h
  · rename_i o a b
    obtain ⟨rfl, ha, h1, h2, hq, hx⟩ := h
    refine ⟨Nat.le_of_ble_eq_true rfl, mm_run_at (stop := []) (S := mm_F0) kkX3_join 80 ?_ mm_F0h⟩
    simp only [mm_wp, mm_op, mm_nxt, mm_jmp, mm_at, mm_in, mm_nth, mm_set, mm_ok, mm_isL, mm_ret, mm_isRet, mm_bool, mm_call, mm_push, mm_rv, mm_cats, mm_cat, mm_look, mm_ft, mm_fv, mm_pf, mm_thr, mm_ent, mm_pad, mm_fl, beq_self_eq_true, cond_true, cond_false, Nat.reduceBEq, Nat.reduceEqDiff, List.drop_succ_cons, List.drop_zero, List.take_succ_cons, List.take_zero, List.reverse_cons, List.reverse_nil, List.nil_append, List.cons_append, List.length_cons, List.length_nil, Nat.reduceAdd, Nat.reduceSub, Nat.reduceLeDiff, Bool.not_false, Bool.and_true, Bool.true_and, Nat.zero_add, true_and, and_true, Nat.le_refl, true_or, or_true, reduceCtorEq, Nat.add_zero, Nat.reduceLT, Bool.and_self, Bool.not_true, Fin.isValue, Nat.reduceLeDiff, List.take_nil, List.drop_nil, mm_i1, mm_i2, mm_i3, mm_i4, mm_i5, mm_i6, mm_i7, mm_i16, mm_i17, mm_i18, mm_i19, mm_i20, mm_i21, mm_i22, mm_i23, mm_l3, mm_l4, mm_l5, mm_l6, mm_l7, mm_l18, mm_l19, mm_l20, mm_l21, mm_l22, kdX3_join, ct_X3_join, flX3, sp_X3_walkOf, sp_X2_canTakeIn, sp_X2_meetingPlace, sp_X3_counted, sp_X2_cornerOf, sp_X2_placeOfCorner, sp_X2_turnBy, sp_X2_takeIn, sp_X0_loseOn, sp_X3_countedMove]
    refine ⟨h1, fun w ca ew hw => ⟨h2, fun v cb ev hv => ?_, fun h => hx _ ⟨rfl, ok1.n (fun h2 => h h2.2)⟩⟩, fun h => hx _ ⟨rfl, ok1.n (fun h2 => h h2.1)⟩⟩
    have ew2 : wk a = w := ew.symm
    have ev2 : wk b = v := ev.symm
    have hn9 : InI (-9 : Int) := ⟨by omega, by omega⟩
    have hkw := hw.k
    have hkv := hv.k
    have sw := fun M => wk_is hkw M d
    have sv := fun M => wk_is hkv M d
    obtain ⟨vw, dw⟩ := ha.2.1 w hw
    obtain ⟨vv, dv⟩ := ha.2.1 v hv
    have w1 := vw.1
    have v1 := vv.1
    have hno : ¬ (rdR M w v ∧ ∃ i j : Nat, i ≤ M w 2 ∧ j < M v 2 ∧ cor M w i = cor M v j) → (-128 ≤ (-9 : Int) ∧ (-9 : Int) < 128) ∧ wA M ∧ InI (-9 : Int) ∧ ∀ M', (cP M M' ∧ M' = cnF M (-9)) → Q (.inl (some (mm_I (-9)))) M' d := fun hn => ⟨by omega, ha, hn9, fun M2 h => hq M2 _ ⟨h.1, hn9, by unfold C_join; rw [ew2, ev2]; exact ok1.y ⟨ca, cb⟩ (no9.n hn h.2)⟩⟩
    refine ⟨sw M, hkw, hkv, ha.1, vw, vv, fun r hr => ⟨by rcases hr.1 with h | h <;> subst h <;> exact ⟨by omega, by omega⟩, fun h0 => ⟨⟨by omega, by omega⟩, fun h => by omega, fun _ => hno (fun h => by have := hr.2.mpr h.1; omega)⟩, fun h0 => ?_⟩⟩
    have hrd := hr.2.mp (by omega)
    obtain ⟨q1, q2, q3, q4⟩ := id hrd
    have hc0 : cor M v ((0 : Nat) : Int) = M v 3 := by unfold cor; rw [if_neg (by omega)]
    refine ⟨sw M, hkw, hkv, ha.1, vw, vv, fun at_ hat => ⟨by rcases hat with h | h <;> exact ⟨by omega, by omega⟩, fun h5 => ?_, fun h5 => hno (fun h => ?_)⟩⟩
    rotate_left
    · obtain ⟨-, i, j, i1, i2, i3⟩ := h
      rcases hat with h | h
      · exact h.2 i j i1 (by omega) i3.symm
      · omega
    have hat2 : at_ ≤ M w 2 ∧ ∃ j : Nat, j ≤ M v 2 ∧ cor M v j = cor M w at_ := by
      rcases hat with h | h
      · omega
      · exact ⟨h.2.1, h.2.2.1⟩
    refine ⟨sw M, hkw, ha.1, vw, ⟨by omega, by omega⟩, fun r1 hr1 => ⟨sv M, hkv, ha.1, vv, ⟨by omega, by omega⟩, fun r2 hr2 => ⟨sv M, hkv, ha.1, vv, dv, ?_, fun M1 h6 => ?_⟩⟩⟩
    · rcases hr2 with h | h
      · obtain ⟨j, j1, j2⟩ := hat2.2
        exact absurd (by rw [hr1.1]; exact j2) (h.2 j j1)
      · omega
    · obtain ⟨f1, f2, f3, f4, f5, f6⟩ := h6
      have hne := q1
      have hwk := wk_ap hkw hkv hne
      have lw := isK_le hkw
      have lv := isK_le hkv
      have e1 : M1 w = M w := f1 w (by simp; omega)
      have e2 : M1 (w + 1) = M (w + 1) := f1 (w + 1) (by simp; omega)
      have vw1 := vw.to e1 e2 (f1.k hkv).1
      refine ⟨sw M1, hkw, hkv, hne, tWk ha.1 f1 hkv, vw1, f2, dw.to e1 e2, f3, fun j hj => ?_, by rw [e1]; omega, fun M2 h7 => ?_⟩
      · obtain ⟨i, i1, i2⟩ := f5 j hj
        rw [i2]
        exact (q4 i i1).to e1 e2
      · obtain ⟨g1, g2, g3, g4, g5, g6⟩ := h7
        obtain ⟨k1, k2, k3⟩ := ha.two hw hv ((f1.mono (by simp)).tr (g1.mono (by simp))) ⟨g2, g3⟩ ⟨g4, wD_0 g5⟩
        refine ⟨k1.2.2.1, hkv, fun M3 h8 => ?_⟩
        obtain ⟨l1, l2, l3⟩ := k1.one h8
        have hI : InI at_ := ⟨by omega, by omega⟩
        have hat3 : (0 ≤ at_ ∧ at_ ≤ M w 2) ∧ ∀ i' j' : Nat, i' < at_ → j' ≤ M v 2 → cor M v j' ≠ cor M w i' := by
          rcases hat with h | h
          · omega
          · exact ⟨by omega, h.2.2.2⟩
        have hr3 : (0 ≤ r2 ∧ r2 ≤ M v 2) ∧ cor M v r2 = cor M w at_ ∧ ∀ i : Nat, i < r2 → cor M v i ≠ cor M w at_ := by
          rw [← hr1.1]
          rcases hr2 with h | h
          · obtain ⟨j, j1, j2⟩ := hat2.2
            exact absurd (by rw [hr1.1]; exact j2) (h.2 j j1)
          · exact ⟨by omega, h.2.2⟩
        have hlt : r2 < M v 2 := Classical.byContradiction fun h9 => by
          have e9 : r2 = M v 2 := by omega
          have := hr3.2.2 0 (by omega)
          rw [hc0, ← q3, ← e9] at this
          exact this hr3.2.1
        rw [if_neg q2, Int.emod_eq_of_lt hr3.1.1 hlt] at f6
        have eA : ((at_.toNat : Nat) : Int) = at_ := by omega
        have eR : ((r2.toNat : Nat) : Int) = r2 := by omega
        have hmt : mtR M w v at_.toNat r2.toNat := ⟨by omega, by omega, by rw [eA, eR]; exact hr3.2.1.symm, fun i' j' hi' hj' => fun e => hat3.2 i' j' (by omega) (by omega) e.symm, fun j' hj' => fun e => hr3.2.2 j' (by omega) (by rw [← e, eA])⟩
        have hG : (0 : Int) ≤ at_ ∧ at_ ≤ M1 w 2 := by rw [e1]; exact hat3.1
        have eM3 := losM.of h8
        exact ⟨hw, hI, l1, fun h => by omega, fun M4 h => hq M4 _ ⟨cP.of k2 k3 (cP.of l2 l3 h.1), hI, by unfold C_join; rw [ew2, ev2]; exact ok1.y ⟨ca, cb⟩ (no9.y ⟨hrd, at_.toNat, r2.toNat, hmt.1, hmt.2.1, hmt.2.2.1⟩ ⟨at_.toNat, r2.toNat, hmt, eA.symm, M1, M2, f6, f1, by rw [eA]; exact g6, g1, SE.eq (by rw [h.2, losI_y (by omega), eM3])⟩)⟩⟩
  · exact h.elim
theorem me_X3_join {l : Launch} (hl : l.stackTraces = false) : mm_Met l yX3_join cX3_join 6 (some .int) [] 11 208 2 sp_X3_join := mm_mt hl rn_X3_join ⟨plX3, rfl⟩ kkX3_join rfl ⟨Nat.le_of_ble_eq_true rfl, Nat.le_of_ble_eq_true rfl⟩ flkX3 (fun _ h => nomatch h) (⟨mm_pe (me_X3_walkOf hl) mwX3_walkOf (mm_t2 209 rfl rfl) (Nat.le_of_ble_eq_true rfl) (Nat.le_of_ble_eq_true rfl), mm_pe (me_X2_canTakeIn hl) mwX2_canTakeIn (mm_t4 31 rfl rfl) (Nat.le_of_ble_eq_true rfl) (Nat.le_of_ble_eq_true rfl), mm_pe (me_X2_meetingPlace hl) mwX2_meetingPlace (mm_t4 47 rfl rfl) (Nat.le_of_ble_eq_true rfl) (Nat.le_of_ble_eq_true rfl), mm_pe (me_X3_counted hl) mwX3_counted (mm_t1 155 rfl rfl) (Nat.le_of_ble_eq_true rfl) (Nat.le_of_ble_eq_true rfl), mm_pe (me_X2_cornerOf hl) mwX2_cornerOf (mm_t4 35 rfl rfl) (Nat.le_of_ble_eq_true rfl) (Nat.le_of_ble_eq_true rfl), mm_pe (me_X2_placeOfCorner hl) mwX2_placeOfCorner (mm_t4 55 rfl rfl) (Nat.le_of_ble_eq_true rfl) (Nat.le_of_ble_eq_true rfl), mm_pe (me_X2_turnBy hl) mwX2_turnBy (mm_t4 56 rfl rfl) (Nat.le_of_ble_eq_true rfl) (Nat.le_of_ble_eq_true rfl), mm_pe (me_X2_takeIn hl) mwX2_takeIn (mm_t4 36 rfl rfl) (Nat.le_of_ble_eq_true rfl) (Nat.le_of_ble_eq_true rfl), mm_pe (me_X0_loseOn hl) mwX0_loseOn (mm_t3 200 rfl rfl) (Nat.le_of_ble_eq_true rfl) (Nat.le_of_ble_eq_true rfl), mm_pe (me_X3_countedMove hl) mwX3_countedMove (mm_t3 224 rfl rfl) (Nat.le_of_ble_eq_true rfl) (Nat.le_of_ble_eq_true rfl), trivial⟩) (mm_xe0 _) n9X3
def sp_X3_cut : mm_S := fun av M d Q => match av with
  | [.inr (.inr (.inl o)), .inl a, .inl b, .inl c, .inl e] =>  o = 1 ∧ wA M ∧ InI a ∧ InI b ∧ InI c ∧ InI e ∧ (∀ M' r, cP M M' ∧ InI r ∧ C_cut a b c e M M' 0 r → Q (.inl (some (mm_I r))) M' d) ∧ (∀ k, k = 0 ∧ C_cut a b c e M M 1 0 → Q (.inr k) M d)
  | _ => False
def ct_X3_cut : List (Nat × mm_Ca) := [(145, (0, 2, 10, sp_X3_walkOf, 1)), (149, (0, 1, 12, sp_X2_size, 0)), (181, (1, 2, 0, sp_X3_checkIndex, 1)), (188, (0, 2, 12, sp_X2_cornerOf, 0)), (44, (0, 2, 10, sp_X3_counted, 0)), (205, (0, 4, 12, sp_X2_giveOut, 0)), (153, (0, 2, 13, sp_X0_loseOn, 0)), (161, (0, 3, 10, sp_X3_countedMove, 0))]
abbrev rr_X3_cut (Q : mm_Q) := mm_run (mm_look flX3) (mm_look ct_X3_cut) mm_x0 (mm_look ([] : List (Nat × Int))) (fun _ => none) 1 4 (fun _ _ => none) Q kdX3_cut
set_option maxRecDepth 20000 in
theorem rn_X3_cut : mm_RN flX3 ct_X3_cut mm_x0 [] 1 4 7 kdX3_cut sp_X3_cut := by
  intro av M d Q h
  unfold sp_X3_cut at h
  split at h
  · rename_i o a b c e
    obtain ⟨rfl, ha, h1, h2, h3, h4, hq, hx⟩ := h
    refine ⟨Nat.le_of_ble_eq_true rfl, mm_run_at (stop := []) (S := mm_F0) kkX3_cut 80 ?_ mm_F0h⟩
    simp only [mm_wp, mm_op, mm_nxt, mm_jmp, mm_at, mm_in, mm_nth, mm_set, mm_ok, mm_isL, mm_ret, mm_isRet, mm_bool, mm_call, mm_push, mm_rv, mm_cats, mm_cat, mm_look, mm_ft, mm_fv, mm_pf, mm_thr, mm_ent, mm_pad, mm_fl, beq_self_eq_true, cond_true, cond_false, Nat.reduceBEq, Nat.reduceEqDiff, List.drop_succ_cons, List.drop_zero, List.take_succ_cons, List.take_zero, List.reverse_cons, List.reverse_nil, List.nil_append, List.cons_append, List.length_cons, List.length_nil, Nat.reduceAdd, Nat.reduceSub, Nat.reduceLeDiff, Bool.not_false, Bool.and_true, Bool.true_and, Nat.zero_add, true_and, and_true, Nat.le_refl, true_or, or_true, reduceCtorEq, Nat.add_zero, Nat.reduceLT, Bool.and_self, Bool.not_true, Fin.isValue, Nat.reduceLeDiff, List.take_nil, List.drop_nil, mm_i1, mm_i2, mm_i3, mm_i4, mm_i5, mm_i6, mm_i7, mm_i16, mm_i17, mm_i18, mm_i19, mm_i20, mm_i21, mm_i22, mm_i23, mm_l3, mm_l4, mm_l5, mm_l6, mm_l7, mm_l18, mm_l19, mm_l20, mm_l21, mm_l22, kdX3_cut, ct_X3_cut, flX3, sp_X3_walkOf, sp_X2_size, sp_X3_checkIndex, sp_X2_cornerOf, sp_X3_counted, sp_X2_giveOut, sp_X0_loseOn, sp_X3_countedMove]
    refine ⟨h1, fun w ca ew hw => ⟨h4, fun v cb ev hv => ?_, fun h => hx _ ⟨rfl, ok1.n (fun h2 => h h2.2.1)⟩⟩, fun h => hx _ ⟨rfl, ok1.n (fun h2 => h h2.1)⟩⟩
    have ew2 : wk a = w := ew.symm
    have ev2 : wk e = v := ev.symm
    have hn9 : InI (-9 : Int) := ⟨by omega, by omega⟩
    have hkw := hw.k
    have hkv := hv.k
    have sw := fun M => wk_is hkw M d
    have sv := fun M => wk_is hkv M d
    obtain ⟨vw, dw⟩ := ha.2.1 w hw
    obtain ⟨vv, dv⟩ := ha.2.1 v hv
    have w1 := vw.1
    have v1 := vv.1
    have hno : (0 ≤ b ∧ b ≤ M w 2) → (0 ≤ c ∧ c ≤ M w 2) → ¬ cutP M w b c v → (-128 ≤ (-9 : Int) ∧ (-9 : Int) < 128) ∧ wA M ∧ InI (-9 : Int) ∧ ∀ M', (cP M M' ∧ M' = cnF M (-9)) → Q (.inl (some (mm_I (-9)))) M' d := fun z1 z2 hn => ⟨by omega, ha, hn9, fun M2 h => hq M2 _ ⟨h.1, hn9, by unfold C_cut; rw [ew2, ev2]; exact ok1.y ⟨ca, cb, z1, z2⟩ (no9.n hn h.2)⟩⟩
    have hIw : InI (M w 2) := ⟨by omega, by omega⟩
    refine ⟨sw M, hkw, h2, hIw, fun cp => ⟨sw M, hkw, h3, hIw, fun cc => ⟨Or.inr (wk_mm hkw d), Or.inr (wk_mm hkv d), fun z => hno cp cc (fun z2 => z2.1 (by omega)), fun hne => ⟨h2, h3, fun z => hno cp cc (fun z2 => by have := z2.2.1; omega), fun hlt => ⟨sw M, hkw, ha.1, vw, h2, fun r hr => ⟨sw M, hkw, ha.1, vw, h3, fun r1 hr1 => ⟨⟨by omega, by omega⟩, ⟨by omega, by omega⟩, fun hce => ⟨sw M, hkw, hkv, hne, ha.1, vw, vv, dw, by omega, fun M' h5 => ?_⟩, fun z => hno cp cc (fun z2 => z (by rw [hr.1, hr1.1]; exact z2.2.2))⟩⟩⟩⟩⟩, fun h => hx _ ⟨rfl, ok1.n (fun h2 => h (by have := h2.2.2.2; unfold onW at this; rw [ew2] at this; exact this))⟩⟩, fun h => hx _ ⟨rfl, ok1.n (fun h2 => h (by have := h2.2.2.1; unfold onW at this; rw [ew2] at this; exact this))⟩⟩
    obtain ⟨f1, f2, f3, f4, f5, f6⟩ := h5
    obtain ⟨k1, k2, k3⟩ := ha.two hw hv f1 ⟨f2, f4⟩ ⟨f3, f5⟩
    refine ⟨k1.2.2.1, hkv, fun M3 h8 => ?_⟩
    obtain ⟨l1, l2, l3⟩ := k1.one h8
    have hI : InI (c - b) := ⟨by omega, by omega⟩
    have eM3 := losM.of h8
    exact ⟨hw, hI, l1, fun h => by omega, fun M4 h => hq M4 _ ⟨cP.of k2 k3 (cP.of l2 l3 h.1), hI, by unfold C_cut; rw [ew2, ev2]; exact ok1.y ⟨ca, cb, cp, cc⟩ (no9.y ⟨hne, by omega, by rw [← hr.1, ← hr1.1]; omega⟩ ⟨rfl, M', f6, f1, SE.eq (by rw [h.2, losI_y (by omega), eM3])⟩)⟩⟩
  · exact h.elim
theorem me_X3_cut {l : Launch} (hl : l.stackTraces = false) : mm_Met l yX3_cut cX3_cut 7 (some .int) [] 10 188 4 sp_X3_cut := mm_mt hl rn_X3_cut ⟨plX3, rfl⟩ kkX3_cut rfl ⟨Nat.le_of_ble_eq_true rfl, Nat.le_of_ble_eq_true rfl⟩ flkX3 (fun _ h => nomatch h) (⟨mm_pe (me_X3_walkOf hl) mwX3_walkOf (mm_t2 209 rfl rfl) (Nat.le_of_ble_eq_true rfl) (Nat.le_of_ble_eq_true rfl), mm_pe (me_X2_size hl) mwX2_size (mm_t3 40 rfl rfl) (Nat.le_of_ble_eq_true rfl) (Nat.le_of_ble_eq_true rfl), mm_pe (me_X3_checkIndex hl) mwX3_checkIndex (mm_t4 27 rfl rfl) (Nat.le_of_ble_eq_true rfl) (Nat.le_of_ble_eq_true rfl), mm_pe (me_X2_cornerOf hl) mwX2_cornerOf (mm_t4 35 rfl rfl) (Nat.le_of_ble_eq_true rfl) (Nat.le_of_ble_eq_true rfl), mm_pe (me_X3_counted hl) mwX3_counted (mm_t1 155 rfl rfl) (Nat.le_of_ble_eq_true rfl) (Nat.le_of_ble_eq_true rfl), mm_pe (me_X2_giveOut hl) mwX2_giveOut (mm_t4 67 rfl rfl) (Nat.le_of_ble_eq_true rfl) (Nat.le_of_ble_eq_true rfl), mm_pe (me_X0_loseOn hl) mwX0_loseOn (mm_t3 200 rfl rfl) (Nat.le_of_ble_eq_true rfl) (Nat.le_of_ble_eq_true rfl), mm_pe (me_X3_countedMove hl) mwX3_countedMove (mm_t3 224 rfl rfl) (Nat.le_of_ble_eq_true rfl) (Nat.le_of_ble_eq_true rfl), trivial⟩) (mm_xe0 _) n9X3
def sp_X3_next : mm_S := fun av M d Q => match av with
  | [.inr (.inr (.inl o)), .inl a, .inl f] =>  o = 1 ∧ wA M ∧ InI a ∧ (f = 0 ∨ f = 1) ∧ (∀ M' r, cP M M' ∧ InI r ∧ C_next a f M M' 0 r → Q (.inl (some (mm_I r))) M' d) ∧ (∀ k, k = 0 ∧ C_next a f M M 1 0 → Q (.inr k) M d)
  | _ => False
def ct_X3_next : List (Nat × mm_Ca) := [(145, (0, 2, 10, sp_X3_walkOf, 1)), (218, (0, 1, 12, sp_X2_isWhole, 0)), (44, (0, 2, 10, sp_X3_counted, 0)), (221, (0, 2, 12, sp_X2_takeAllOf, 0)), (224, (0, 2, 12, sp_X2_becomeNeighbour, 0)), (161, (0, 3, 10, sp_X3_countedMove, 0))]
abbrev rr_X3_next (Q : mm_Q) := mm_run (mm_look flX3) (mm_look ct_X3_next) mm_x0 (mm_look ([] : List (Nat × Int))) (fun _ => none) 1 1 (fun _ _ => none) Q kdX3_next
set_option maxRecDepth 20000 in
theorem rn_X3_next : mm_RN flX3 ct_X3_next mm_x0 [] 1 1 5 kdX3_next sp_X3_next := by
  intro av M d Q h
  unfold sp_X3_next at h
  split at h
  · rename_i o a f
    obtain ⟨rfl, ha, h1, h3, hq, hx⟩ := h
    refine ⟨Nat.le_of_ble_eq_true rfl, mm_run_at (stop := []) (S := mm_F0) kkX3_next 80 ?_ mm_F0h⟩
    simp only [mm_wp, mm_op, mm_nxt, mm_jmp, mm_at, mm_in, mm_nth, mm_set, mm_ok, mm_isL, mm_ret, mm_isRet, mm_bool, mm_call, mm_push, mm_rv, mm_cats, mm_cat, mm_look, mm_ft, mm_fv, mm_pf, mm_thr, mm_ent, mm_pad, mm_fl, beq_self_eq_true, cond_true, cond_false, Nat.reduceBEq, Nat.reduceEqDiff, List.drop_succ_cons, List.drop_zero, List.take_succ_cons, List.take_zero, List.reverse_cons, List.reverse_nil, List.nil_append, List.cons_append, List.length_cons, List.length_nil, Nat.reduceAdd, Nat.reduceSub, Nat.reduceLeDiff, Bool.not_false, Bool.and_true, Bool.true_and, Nat.zero_add, true_and, and_true, Nat.le_refl, true_or, or_true, reduceCtorEq, Nat.add_zero, Nat.reduceLT, Bool.and_self, Bool.not_true, Fin.isValue, Nat.reduceLeDiff, List.take_nil, List.drop_nil, mm_i1, mm_i2, mm_i3, mm_i4, mm_i5, mm_i6, mm_i7, mm_i16, mm_i17, mm_i18, mm_i19, mm_i20, mm_i21, mm_i22, mm_i23, mm_l3, mm_l4, mm_l5, mm_l6, mm_l7, mm_l18, mm_l19, mm_l20, mm_l21, mm_l22, kdX3_next, ct_X3_next, flX3, sp_X3_walkOf, sp_X2_isWhole, sp_X3_counted, sp_X2_takeAllOf, sp_X2_becomeNeighbour, sp_X3_countedMove]
    refine ⟨h1, fun w ca ew hw => ?_, fun h => hx _ ⟨rfl, ok1.n h⟩⟩
    have ew2 : wk a = w := ew.symm
    have hn9 : InI (-9 : Int) := ⟨by omega, by omega⟩
    have hkw := hw.k
    have lw := isK_le hkw
    have sw := fun M => wk_is hkw M d
    have k14 : isK 14 := Or.inr (Or.inr (Or.inr rfl))
    have hne : 14 ≠ w := by
      rcases hw with h | h | h <;> omega
    have s14 := fun M => wk_is k14 M d
    obtain ⟨vw, dw⟩ := ha.2.1 w hw
    have w1 := vw.1
    have t1 := ha.1.1
    refine ⟨sw M, hkw, ha.1, vw, fun r hr => ⟨inI2 (P := M w 2 = M 2 4) hr, fun hy => ⟨s14 M, k14, hkw, hne, ha.1, vw, dw, fun M1 h5 => ?_⟩, fun hn => ⟨by omega, ha, hn9, fun M2 h => hq M2 _ ⟨h.1, hn9, by unfold C_next; rw [ew2]; exact ok1.y ca (no9.n (inI_n (P := M w 2 = M 2 4) hr (by omega)) h.2)⟩⟩⟩⟩
    obtain ⟨f1, f2, f3, f4⟩ := h5
    have hwh : M w 2 = M 2 4 := inI_y (P := M w 2 = M 2 4) hr (by omega)
    have hP1 := ha.x (f1.mono (by simp))
    refine ⟨s14 M1, k14, hP1.1.1, f2, f3, h3, fun M2 r2 h6 => ?_⟩
    obtain ⟨g1, g2, g3, g4, g5⟩ := h6
    have hP2 := hP1.1.x g1
    refine ⟨⟨by omega, by omega⟩, fun h7 => ⟨sw M2, hkw, k14, Ne.symm hne, hP2.1.1, g2, g3, fun M3 h8 => ?_⟩, fun h7 => ⟨by omega, hP2.1, hn9, fun M3 h => hq M3 _ ⟨hP1.tr (hP2.tr h.1), hn9, by unfold C_next; rw [ew2]; exact ok1.y ca (no9.y hwh ⟨M1, M2, r2, f4, f1, g5, g1, no9.s (by omega) (.scr ((f1.mono (by simp)).tr (g1.mono (by simp)))) h.2⟩)⟩⟩⟩
    obtain ⟨k1, k2, k3⟩ := hP2.1.Lw hw (h8.1.mono (by simp)) h8.2.1 h8.2.2.1
    have hI : InI r2 := ⟨by omega, by omega⟩
    exact ⟨hw, hI, k1, fun h => by omega, fun M4 h => hq M4 _ ⟨hP1.tr (hP2.tr (cP.of k2 k3 h.1)), hI, by unfold C_next; rw [ew2]; exact ok1.y ca (no9.y hwh ⟨M1, M2, r2, f4, f1, g5, g1, no9.y (by omega) ⟨rfl, M3, h8.2.2.2, h8.1, SE.eq (by rw [h.2, losI_y (by omega)])⟩⟩)⟩⟩
  · exact h.elim
theorem me_X3_next {l : Launch} (hl : l.stackTraces = false) : mm_Met l yX3_next cX3_next 5 (some .int) [] 13 262 1 sp_X3_next := mm_mt hl rn_X3_next ⟨plX3, rfl⟩ kkX3_next rfl ⟨Nat.le_of_ble_eq_true rfl, Nat.le_of_ble_eq_true rfl⟩ flkX3 (fun _ h => nomatch h) (⟨mm_pe (me_X3_walkOf hl) mwX3_walkOf (mm_t2 209 rfl rfl) (Nat.le_of_ble_eq_true rfl) (Nat.le_of_ble_eq_true rfl), mm_pe (me_X2_isWhole hl) mwX2_isWhole (mm_t2 138 rfl rfl) (Nat.le_of_ble_eq_true rfl) (Nat.le_of_ble_eq_true rfl), mm_pe (me_X3_counted hl) mwX3_counted (mm_t1 155 rfl rfl) (Nat.le_of_ble_eq_true rfl) (Nat.le_of_ble_eq_true rfl), mm_pe (me_X2_takeAllOf hl) mwX2_takeAllOf (mm_t4 113 rfl rfl) (Nat.le_of_ble_eq_true rfl) (Nat.le_of_ble_eq_true rfl), mm_pe (me_X2_becomeNeighbour hl) mwX2_becomeNeighbour (mm_t4 117 rfl rfl) (Nat.le_of_ble_eq_true rfl) (Nat.le_of_ble_eq_true rfl), mm_pe (me_X3_countedMove hl) mwX3_countedMove (mm_t3 224 rfl rfl) (Nat.le_of_ble_eq_true rfl) (Nat.le_of_ble_eq_true rfl), trivial⟩) (mm_xe0 _) n9X3

