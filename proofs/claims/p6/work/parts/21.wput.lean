/-! the class's walks: putting in, taking out -/
def stO (M : mm_M) (s : Int) : Prop := 0 ≤ s ∧ s < 2 * M 2 4
def putR (M M' : mm_M) (w : Nat) (p s : Int) : Prop :=
  ((0 ≤ p ∧ p ≤ M w 2 ∧ M w 2 < 30) ∧ M' w 2 = M w 2 + 1 ∧ M' w 3 = M w 3 ∧ ∀ i : Nat, i ≤ M w 2 → (i < p → M' (w + 1) i = M (w + 1) i) ∧ (i = p → M' (w + 1) i = s) ∧ (p < i → M' (w + 1) i = M (w + 1) (i - 1))) ∨
  (¬ (0 ≤ p ∧ p ≤ M w 2 ∧ M w 2 < 30) ∧ M' = M)
theorem put_wV {M M' : mm_M} {w : Nat} {p s : Int} (hw : isK w) (hv : wV M w) (hs : stO M s) (hf : fr [w, w + 1] M M') (h : putR M M' w p s) : wV M' w := by
  have e2 : M' 2 = M 2 := hf 2 (by have := wk_no hw; simp; omega)
  obtain ⟨v1, v2, v3⟩ := id hv
  rcases h with ⟨h0, h1, h2, h3⟩ | ⟨-, rfl⟩
  · refine ⟨by omega, by omega, fun i hi => ?_⟩
    rw [e2]
    obtain ⟨a1, a2, a3⟩ := h3 i (by omega)
    rcases Int.lt_trichotomy (i : Int) p with h4 | h4 | h4
    · rw [a1 h4]
      exact v3 i (by omega)
    · rw [a2 h4]
      exact hs
    · rw [a3 h4]
      exact v3 (i - 1) (by omega)
  · exact hv
theorem fr.k {w : Nat} {M M' : mm_M} (h : fr [w, w + 1] M M') (hw : isK w) : M' 2 = M 2 ∧ M' 3 = M 3 ∧ M' 4 = M 4 := by
  have := wk_no hw
  exact ⟨h 2 (by simp; omega), h 3 (by simp; omega), h 4 (by simp; omega)⟩
theorem tWk {w : Nat} {M M' : mm_M} (ht : tW M) (h : fr [w, w + 1] M M') (hw : isK w) : tW M' := by
  have := wk_no hw
  exact ht.fr h (by simp; omega) (by simp; omega) (by simp; omega)
def sp_X2_putIn : mm_S := fun av M d Q => match av with
  | [.inr (.inr (.inl w)), .inl p, .inl s] =>  isK w ∧ wV M w ∧ InI p ∧ stO M s ∧ ∀ M', fr [w, w + 1] M M' ∧ wV M' w ∧ putR M M' w p s → Q (.inl none) M' d
  | _ => False
def ct_X2_putIn : List (Nat × mm_Ca) := []
abbrev rr_X2_putIn (Q : mm_Q) := mm_run (mm_look flX2) (mm_look ct_X2_putIn) mm_x0 (mm_look ([] : List (Nat × Int))) (fun _ => none) 0 0 (fun _ _ => none) Q kdX2_putIn
set_option maxRecDepth 20000 in
theorem lp_X2_putIn {M0 : mm_M} {d : List Nat} {Q : mm_Q} {w n p : Nat} {s : Int} (hw : isK w) (hv : wV M0 w) (hn : M0 w 2 = n) (hn3 : n < 30) (hq : ∀ M', fr [w, w + 1] M0 M' ∧ putR M0 M' w p s → Q (.inl none) M' d) : ∀ (k i : Nat) (M : mm_M), i = k + p → i ≤ n → fr [w + 1] M0 M → (∀ j : Nat, j ≤ i → M (w + 1) j = M0 (w + 1) j) → (∀ j : Nat, i < j → j ≤ n → M (w + 1) j = M0 (w + 1) (j - 1)) → rr_X2_putIn Q 27 [some (mm_R w), some (mm_I p), some (mm_I s), some (mm_I i)] [] M d 0 := by
  have hz := wk_no hw
  intro k
  induction k with
  | zero =>
    intro i M hi hin hf h1 h2
    refine mm_run_at (stop := [27]) (S := rr_X2_putIn Q) kkX2_putIn 60 ?_ (fun _ _ _ _ _ _ _ h => h)
    simp only [mm_wp, mm_op, mm_nxt, mm_jmp, mm_at, mm_in, mm_nth, mm_set, mm_ok, mm_isL, mm_ret, mm_isRet, mm_bool, mm_call, mm_push, mm_rv, mm_cats, mm_cat, mm_look, mm_ft, mm_fv, mm_pf, mm_thr, mm_ent, mm_pad, mm_fl, beq_self_eq_true, cond_true, cond_false, Nat.reduceBEq, Nat.reduceEqDiff, List.drop_succ_cons, List.drop_zero, List.take_succ_cons, List.take_zero, List.reverse_cons, List.reverse_nil, List.nil_append, List.cons_append, List.length_cons, List.length_nil, Nat.reduceAdd, Nat.reduceSub, Nat.reduceLeDiff, Bool.not_false, Bool.and_true, Bool.true_and, Nat.zero_add, true_and, and_true, Nat.le_refl, true_or, or_true, reduceCtorEq, Nat.add_zero, Nat.reduceLT, Bool.and_self, Bool.not_true, Fin.isValue, Nat.reduceLeDiff, List.take_nil, List.drop_nil, mm_i1, mm_i2, mm_i3, mm_i4, mm_i5, mm_i6, mm_i7, mm_i16, mm_i17, mm_i18, mm_i19, mm_i20, mm_i21, mm_i22, mm_i23, mm_l3, mm_l4, mm_l5, mm_l6, mm_l7, mm_l18, mm_l19, mm_l20, mm_l21, mm_l22, kdX2_putIn, ct_X2_putIn, flX2, wk_is hw, wk_iw hw, wk_ln hw]
    have e3 : mm_up M (w + 1) p s w 2 = n := by
      simp [mm_up]
      rw [hf w (by simp), hn]
    simp only [Int.toNat_natCast, e3]
    refine ⟨⟨by omega, by omega⟩, ⟨by omega, by omega⟩, fun _ => ⟨by omega, hq _ ⟨((hf.mono (by simp)).up (by simp)).up (by simp), Or.inl ⟨by omega, by simp [mm_up, hn], ?_, fun j hj => ⟨fun h => ?_, fun h => ?_, fun h => ?_⟩⟩⟩⟩, fun h => by omega⟩
    · simp [mm_up]
      rw [hf w (by simp)]
    · simp [mm_up, show j ≠ p by omega]
      exact h1 j (by omega)
    · simp [mm_up, show j = p by omega]
    · simp [mm_up, show j ≠ p by omega]
      exact h2 j (by omega) (by omega)
  | succ k ih =>
    intro i M hi hin hf h1 h2
    obtain ⟨i, rfl⟩ : ∃ j, i = j + 1 := ⟨i - 1, by omega⟩
    refine mm_run_at (stop := [27]) (S := rr_X2_putIn Q) kkX2_putIn 60 ?_ (fun _ _ _ _ _ _ _ h => h)
    simp only [mm_wp, mm_op, mm_nxt, mm_jmp, mm_at, mm_in, mm_nth, mm_set, mm_ok, mm_isL, mm_ret, mm_isRet, mm_bool, mm_call, mm_push, mm_rv, mm_cats, mm_cat, mm_look, mm_ft, mm_fv, mm_pf, mm_thr, mm_ent, mm_pad, mm_fl, beq_self_eq_true, cond_true, cond_false, Nat.reduceBEq, Nat.reduceEqDiff, List.drop_succ_cons, List.drop_zero, List.take_succ_cons, List.take_zero, List.reverse_cons, List.reverse_nil, List.nil_append, List.cons_append, List.length_cons, List.length_nil, Nat.reduceAdd, Nat.reduceSub, Nat.reduceLeDiff, Bool.not_false, Bool.and_true, Bool.true_and, Nat.zero_add, true_and, and_true, Nat.le_refl, true_or, or_true, reduceCtorEq, Nat.add_zero, Nat.reduceLT, Bool.and_self, Bool.not_true, Fin.isValue, Nat.reduceLeDiff, List.take_nil, List.drop_nil, mm_i1, mm_i2, mm_i3, mm_i4, mm_i5, mm_i6, mm_i7, mm_i16, mm_i17, mm_i18, mm_i19, mm_i20, mm_i21, mm_i22, mm_i23, mm_l3, mm_l4, mm_l5, mm_l6, mm_l7, mm_l18, mm_l19, mm_l20, mm_l21, mm_l22, kdX2_putIn, ct_X2_putIn, flX2, wk_is hw, wk_iw hw, wk_ln hw]
    simp only [show ((i + 1 : Nat) : Int) - 1 = i by omega, show ((i + 1 : Nat) : Int) + -1 = i by omega, Int.toNat_natCast]
    refine ⟨⟨by omega, by omega⟩, ⟨by omega, by omega⟩, fun h => by omega, fun _ => ⟨by omega, by omega, ?_⟩⟩
    refine ih i _ (by omega) (by omega) (hf.up (by simp)) (fun j hj => ?_) (fun j hj hj2 => ?_)
    · simp [mm_up, show j ≠ i + 1 by omega]
      exact h1 j (by omega)
    · by_cases e : j = i + 1
      · subst e
        simp [mm_up]
        exact h1 i (by omega)
      · simp [mm_up, e]
        exact h2 j (by omega) hj2
set_option maxRecDepth 20000 in
theorem rn_X2_putIn : mm_RN flX2 ct_X2_putIn mm_x0 [] 0 0 4 kdX2_putIn sp_X2_putIn := by
  intro av M d Q h
  unfold sp_X2_putIn at h
  split at h
  · rename_i w p s
    obtain ⟨hw, hv, hp, hs, hq⟩ := h
    have v1 := hv.1
    obtain ⟨n, hn⟩ := Int.eq_ofNat_of_zero_le v1.1
    have hno : ¬ (0 ≤ p ∧ p ≤ M w 2 ∧ M w 2 < 30) → Q (.inl none) M d := fun h => hq M ⟨fr.rf, hv, Or.inr ⟨h, rfl⟩⟩
    refine ⟨Nat.le_of_ble_eq_true rfl, mm_run_at (stop := [27]) (S := rr_X2_putIn Q) kkX2_putIn 80 ?_ (fun _ _ _ _ _ _ _ h => h)⟩
    simp only [mm_wp, mm_op, mm_nxt, mm_jmp, mm_at, mm_in, mm_nth, mm_set, mm_ok, mm_isL, mm_ret, mm_isRet, mm_bool, mm_call, mm_push, mm_rv, mm_cats, mm_cat, mm_look, mm_ft, mm_fv, mm_pf, mm_thr, mm_ent, mm_pad, mm_fl, beq_self_eq_true, cond_true, cond_false, Nat.reduceBEq, Nat.reduceEqDiff, List.drop_succ_cons, List.drop_zero, List.take_succ_cons, List.take_zero, List.reverse_cons, List.reverse_nil, List.nil_append, List.cons_append, List.length_cons, List.length_nil, Nat.reduceAdd, Nat.reduceSub, Nat.reduceLeDiff, Bool.not_false, Bool.and_true, Bool.true_and, Nat.zero_add, true_and, and_true, Nat.le_refl, true_or, or_true, reduceCtorEq, Nat.add_zero, Nat.reduceLT, Bool.and_self, Bool.not_true, Fin.isValue, Nat.reduceLeDiff, List.take_nil, List.drop_nil, mm_i1, mm_i2, mm_i3, mm_i4, mm_i5, mm_i6, mm_i7, mm_i16, mm_i17, mm_i18, mm_i19, mm_i20, mm_i21, mm_i22, mm_i23, mm_l3, mm_l4, mm_l5, mm_l6, mm_l7, mm_l18, mm_l19, mm_l20, mm_l21, mm_l22, kdX2_putIn, ct_X2_putIn, flX2, wk_is hw, wk_iw hw, wk_ln hw]
    refine ⟨hp, fun h => hno (by omega), fun h => ⟨hp, ⟨by omega, by omega⟩, fun h2 => hno (by omega), fun h2 => ⟨by omega, ⟨by omega, by omega⟩, ⟨by omega, by omega⟩, fun h3 => ?_, fun h3 => hno (by omega)⟩⟩⟩
    obtain ⟨p, rfl⟩ := Int.eq_ofNat_of_zero_le (show 0 ≤ p by omega)
    rw [hn]
    exact lp_X2_putIn (n := n) hw hv hn (by omega) (fun M' h => hq M' ⟨h.1, put_wV hw hv hs h.1 h.2, h.2⟩) (n - p) n M (by omega) (by omega) fr.rf (fun _ _ => rfl) (fun j a b => by omega)
  · exact h.elim
theorem me_X2_putIn {l : Launch} (hl : l.stackTraces = false) : mm_Met l yX2_putIn cX2_putIn 4 none [] 6 100 0 sp_X2_putIn := mm_mt hl rn_X2_putIn ⟨by decide, rfl⟩ kkX2_putIn rfl ⟨by decide, by decide⟩ flkX2 (fun _ h => nomatch h) (trivial) (mm_xe0 _)
def takR (M M' : mm_M) (w : Nat) (p : Int) : Prop :=
  ((0 ≤ p ∧ p < M w 2) ∧ M' w 2 = M w 2 - 1 ∧ M' w 3 = M w 3 ∧ ∀ i : Nat, i + 1 < M w 2 → (i < p → M' (w + 1) i = M (w + 1) i) ∧ (p ≤ i → M' (w + 1) i = M (w + 1) (i + 1))) ∨
  (¬ (0 ≤ p ∧ p < M w 2) ∧ M' = M)
theorem tak_wV {M M' : mm_M} {w : Nat} {p : Int} (hw : isK w) (hv : wV M w) (hf : fr [w, w + 1] M M') (h : takR M M' w p) : wV M' w := by
  have e2 := (hf.k hw).1
  obtain ⟨v1, v2, v3⟩ := id hv
  rcases h with ⟨h0, h1, h2, h3⟩ | ⟨-, rfl⟩
  · refine ⟨by omega, by omega, fun i hi => ?_⟩
    rw [e2]
    obtain ⟨a1, a2⟩ := h3 i (by omega)
    rcases Int.lt_or_le (i : Int) p with h4 | h4
    · rw [a1 h4]
      exact v3 i (by omega)
    · rw [a2 h4]
      exact v3 (i + 1) (by omega)
  · exact hv
def sp_X2_takeOut : mm_S := fun av M d Q => match av with
  | [.inr (.inr (.inl w)), .inl p] =>  isK w ∧ wV M w ∧ InI p ∧ ∀ M', fr [w, w + 1] M M' ∧ wV M' w ∧ takR M M' w p → Q (.inl none) M' d
  | _ => False
def ct_X2_takeOut : List (Nat × mm_Ca) := []
abbrev rr_X2_takeOut (Q : mm_Q) := mm_run (mm_look flX2) (mm_look ct_X2_takeOut) mm_x0 (mm_look ([] : List (Nat × Int))) (fun _ => none) 0 0 (fun _ _ => none) Q kdX2_takeOut
set_option maxRecDepth 20000 in
theorem lp_X2_takeOut {M0 : mm_M} {d : List Nat} {Q : mm_Q} {w n p : Nat} (hw : isK w) (hv : wV M0 w) (hn : M0 w 2 = n) (hn3 : n ≤ 30) (hp : p < n) (hq : ∀ M', fr [w, w + 1] M0 M' ∧ takR M0 M' w p → Q (.inl none) M' d) : ∀ (k i : Nat) (M : mm_M), i + k + 1 = n → p ≤ i → fr [w + 1] M0 M → (∀ j : Nat, j < p → M (w + 1) j = M0 (w + 1) j) → (∀ j : Nat, p ≤ j → j < i → M (w + 1) j = M0 (w + 1) (j + 1)) → (∀ j : Nat, i ≤ j → M (w + 1) j = M0 (w + 1) j) → rr_X2_takeOut Q 15 [some (mm_R w), some (mm_I p), some (mm_I i)] [] M d 0 := by
  have hz := wk_no hw
  intro k
  induction k with
  | zero =>
    intro i M hi hin hf h1 h2 h3
    refine mm_run_at (stop := [15]) (S := rr_X2_takeOut Q) kkX2_takeOut 60 ?_ (fun _ _ _ _ _ _ _ h => h)
    simp only [mm_wp, mm_op, mm_nxt, mm_jmp, mm_at, mm_in, mm_nth, mm_set, mm_ok, mm_isL, mm_ret, mm_isRet, mm_bool, mm_call, mm_push, mm_rv, mm_cats, mm_cat, mm_look, mm_ft, mm_fv, mm_pf, mm_thr, mm_ent, mm_pad, mm_fl, beq_self_eq_true, cond_true, cond_false, Nat.reduceBEq, Nat.reduceEqDiff, List.drop_succ_cons, List.drop_zero, List.take_succ_cons, List.take_zero, List.reverse_cons, List.reverse_nil, List.nil_append, List.cons_append, List.length_cons, List.length_nil, Nat.reduceAdd, Nat.reduceSub, Nat.reduceLeDiff, Bool.not_false, Bool.and_true, Bool.true_and, Nat.zero_add, true_and, and_true, Nat.le_refl, true_or, or_true, reduceCtorEq, Nat.add_zero, Nat.reduceLT, Bool.and_self, Bool.not_true, Fin.isValue, Nat.reduceLeDiff, List.take_nil, List.drop_nil, mm_i1, mm_i2, mm_i3, mm_i4, mm_i5, mm_i6, mm_i7, mm_i16, mm_i17, mm_i18, mm_i19, mm_i20, mm_i21, mm_i22, mm_i23, mm_l3, mm_l4, mm_l5, mm_l6, mm_l7, mm_l18, mm_l19, mm_l20, mm_l21, mm_l22, kdX2_takeOut, ct_X2_takeOut, flX2, wk_is hw, wk_iw hw, wk_ln hw]
    have e3 : M w 2 = n := by rw [hf w (by simp), hn]
    simp only [e3]
    refine ⟨⟨by omega, by omega⟩, ⟨by omega, by omega⟩, fun _ => hq _ ⟨(hf.mono (by simp)).up (by simp), Or.inl ⟨by omega, by simp [mm_up, hn], ?_, fun j hj => ⟨fun h => ?_, fun h => ?_⟩⟩⟩, fun h => by omega⟩
    · simp [mm_up]
      rw [hf w (by simp)]
    · simp [mm_up]
      exact h1 j (by omega)
    · simp [mm_up]
      exact h2 j (by omega) (by omega)
  | succ k ih =>
    intro i M hi hin hf h1 h2 h3
    refine mm_run_at (stop := [15]) (S := rr_X2_takeOut Q) kkX2_takeOut 60 ?_ (fun _ _ _ _ _ _ _ h => h)
    simp only [mm_wp, mm_op, mm_nxt, mm_jmp, mm_at, mm_in, mm_nth, mm_set, mm_ok, mm_isL, mm_ret, mm_isRet, mm_bool, mm_call, mm_push, mm_rv, mm_cats, mm_cat, mm_look, mm_ft, mm_fv, mm_pf, mm_thr, mm_ent, mm_pad, mm_fl, beq_self_eq_true, cond_true, cond_false, Nat.reduceBEq, Nat.reduceEqDiff, List.drop_succ_cons, List.drop_zero, List.take_succ_cons, List.take_zero, List.reverse_cons, List.reverse_nil, List.nil_append, List.cons_append, List.length_cons, List.length_nil, Nat.reduceAdd, Nat.reduceSub, Nat.reduceLeDiff, Bool.not_false, Bool.and_true, Bool.true_and, Nat.zero_add, true_and, and_true, Nat.le_refl, true_or, or_true, reduceCtorEq, Nat.add_zero, Nat.reduceLT, Bool.and_self, Bool.not_true, Fin.isValue, Nat.reduceLeDiff, List.take_nil, List.drop_nil, mm_i1, mm_i2, mm_i3, mm_i4, mm_i5, mm_i6, mm_i7, mm_i16, mm_i17, mm_i18, mm_i19, mm_i20, mm_i21, mm_i22, mm_i23, mm_l3, mm_l4, mm_l5, mm_l6, mm_l7, mm_l18, mm_l19, mm_l20, mm_l21, mm_l22, kdX2_takeOut, ct_X2_takeOut, flX2, wk_is hw, wk_iw hw, wk_ln hw]
    have e3 : M w 2 = n := by rw [hf w (by simp), hn]
    simp only [show ((i : Int) + 1).toNat = i + 1 by omega, Int.toNat_natCast, e3]
    refine ⟨⟨by omega, by omega⟩, ⟨by omega, by omega⟩, fun h => by omega, fun _ => ⟨by omega, by omega, ?_⟩⟩
    refine ih (i + 1) _ (by omega) (by omega) (hf.up (by simp)) (fun j hj => ?_) (fun j hj hj2 => ?_) (fun j hj => ?_)
    · simp [mm_up, show j ≠ i by omega]
      exact h1 j (by omega)
    · by_cases e : j = i
      · subst e
        simp [mm_up]
        exact h3 (j + 1) (by omega)
      · simp [mm_up, e]
        exact h2 j (by omega) (by omega)
    · simp [mm_up, show j ≠ i by omega]
      exact h3 j (by omega)
set_option maxRecDepth 20000 in
theorem rn_X2_takeOut : mm_RN flX2 ct_X2_takeOut mm_x0 [] 0 0 3 kdX2_takeOut sp_X2_takeOut := by
  intro av M d Q h
  unfold sp_X2_takeOut at h
  split at h
  · rename_i w p
    obtain ⟨hw, hv, hp, hq⟩ := h
    have v1 := hv.1
    obtain ⟨n, hn⟩ := Int.eq_ofNat_of_zero_le v1.1
    have hno : ¬ (0 ≤ p ∧ p < M w 2) → Q (.inl none) M d := fun h => hq M ⟨fr.rf, hv, Or.inr ⟨h, rfl⟩⟩
    refine ⟨Nat.le_of_ble_eq_true rfl, mm_run_at (stop := [15]) (S := rr_X2_takeOut Q) kkX2_takeOut 80 ?_ (fun _ _ _ _ _ _ _ h => h)⟩
    simp only [mm_wp, mm_op, mm_nxt, mm_jmp, mm_at, mm_in, mm_nth, mm_set, mm_ok, mm_isL, mm_ret, mm_isRet, mm_bool, mm_call, mm_push, mm_rv, mm_cats, mm_cat, mm_look, mm_ft, mm_fv, mm_pf, mm_thr, mm_ent, mm_pad, mm_fl, beq_self_eq_true, cond_true, cond_false, Nat.reduceBEq, Nat.reduceEqDiff, List.drop_succ_cons, List.drop_zero, List.take_succ_cons, List.take_zero, List.reverse_cons, List.reverse_nil, List.nil_append, List.cons_append, List.length_cons, List.length_nil, Nat.reduceAdd, Nat.reduceSub, Nat.reduceLeDiff, Bool.not_false, Bool.and_true, Bool.true_and, Nat.zero_add, true_and, and_true, Nat.le_refl, true_or, or_true, reduceCtorEq, Nat.add_zero, Nat.reduceLT, Bool.and_self, Bool.not_true, Fin.isValue, Nat.reduceLeDiff, List.take_nil, List.drop_nil, mm_i1, mm_i2, mm_i3, mm_i4, mm_i5, mm_i6, mm_i7, mm_i16, mm_i17, mm_i18, mm_i19, mm_i20, mm_i21, mm_i22, mm_i23, mm_l3, mm_l4, mm_l5, mm_l6, mm_l7, mm_l18, mm_l19, mm_l20, mm_l21, mm_l22, kdX2_takeOut, ct_X2_takeOut, flX2, wk_is hw, wk_iw hw, wk_ln hw]
    refine ⟨hp, fun h => hno (by omega), fun h => ⟨hp, ⟨by omega, by omega⟩, fun h2 => ?_, fun h2 => hno (by omega)⟩⟩
    obtain ⟨p, rfl⟩ := Int.eq_ofNat_of_zero_le (show 0 ≤ p by omega)
    exact lp_X2_takeOut (n := n) hw hv hn (by omega) (by omega) (fun M' h => hq M' ⟨h.1, tak_wV hw hv h.1 h.2, h.2⟩) (n - p - 1) p M (by omega) (by omega) fr.rf (fun _ _ => rfl) (fun j a b => by omega) (fun _ _ => rfl)
  · exact h.elim
theorem me_X2_takeOut {l : Launch} (hl : l.stackTraces = false) : mm_Met l yX2_takeOut cX2_takeOut 3 none [] 6 100 0 sp_X2_takeOut := mm_mt hl rn_X2_takeOut ⟨by decide, rfl⟩ kkX2_takeOut rfl ⟨by decide, by decide⟩ flkX2 (fun _ h => nomatch h) (trivial) (mm_xe0 _)
def sp_X2_putAhead : mm_S := fun av M d Q => match av with
  | [.inr (.inr (.inl w)), .inl s] =>  isK w ∧ tW M ∧ wV M w ∧ stO M s ∧ ∀ M', fr [w, w + 1] M M' ∧ wV M' w ∧ (∃ M1, putR M M1 w 0 s ∧ M' = mm_up M1 w 3 (sr M s)) → Q (.inl none) M' d
  | _ => False
def ct_X2_putAhead : List (Nat × mm_Ca) := [(39, (0, 3, 12, sp_X2_putIn, 0)), (43, (0, 2, 11, sp_X1_sourceOf, 0))]
abbrev rr_X2_putAhead (Q : mm_Q) := mm_run (mm_look flX2) (mm_look ct_X2_putAhead) mm_x0 (mm_look ([] : List (Nat × Int))) (fun _ => none) 0 0 (fun _ _ => none) Q kdX2_putAhead
set_option maxRecDepth 20000 in
theorem rn_X2_putAhead : mm_RN flX2 ct_X2_putAhead mm_x0 [] 0 0 2 kdX2_putAhead sp_X2_putAhead := by
  intro av M d Q h
  unfold sp_X2_putAhead at h
  split at h
  · rename_i w s
    obtain ⟨hw, ht, hv, hs, hq⟩ := h
    have hz := wk_no hw
    refine ⟨Nat.le_of_ble_eq_true rfl, mm_run_at (stop := []) (S := mm_F0) kkX2_putAhead 80 ?_ mm_F0h⟩
    simp only [mm_wp, mm_op, mm_nxt, mm_jmp, mm_at, mm_in, mm_nth, mm_set, mm_ok, mm_isL, mm_ret, mm_isRet, mm_bool, mm_call, mm_push, mm_rv, mm_cats, mm_cat, mm_look, mm_ft, mm_fv, mm_pf, mm_thr, mm_ent, mm_pad, mm_fl, beq_self_eq_true, cond_true, cond_false, Nat.reduceBEq, Nat.reduceEqDiff, List.drop_succ_cons, List.drop_zero, List.take_succ_cons, List.take_zero, List.reverse_cons, List.reverse_nil, List.nil_append, List.cons_append, List.length_cons, List.length_nil, Nat.reduceAdd, Nat.reduceSub, Nat.reduceLeDiff, Bool.not_false, Bool.and_true, Bool.true_and, Nat.zero_add, true_and, and_true, Nat.le_refl, true_or, or_true, reduceCtorEq, Nat.add_zero, Nat.reduceLT, Bool.and_self, Bool.not_true, Fin.isValue, Nat.reduceLeDiff, List.take_nil, List.drop_nil, mm_i1, mm_i2, mm_i3, mm_i4, mm_i5, mm_i6, mm_i7, mm_i16, mm_i17, mm_i18, mm_i19, mm_i20, mm_i21, mm_i22, mm_i23, mm_l3, mm_l4, mm_l5, mm_l6, mm_l7, mm_l18, mm_l19, mm_l20, mm_l21, mm_l22, kdX2_putAhead, ct_X2_putAhead, flX2, sp_X2_putIn, sp_X1_sourceOf, wk_is hw]
    refine ⟨hw, hv, ⟨by omega, by omega⟩, hs, fun M1 h1 => ⟨tWk ht h1.1 hw, by rw [(h1.1.k hw).1]; exact hs, fun r hr => hq _ ⟨h1.1.up (by simp), ?_, M1, h1.2.2, ?_⟩⟩⟩
    · obtain ⟨v1, v2, v3⟩ := h1.2.1
      refine ⟨by simpa [mm_up] using v1, by simp [mm_up]; exact hr.2, fun i hi => ?_⟩
      simp [mm_up] at hi ⊢
      exact v3 i hi
    · have e := h1.1.k hw
      rw [hr.1]
      unfold sr
      rw [e.2.1, e.2.2]
  · exact h.elim
theorem me_X2_putAhead {l : Launch} (hl : l.stackTraces = false) : mm_Met l yX2_putAhead cX2_putAhead 2 none [] 9 164 0 sp_X2_putAhead := mm_mt hl rn_X2_putAhead ⟨by decide, rfl⟩ kkX2_putAhead rfl ⟨by decide, by decide⟩ flkX2 (fun _ h => nomatch h) (⟨mm_pe (me_X2_putIn hl) mwX2_putIn (mm_t2 134 rfl rfl) (Nat.le_of_ble_eq_true rfl) (Nat.le_of_ble_eq_true rfl), mm_pe (me_X1_sourceOf hl) mwX1_sourceOf (mm_t2 106 rfl rfl) (Nat.le_of_ble_eq_true rfl) (Nat.le_of_ble_eq_true rfl), trivial⟩) (mm_xe0 _)
def sp_X2_takeOutFirst : mm_S := fun av M d Q => match av with
  | [.inr (.inr (.inl w))] =>  isK w ∧ tW M ∧ wV M w ∧ ∀ M', fr [w, w + 1] M M' ∧ wV M' w ∧ takR (mm_up M w 3 (cor M w 1)) M' w 0 → Q (.inl none) M' d
  | _ => False
def ct_X2_takeOutFirst : List (Nat × mm_Ca) := [(26, (0, 2, 12, sp_X2_cornerOf, 0)), (46, (0, 2, 12, sp_X2_takeOut, 0))]
abbrev rr_X2_takeOutFirst (Q : mm_Q) := mm_run (mm_look flX2) (mm_look ct_X2_takeOutFirst) mm_x0 (mm_look ([] : List (Nat × Int))) (fun _ => none) 0 0 (fun _ _ => none) Q kdX2_takeOutFirst
set_option maxRecDepth 20000 in
theorem rn_X2_takeOutFirst : mm_RN flX2 ct_X2_takeOutFirst mm_x0 [] 0 0 1 kdX2_takeOutFirst sp_X2_takeOutFirst := by
  intro av M d Q h
  unfold sp_X2_takeOutFirst at h
  split at h
  · rename_i w
    obtain ⟨hw, ht, hv, hq⟩ := h
    have hz := wk_no hw
    refine ⟨Nat.le_of_ble_eq_true rfl, mm_run_at (stop := []) (S := mm_F0) kkX2_takeOutFirst 80 ?_ mm_F0h⟩
    simp only [mm_wp, mm_op, mm_nxt, mm_jmp, mm_at, mm_in, mm_nth, mm_set, mm_ok, mm_isL, mm_ret, mm_isRet, mm_bool, mm_call, mm_push, mm_rv, mm_cats, mm_cat, mm_look, mm_ft, mm_fv, mm_pf, mm_thr, mm_ent, mm_pad, mm_fl, beq_self_eq_true, cond_true, cond_false, Nat.reduceBEq, Nat.reduceEqDiff, List.drop_succ_cons, List.drop_zero, List.take_succ_cons, List.take_zero, List.reverse_cons, List.reverse_nil, List.nil_append, List.cons_append, List.length_cons, List.length_nil, Nat.reduceAdd, Nat.reduceSub, Nat.reduceLeDiff, Bool.not_false, Bool.and_true, Bool.true_and, Nat.zero_add, true_and, and_true, Nat.le_refl, true_or, or_true, reduceCtorEq, Nat.add_zero, Nat.reduceLT, Bool.and_self, Bool.not_true, Fin.isValue, Nat.reduceLeDiff, List.take_nil, List.drop_nil, mm_i1, mm_i2, mm_i3, mm_i4, mm_i5, mm_i6, mm_i7, mm_i16, mm_i17, mm_i18, mm_i19, mm_i20, mm_i21, mm_i22, mm_i23, mm_l3, mm_l4, mm_l5, mm_l6, mm_l7, mm_l18, mm_l19, mm_l20, mm_l21, mm_l22, kdX2_takeOutFirst, ct_X2_takeOutFirst, flX2, sp_X2_cornerOf, sp_X2_takeOut, wk_is hw]
    refine ⟨hw, ht, hv, ⟨by omega, by omega⟩, fun r hr => ⟨hw, ?_, ⟨by omega, by omega⟩, fun M' h => hq M' ⟨(fr.rf.up (by simp)).tr h.1, h.2.1, by rw [← hr.1]; exact h.2.2⟩⟩⟩
    obtain ⟨v1, v2, v3⟩ := hv
    refine ⟨by simpa [mm_up] using v1, by simp [mm_up]; exact hr.2, fun i hi => ?_⟩
    simp [mm_up] at hi ⊢
    exact v3 i hi
  · exact h.elim
theorem me_X2_takeOutFirst {l : Launch} (hl : l.stackTraces = false) : mm_Met l yX2_takeOutFirst cX2_takeOutFirst 1 none [] 9 164 0 sp_X2_takeOutFirst := mm_mt hl rn_X2_takeOutFirst ⟨by decide, rfl⟩ kkX2_takeOutFirst rfl ⟨by decide, by decide⟩ flkX2 (fun _ h => nomatch h) (⟨mm_pe (me_X2_cornerOf hl) mwX2_cornerOf (mm_t1 191 rfl rfl) (Nat.le_of_ble_eq_true rfl) (Nat.le_of_ble_eq_true rfl), mm_pe (me_X2_takeOut hl) mwX2_takeOut (mm_t2 71 rfl rfl) (Nat.le_of_ble_eq_true rfl) (Nat.le_of_ble_eq_true rfl), trivial⟩) (mm_xe0 _)
def sp_X2_stepBack : mm_S := fun av M d Q => match av with
  | [.inr (.inr (.inl w)), .inl f] =>  isK w ∧ tW M ∧ wV M w ∧ (f = 0 ∨ f = 1) ∧ ∀ M' r, fr [w, w + 1] M M' ∧ wV M' w ∧ (M w 2 = 0 → r = -9 ∧ M' = M) ∧ (0 < M w 2 → stO M r ∧ M' w 2 = M w 2 - 1 ∧ (f = 1 → r = M (w + 1) 0 ∧ takR (mm_up M w 3 (cor M w 1)) M' w 0) ∧ (f = 0 → r = M (w + 1) (M w 2 - 1).toNat ∧ M' = mm_up M w 2 (M w 2 - 1))) → Q (.inl (some (mm_I r))) M' d
  | _ => False
def ct_X2_stepBack : List (Nat × mm_Ca) := [(66, (0, 2, 12, sp_X2_stepOf, 0)), (69, (0, 1, 12, sp_X2_takeOutFirst, 0))]
abbrev rr_X2_stepBack (Q : mm_Q) := mm_run (mm_look flX2) (mm_look ct_X2_stepBack) mm_x0 (mm_look ([] : List (Nat × Int))) (fun _ => none) 1 0 (fun _ _ => none) Q kdX2_stepBack
set_option maxRecDepth 20000 in
theorem rn_X2_stepBack : mm_RN flX2 ct_X2_stepBack mm_x0 [] 1 0 3 kdX2_stepBack sp_X2_stepBack := by
  intro av M d Q h
  unfold sp_X2_stepBack at h
  split at h
  · rename_i w f
    obtain ⟨hw, ht, hv, hf, hq⟩ := h
    have hz := wk_no hw
    obtain ⟨v1, v2, v3⟩ := id hv
    refine ⟨Nat.le_of_ble_eq_true rfl, mm_run_at (stop := []) (S := mm_F0) kkX2_stepBack 80 ?_ mm_F0h⟩
    simp only [mm_wp, mm_op, mm_nxt, mm_jmp, mm_at, mm_in, mm_nth, mm_set, mm_ok, mm_isL, mm_ret, mm_isRet, mm_bool, mm_call, mm_push, mm_rv, mm_cats, mm_cat, mm_look, mm_ft, mm_fv, mm_pf, mm_thr, mm_ent, mm_pad, mm_fl, beq_self_eq_true, cond_true, cond_false, Nat.reduceBEq, Nat.reduceEqDiff, List.drop_succ_cons, List.drop_zero, List.take_succ_cons, List.take_zero, List.reverse_cons, List.reverse_nil, List.nil_append, List.cons_append, List.length_cons, List.length_nil, Nat.reduceAdd, Nat.reduceSub, Nat.reduceLeDiff, Bool.not_false, Bool.and_true, Bool.true_and, Nat.zero_add, true_and, and_true, Nat.le_refl, true_or, or_true, reduceCtorEq, Nat.add_zero, Nat.reduceLT, Bool.and_self, Bool.not_true, Fin.isValue, Nat.reduceLeDiff, List.take_nil, List.drop_nil, mm_i1, mm_i2, mm_i3, mm_i4, mm_i5, mm_i6, mm_i7, mm_i16, mm_i17, mm_i18, mm_i19, mm_i20, mm_i21, mm_i22, mm_i23, mm_l3, mm_l4, mm_l5, mm_l6, mm_l7, mm_l18, mm_l19, mm_l20, mm_l21, mm_l22, kdX2_stepBack, ct_X2_stepBack, flX2, sp_X2_stepOf, sp_X2_takeOutFirst, wk_is hw]
    refine ⟨⟨by omega, by omega⟩, fun h => ⟨⟨by omega, by omega⟩, fun h2 => ⟨hw, ht, hv, ⟨by omega, by omega⟩, fun r hr => ⟨⟨by omega, by omega⟩, fun h3 => ?_, fun h3 => absurd h2 h3⟩⟩, fun h2 => ⟨hw, ht, hv, ⟨by omega, by omega⟩, fun r hr => ⟨⟨by omega, by omega⟩, fun h3 => absurd h3 h2, fun h3 => ⟨hw, ht, hv, fun M' h4 => ?_⟩⟩⟩⟩, fun h => ⟨⟨by omega, by omega⟩, hq M _ ⟨fr.rf, hv, fun _ => ⟨rfl, rfl⟩, fun h2 => by omega⟩⟩⟩
    · have e : r = M (w + 1) (M w 2 - 1).toNat := by
        rw [hr.1]
        unfold stp
        rw [if_pos (by omega)]
      have v4 := v3 (M w 2 - 1).toNat (by omega)
      refine hq _ r ⟨fr.rf.up (by simp), ?_, fun h4 => absurd h4 h, fun h4 => ⟨⟨by omega, by omega⟩, by simp [mm_up], fun h5 => by omega, fun _ => ⟨e, rfl⟩⟩⟩
      refine ⟨by simp [mm_up]; omega, by simpa [mm_up] using v2, fun i hi => ?_⟩
      simp [mm_up] at hi ⊢
      exact v3 i (by omega)
    · have e : r = M (w + 1) 0 := by
        rw [hr.1]
        unfold stp
        rw [if_pos (by omega)]
        rfl
      have v4 := v3 0 (by omega)
      have e2 : M' w 2 = M w 2 - 1 := by
        rcases h4.2.2 with h5 | h5
        · rw [h5.2.1]
          simp [mm_up]
        · exact absurd ⟨by omega, by simp [mm_up]; omega⟩ h5.1
      exact hq M' r ⟨h4.1, h4.2.1, fun h5 => absurd h5 h, fun h5 => ⟨⟨by omega, by omega⟩, e2, fun _ => ⟨e, h4.2.2⟩, fun h6 => absurd h6 h2⟩⟩
  · exact h.elim
theorem me_X2_stepBack {l : Launch} (hl : l.stackTraces = false) : mm_Met l yX2_stepBack cX2_stepBack 3 (some .int) [] 10 184 0 sp_X2_stepBack := mm_mt hl rn_X2_stepBack ⟨by decide, rfl⟩ kkX2_stepBack rfl ⟨by decide, by decide⟩ flkX2 (fun _ h => nomatch h) (⟨mm_pe (me_X2_stepOf hl) mwX2_stepOf (mm_t3 239 rfl rfl) (Nat.le_of_ble_eq_true rfl) (Nat.le_of_ble_eq_true rfl), mm_pe (me_X2_takeOutFirst hl) mwX2_takeOutFirst (mm_t4 0 rfl rfl) (Nat.le_of_ble_eq_true rfl) (Nat.le_of_ble_eq_true rfl), trivial⟩) (mm_xe0 _)

