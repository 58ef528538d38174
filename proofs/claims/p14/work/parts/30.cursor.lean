/-! the class's cursor, and the class's order -/
/-- the cursor is in order: it has no walk, or one of the three; where it isn't lost its places are on it -/
def cV (M : mm_M) : Prop := (M 16 1 = 0 ∨ isW3 (M 16 1).toNat) ∧ (M 16 4 = 0 ∨ M 16 4 = 1) ∧
  (M 16 1 ≠ 0 → M 16 4 = 0 → (0 ≤ M 16 2 ∧ M 16 2 ≤ M (M 16 1).toNat 2) ∧ (-1 ≤ M 16 3 ∧ M 16 3 < M (M 16 1).toNat 2))
/-- the whole object is in order -/
def wA (M : mm_M) : Prop := tW M ∧ (∀ w, isW3 w → wV M w ∧ wD M w) ∧ cV M
def cF (M M' : mm_M) : Prop := ∀ o, (o = 0 ∨ 16 < o) → M' o = M o
theorem cF.rf {M : mm_M} : cF M M := fun _ _ => rfl
theorem cF.tr {M M' M'' : mm_M} (h : cF M M') (h2 : cF M' M'') : cF M M'' := fun o ho => (h2 o ho).trans (h o ho)
theorem cF.up {M M' : mm_M} {o k : Nat} {v : Int} (h : cF M M') (ho : 0 < o ∧ o ≤ 16) : cF M (mm_up M' o k v) := fun x hx => by
  rw [mm_up_o x (by omega)]
  exact h x hx
theorem cF.of {S : List Nat} {M M' : mm_M} (h : fr S M M') (hs : ∀ o ∈ S, 0 < o ∧ o ≤ 16) : cF M M' := fun o ho => h o (fun hx => by have := hs o hx; omega)
/-- what every call leaves: the order, all that isn't the object's, and the number of knocks -/
def cP (M M' : mm_M) : Prop := wA M' ∧ cF M M' ∧ M' 1 6 = M 1 6
theorem cP.tr {M M' M'' : mm_M} (h : cP M M') (h2 : cP M' M'') : cP M M'' := ⟨h2.1, h.2.1.tr h2.2.1, h2.2.2.trans h.2.2⟩
theorem wA.rf {M : mm_M} (h : wA M) : cP M M := ⟨h, cF.rf, rfl⟩
theorem isK_le {w : Nat} (h : isK w) : 8 ≤ w ∧ w + 1 ≤ 15 ∧ w ≠ 9 ∧ w ≠ 11 ∧ w ≠ 13 := by
  rcases h with rfl | rfl | rfl | rfl <;> simp
theorem wV.me {M M' : mm_M} {w : Nat} (h : wV M w ∧ wD M w) (h1 : M' w = M w) (h2 : M' (w + 1) = M (w + 1)) (h3 : M' 2 = M 2) : wV M' w ∧ wD M' w := ⟨h.1.to h1 h2 h3, h.2.to h1 h2⟩
/-- changes within the cursor alone -/
theorem wA.c {M M' : mm_M} (h : wA M) (hf : fr [16] M M') (hc : cV M') : cP M M' := by
  refine ⟨⟨h.1.fr hf (by simp) (by simp) (by simp), fun w hw => ?_, hc⟩, cF.of hf (by simp), by rw [hf 1 (by simp)]⟩
  have := isK_le hw.k
  exact wV.me (h.2.1 w hw) (hf w (by simp; omega)) (hf (w + 1) (by simp; omega)) (hf 2 (by simp))
/-- changes within one walk and the cursor -/
theorem wA.w {M M' : mm_M} {w : Nat} (h : wA M) (hw : isK w) (hf : fr [w, w + 1, 5, 6, 16] M M') (h1 : wV M' w) (h2 : wD M' w) (hc : cV M') : cP M M' := by
  have hl := isK_le hw
  refine ⟨⟨h.1.fr hf (by simp; omega) (by simp; omega) (by simp; omega), fun v hv => ?_, hc⟩, cF.of hf (by simp; omega), by rw [hf 1 (by simp; omega)]⟩
  by_cases e : v = w
  · subst e
    exact ⟨h1, h2⟩
  · have := isK_le hv.k
    have := wk_ap hv.k hw e
    exact wV.me (h.2.1 v hv) (hf v (by simp; omega)) (hf (v + 1) (by simp; omega)) (hf 2 (by simp; omega))
theorem cV.to {M M' : mm_M} (h : cV M) (h1 : M' 16 = M 16) (h2 : M 16 1 ≠ 0 → M 16 4 = 0 → M (M 16 1).toNat 2 ≤ M' (M 16 1).toNat 2) : cV M' := by
  obtain ⟨a, b, c⟩ := h
  unfold cV
  rw [h1]
  refine ⟨a, b, fun h3 h4 => ?_⟩
  have := c h3 h4
  have := h2 h3 h4
  omega
theorem cV.lost {M : mm_M} (h : M 16 1 = 0 ∨ isW3 (M 16 1).toNat) (h1 : M 16 4 = 1) : cV M := ⟨h, Or.inr h1, fun _ h3 => by omega⟩
theorem cV_0 {M : mm_M} (h : cV M) (h0 : (M 16 1).toNat = 0) : M 16 1 = 0 := by
  rcases h.1 with e | e
  · exact e
  · unfold isW3 at e
    omega
theorem cV_k {M : mm_M} (h : cV M) (h0 : (M 16 1).toNat ≠ 0) : isW3 (M 16 1).toNat := h.1.resolve_left (by omega)
def sp_X0_standOn : mm_S := fun av M d Q => match av with
  | [.inr (.inr (.inl o)), .inr (.inr (.inl w)), .inl p] =>  o = 16 ∧ isW3 w ∧ Q (.inl none) (mm_up (mm_up (mm_up (mm_up M 16 1 w) 16 2 p) 16 3 (-1)) 16 4 0) d
  | _ => False
def ct_X0_standOn : List (Nat × mm_Ca) := []
abbrev rr_X0_standOn (Q : mm_Q) := mm_run (mm_look flX0) (mm_look ct_X0_standOn) mm_x0 (mm_look ([] : List (Nat × Int))) (fun _ => none) 0 0 (fun _ _ => none) Q kdX0_standOn
set_option maxRecDepth 20000 in
theorem rn_X0_standOn : mm_RN flX0 ct_X0_standOn mm_x0 [] 0 0 3 kdX0_standOn sp_X0_standOn := by
  intro av M d Q h
  unfold sp_X0_standOn at h
  split at h
  · rename_i o w p
    obtain ⟨rfl, hw, hq⟩ := h
    have hk := hw.k
    refine ⟨Nat.le_of_ble_eq_true rfl, mm_run_at (stop := []) (S := mm_F0) kkX0_standOn 80 ?_ mm_F0h⟩
    simp only [mm_wp, mm_op, mm_nxt, mm_jmp, mm_at, mm_in, mm_nth, mm_set, mm_ok, mm_isL, mm_ret, mm_isRet, mm_bool, mm_call, mm_push, mm_rv, mm_cats, mm_cat, mm_look, mm_ft, mm_fv, mm_pf, mm_thr, mm_ent, mm_pad, mm_fl, beq_self_eq_true, cond_true, cond_false, Nat.reduceBEq, Nat.reduceEqDiff, List.drop_succ_cons, List.drop_zero, List.take_succ_cons, List.take_zero, List.reverse_cons, List.reverse_nil, List.nil_append, List.cons_append, List.length_cons, List.length_nil, Nat.reduceAdd, Nat.reduceSub, Nat.reduceLeDiff, Bool.not_false, Bool.and_true, Bool.true_and, Nat.zero_add, true_and, and_true, Nat.le_refl, true_or, or_true, reduceCtorEq, Nat.add_zero, Nat.reduceLT, Bool.and_self, Bool.not_true, Fin.isValue, Nat.reduceLeDiff, List.take_nil, List.drop_nil, mm_i1, mm_i2, mm_i3, mm_i4, mm_i5, mm_i6, mm_i7, mm_i16, mm_i17, mm_i18, mm_i19, mm_i20, mm_i21, mm_i22, mm_i23, mm_l3, mm_l4, mm_l5, mm_l6, mm_l7, mm_l18, mm_l19, mm_l20, mm_l21, mm_l22, kdX0_standOn, ct_X0_standOn, flX0, wk_is hk, wk_mm hk]
    repeat' (first | assumption | apply And.intro | (intro _) | apply hq)
    all_goals (try simp only [InI] at *)
    all_goals first | omega | ((repeat' split) <;> omega)
  · exact h.elim
theorem plX0 : plainName RX0 = true := by decide
theorem n9X0 : ∀ q ∈ flX0, q.2.2 < 90 := by decide
theorem me_X0_standOn {l : Launch} (hl : l.stackTraces = false) : mm_Met l yX0_standOn cX0_standOn 3 none [] 6 100 0 sp_X0_standOn := mm_mt hl rn_X0_standOn ⟨plX0, rfl⟩ kkX0_standOn rfl ⟨Nat.le_of_ble_eq_true rfl, Nat.le_of_ble_eq_true rfl⟩ flkX0 (fun _ h => nomatch h) (trivial) (mm_xe0 _) n9X0
def sp_X0_vanish : mm_S := fun av M d Q => match av with
  | [.inr (.inr (.inl o))] =>  o = 16 ∧ Q (.inl none) (mm_up M 16 1 0) d
  | _ => False
def ct_X0_vanish : List (Nat × mm_Ca) := []
abbrev rr_X0_vanish (Q : mm_Q) := mm_run (mm_look flX0) (mm_look ct_X0_vanish) mm_x0 (mm_look ([] : List (Nat × Int))) (fun _ => none) 0 0 (fun _ _ => none) Q kdX0_vanish
set_option maxRecDepth 20000 in
theorem rn_X0_vanish : mm_RN flX0 ct_X0_vanish mm_x0 [] 0 0 1 kdX0_vanish sp_X0_vanish := by
  intro av M d Q h
  unfold sp_X0_vanish at h
  split at h
  · rename_i o
    obtain ⟨rfl, hq⟩ := h
    refine ⟨Nat.le_of_ble_eq_true rfl, mm_run_at (stop := []) (S := mm_F0) kkX0_vanish 80 ?_ mm_F0h⟩
    simp only [mm_wp, mm_op, mm_nxt, mm_jmp, mm_at, mm_in, mm_nth, mm_set, mm_ok, mm_isL, mm_ret, mm_isRet, mm_bool, mm_call, mm_push, mm_rv, mm_cats, mm_cat, mm_look, mm_ft, mm_fv, mm_pf, mm_thr, mm_ent, mm_pad, mm_fl, beq_self_eq_true, cond_true, cond_false, Nat.reduceBEq, Nat.reduceEqDiff, List.drop_succ_cons, List.drop_zero, List.take_succ_cons, List.take_zero, List.reverse_cons, List.reverse_nil, List.nil_append, List.cons_append, List.length_cons, List.length_nil, Nat.reduceAdd, Nat.reduceSub, Nat.reduceLeDiff, Bool.not_false, Bool.and_true, Bool.true_and, Nat.zero_add, true_and, and_true, Nat.le_refl, true_or, or_true, reduceCtorEq, Nat.add_zero, Nat.reduceLT, Bool.and_self, Bool.not_true, Fin.isValue, Nat.reduceLeDiff, List.take_nil, List.drop_nil, mm_i1, mm_i2, mm_i3, mm_i4, mm_i5, mm_i6, mm_i7, mm_i16, mm_i17, mm_i18, mm_i19, mm_i20, mm_i21, mm_i22, mm_i23, mm_l3, mm_l4, mm_l5, mm_l6, mm_l7, mm_l18, mm_l19, mm_l20, mm_l21, mm_l22, kdX0_vanish, ct_X0_vanish, flX0]
    repeat' (first | assumption | apply And.intro | (intro _) | apply hq)
    all_goals (try simp only [InI] at *)
    all_goals first | omega | ((repeat' split) <;> omega)
  · exact h.elim
theorem me_X0_vanish {l : Launch} (hl : l.stackTraces = false) : mm_Met l yX0_vanish cX0_vanish 1 none [] 6 100 0 sp_X0_vanish := mm_mt hl rn_X0_vanish ⟨plX0, rfl⟩ kkX0_vanish rfl ⟨Nat.le_of_ble_eq_true rfl, Nat.le_of_ble_eq_true rfl⟩ flkX0 (fun _ h => nomatch h) (trivial) (mm_xe0 _) n9X0
def sp_X0_loseOn : mm_S := fun av M d Q => match av with
  | [.inr (.inr (.inl o)), .inr (.inr (.inl w))] =>  o = 16 ∧ (M 16 1 = 0 ∨ isW3 (M 16 1).toNat) ∧ isK w ∧ ∀ M', ((M 16 1 = w ∧ M' = mm_up M 16 4 1) ∨ (M 16 1 ≠ w ∧ M' = M)) → Q (.inl none) M' d
  | _ => False
def ct_X0_loseOn : List (Nat × mm_Ca) := []
abbrev rr_X0_loseOn (Q : mm_Q) := mm_run (mm_look flX0) (mm_look ct_X0_loseOn) mm_x0 (mm_look ([] : List (Nat × Int))) (fun _ => none) 0 0 (fun _ _ => none) Q kdX0_loseOn
set_option maxRecDepth 20000 in
theorem rn_X0_loseOn : mm_RN flX0 ct_X0_loseOn mm_x0 [] 0 0 2 kdX0_loseOn sp_X0_loseOn := by
  intro av M d Q h
  unfold sp_X0_loseOn at h
  split at h
  · rename_i o w
    obtain ⟨rfl, hc, hw, hq⟩ := h
    refine ⟨Nat.le_of_ble_eq_true rfl, mm_run_at (stop := []) (S := mm_F0) kkX0_loseOn 80 ?_ mm_F0h⟩
    simp only [mm_wp, mm_op, mm_nxt, mm_jmp, mm_at, mm_in, mm_nth, mm_set, mm_ok, mm_isL, mm_ret, mm_isRet, mm_bool, mm_call, mm_push, mm_rv, mm_cats, mm_cat, mm_look, mm_ft, mm_fv, mm_pf, mm_thr, mm_ent, mm_pad, mm_fl, beq_self_eq_true, cond_true, cond_false, Nat.reduceBEq, Nat.reduceEqDiff, List.drop_succ_cons, List.drop_zero, List.take_succ_cons, List.take_zero, List.reverse_cons, List.reverse_nil, List.nil_append, List.cons_append, List.length_cons, List.length_nil, Nat.reduceAdd, Nat.reduceSub, Nat.reduceLeDiff, Bool.not_false, Bool.and_true, Bool.true_and, Nat.zero_add, true_and, and_true, Nat.le_refl, true_or, or_true, reduceCtorEq, Nat.add_zero, Nat.reduceLT, Bool.and_self, Bool.not_true, Fin.isValue, Nat.reduceLeDiff, List.take_nil, List.drop_nil, mm_i1, mm_i2, mm_i3, mm_i4, mm_i5, mm_i6, mm_i7, mm_i16, mm_i17, mm_i18, mm_i19, mm_i20, mm_i21, mm_i22, mm_i23, mm_l3, mm_l4, mm_l5, mm_l6, mm_l7, mm_l18, mm_l19, mm_l20, mm_l21, mm_l22, kdX0_loseOn, ct_X0_loseOn, flX0, wk_is hw, wk_mm hw]
    have hz := wk_no hw
    refine ⟨?_, fun h => ?_, fun h => ?_⟩
    · rcases hc with h1 | h1
      · exact Or.inl (by omega)
      · exact Or.inr (wk_mm h1.k d)
    · refine hq _ (Or.inr ⟨fun e => h ?_, rfl⟩)
      omega
    · exact hq _ (Or.inl ⟨by omega, rfl⟩)
  · exact h.elim
theorem me_X0_loseOn {l : Launch} (hl : l.stackTraces = false) : mm_Met l yX0_loseOn cX0_loseOn 2 none [] 6 100 0 sp_X0_loseOn := mm_mt hl rn_X0_loseOn ⟨plX0, rfl⟩ kkX0_loseOn rfl ⟨Nat.le_of_ble_eq_true rfl, Nat.le_of_ble_eq_true rfl⟩ flkX0 (fun _ h => nomatch h) (trivial) (mm_xe0 _) n9X0
def sp_X0_hasStep : mm_S := fun av M d Q => match av with
  | [.inr (.inr (.inl o)), .inl f] =>  o = 16 ∧ wA M ∧ (f = 0 ∨ f = 1) ∧ ∀ r, (r = 0 ∨ r = 1) ∧ (r = 1 ↔ hsP M f) → Q (.inl (some (mm_I r))) M d
  | _ => False
def ct_X0_hasStep : List (Nat × mm_Ca) := [(66, (0, 1, 12, sp_X2_size, 0))]
abbrev rr_X0_hasStep (Q : mm_Q) := mm_run (mm_look flX0) (mm_look ct_X0_hasStep) mm_x0 (mm_look ([] : List (Nat × Int))) (fun _ => none) 2 0 (fun _ _ => none) Q kdX0_hasStep
set_option maxRecDepth 20000 in
theorem rn_X0_hasStep : mm_RN flX0 ct_X0_hasStep mm_x0 [] 2 0 3 kdX0_hasStep sp_X0_hasStep := by
  intro av M d Q h
  unfold sp_X0_hasStep at h
  split at h
  · rename_i o f
    obtain ⟨rfl, ha, hf, hq⟩ := h
    have hc := ha.2.2
    have hno : ¬ hsP M f → Q (.inl (some (mm_I 0))) M d := fun h => hq 0 ⟨Or.inl rfl, fun h2 => by omega, fun h2 => absurd h2 h⟩
    have hyes : hsP M f → Q (.inl (some (mm_I 1))) M d := fun h => hq 1 ⟨Or.inr rfl, fun _ => h, fun _ => rfl⟩
    refine ⟨Nat.le_of_ble_eq_true rfl, mm_run_at (stop := []) (S := mm_F0) kkX0_hasStep 80 ?_ mm_F0h⟩
    simp only [mm_wp, mm_op, mm_nxt, mm_jmp, mm_at, mm_in, mm_nth, mm_set, mm_ok, mm_isL, mm_ret, mm_isRet, mm_bool, mm_call, mm_push, mm_rv, mm_cats, mm_cat, mm_look, mm_ft, mm_fv, mm_pf, mm_thr, mm_ent, mm_pad, mm_fl, beq_self_eq_true, cond_true, cond_false, Nat.reduceBEq, Nat.reduceEqDiff, List.drop_succ_cons, List.drop_zero, List.take_succ_cons, List.take_zero, List.reverse_cons, List.reverse_nil, List.nil_append, List.cons_append, List.length_cons, List.length_nil, Nat.reduceAdd, Nat.reduceSub, Nat.reduceLeDiff, Bool.not_false, Bool.and_true, Bool.true_and, Nat.zero_add, true_and, and_true, Nat.le_refl, true_or, or_true, reduceCtorEq, Nat.add_zero, Nat.reduceLT, Bool.and_self, Bool.not_true, Fin.isValue, Nat.reduceLeDiff, List.take_nil, List.drop_nil, mm_i1, mm_i2, mm_i3, mm_i4, mm_i5, mm_i6, mm_i7, mm_i16, mm_i17, mm_i18, mm_i19, mm_i20, mm_i21, mm_i22, mm_i23, mm_l3, mm_l4, mm_l5, mm_l6, mm_l7, mm_l18, mm_l19, mm_l20, mm_l21, mm_l22, kdX0_hasStep, ct_X0_hasStep, flX0, sp_X2_size]
    refine ⟨fun h => hno (fun h2 => h2.1 (cV_0 hc h)), fun h0 => ?_⟩
    have hk3 := cV_k hc h0
    have hk := hk3.k
    have v1 := (ha.2.1 _ hk3).1.1
    have c2 := hc.2.1
    have c3 := hc.2.2 (by omega)
    refine ⟨⟨by omega, by omega⟩, fun h1 => ?_, fun h1 => hno (fun h => h1 h.2.1)⟩
    have c4 := c3 h1
    have h00 : M 16 1 ≠ 0 := by omega
    refine ⟨⟨by omega, by omega⟩, fun h2 => ⟨⟨by omega, by omega⟩, fun h3 => hno (fun h => by have := h.2.2.2 h2; omega), fun h3 => ⟨wk_is hk _ _, hk, ⟨by omega, by omega⟩, ⟨by omega, by omega⟩, fun h4 => by omega, fun h4 => hyes ⟨h00, h1, fun h => absurd h2 h, fun _ => by omega⟩⟩⟩, fun h2 => ⟨⟨by omega, by omega⟩, fun h3 => by omega, fun h3 => ⟨wk_is hk _ _, hk, ⟨by omega, by omega⟩, ⟨by omega, by omega⟩, fun h4 => hno (fun h => by have := h.2.2.1 h2; omega), fun h4 => hyes ⟨h00, h1, fun _ => by omega, fun h => absurd h h2⟩⟩⟩⟩
  · exact h.elim
theorem me_X0_hasStep {l : Launch} (hl : l.stackTraces = false) : mm_Met l yX0_hasStep cX0_hasStep 3 (some .boolean) [] 7 120 0 sp_X0_hasStep := mm_mt hl rn_X0_hasStep ⟨plX0, rfl⟩ kkX0_hasStep rfl ⟨Nat.le_of_ble_eq_true rfl, Nat.le_of_ble_eq_true rfl⟩ flkX0 (fun _ h => nomatch h) (⟨mm_pe (me_X2_size hl) mwX2_size (mm_t2 43 rfl rfl) (Nat.le_of_ble_eq_true rfl) (Nat.le_of_ble_eq_true rfl), trivial⟩) (mm_xe0 _) n9X0
def sp_X0_placeAsked : mm_S := fun av M d Q => match av with
  | [.inr (.inr (.inl o)), .inl f] =>  o = 16 ∧ wA M ∧ (f = 0 ∨ f = 1) ∧ ∀ r, (-2 ≤ r ∧ r ≤ 30) ∧ r = paF M f → Q (.inl (some (mm_I r))) M d
  | _ => False
def ct_X0_placeAsked : List (Nat × mm_Ca) := []
abbrev rr_X0_placeAsked (Q : mm_Q) := mm_run (mm_look flX0) (mm_look ct_X0_placeAsked) mm_x0 (mm_look ([] : List (Nat × Int))) (fun _ => none) 1 0 (fun _ _ => none) Q kdX0_placeAsked
set_option maxRecDepth 20000 in
theorem rn_X0_placeAsked : mm_RN flX0 ct_X0_placeAsked mm_x0 [] 1 0 2 kdX0_placeAsked sp_X0_placeAsked := by
  intro av M d Q h
  unfold sp_X0_placeAsked at h
  split at h
  · rename_i o f
    obtain ⟨rfl, ha, hf, hq⟩ := h
    have hc := ha.2.2
    refine ⟨Nat.le_of_ble_eq_true rfl, mm_run_at (stop := []) (S := mm_F0) kkX0_placeAsked 80 ?_ mm_F0h⟩
    simp only [mm_wp, mm_op, mm_nxt, mm_jmp, mm_at, mm_in, mm_nth, mm_set, mm_ok, mm_isL, mm_ret, mm_isRet, mm_bool, mm_call, mm_push, mm_rv, mm_cats, mm_cat, mm_look, mm_ft, mm_fv, mm_pf, mm_thr, mm_ent, mm_pad, mm_fl, beq_self_eq_true, cond_true, cond_false, Nat.reduceBEq, Nat.reduceEqDiff, List.drop_succ_cons, List.drop_zero, List.take_succ_cons, List.take_zero, List.reverse_cons, List.reverse_nil, List.nil_append, List.cons_append, List.length_cons, List.length_nil, Nat.reduceAdd, Nat.reduceSub, Nat.reduceLeDiff, Bool.not_false, Bool.and_true, Bool.true_and, Nat.zero_add, true_and, and_true, Nat.le_refl, true_or, or_true, reduceCtorEq, Nat.add_zero, Nat.reduceLT, Bool.and_self, Bool.not_true, Fin.isValue, Nat.reduceLeDiff, List.take_nil, List.drop_nil, mm_i1, mm_i2, mm_i3, mm_i4, mm_i5, mm_i6, mm_i7, mm_i16, mm_i17, mm_i18, mm_i19, mm_i20, mm_i21, mm_i22, mm_i23, mm_l3, mm_l4, mm_l5, mm_l6, mm_l7, mm_l18, mm_l19, mm_l20, mm_l21, mm_l22, kdX0_placeAsked, ct_X0_placeAsked, flX0]
    have hno : ¬ (M 16 1 ≠ 0 ∧ M 16 4 = 0) → (-128 ≤ (-2 : Int) ∧ (-2 : Int) < 128) ∧ Q (.inl (some (mm_I (-2)))) M d := fun h => ⟨by omega, hq _ ⟨by omega, by unfold paF; rw [if_neg h]⟩⟩
    refine ⟨fun h0 => hno (fun h => h.1 (cV_0 hc h0)), fun h0 => ?_⟩
    have hk3 := cV_k hc h0
    have hk := hk3.k
    have v1 := (ha.2.1 _ hk3).1.1
    have c2 := hc.2.1
    have c3 := hc.2.2 (by omega)
    refine ⟨⟨by omega, by omega⟩, fun h1 => ?_, fun h1 => hno (fun h => h1 h.2)⟩
    have c4 := c3 h1
    have h00 : M 16 1 ≠ 0 := by omega
    refine ⟨⟨by omega, by omega⟩, fun h2 => hq _ ⟨by omega, by unfold paF; rw [if_pos ⟨h00, h1⟩, if_pos h2]⟩, fun h2 => hq _ ⟨by omega, by unfold paF; rw [if_pos ⟨h00, h1⟩, if_neg h2]⟩⟩
  · exact h.elim
theorem me_X0_placeAsked {l : Launch} (hl : l.stackTraces = false) : mm_Met l yX0_placeAsked cX0_placeAsked 2 (some .int) [] 6 100 0 sp_X0_placeAsked := mm_mt hl rn_X0_placeAsked ⟨plX0, rfl⟩ kkX0_placeAsked rfl ⟨Nat.le_of_ble_eq_true rfl, Nat.le_of_ble_eq_true rfl⟩ flkX0 (fun _ h => nomatch h) (trivial) (mm_xe0 _) n9X0
def sp_X0_tell : mm_S := fun av M d Q => match av with
  | [.inr (.inr (.inl o)), .inl f] =>  o = 16 ∧ wA M ∧ (f = 0 ∨ f = 1) ∧ ∀ M' r, cP M M' ∧ (-9 ≤ r ∧ r ≤ 60) ∧ tlR M M' f r → Q (.inl (some (mm_I r))) M' d
  | _ => False
def ct_X0_tell : List (Nat × mm_Ca) := [(30, (0, 2, 13, sp_X0_hasStep, 0)), (34, (0, 2, 13, sp_X0_placeAsked, 0)), (38, (0, 2, 12, sp_X2_stepOf, 0))]
abbrev rr_X0_tell (Q : mm_Q) := mm_run (mm_look flX0) (mm_look ct_X0_tell) mm_x0 (mm_look ([] : List (Nat × Int))) (fun _ => none) 1 0 (fun _ _ => none) Q kdX0_tell
set_option maxRecDepth 20000 in
theorem rn_X0_tell : mm_RN flX0 ct_X0_tell mm_x0 [] 1 0 2 kdX0_tell sp_X0_tell := by
  intro av M d Q h
  unfold sp_X0_tell at h
  split at h
  · rename_i o f
    obtain ⟨rfl, ha, hf, hq⟩ := h
    have hc := ha.2.2
    have t1 := ha.1.1
    have fin : hsP M f → ∀ M2 : mm_M, M2 16 3 = tlP M f → M2 16 2 = (if f = 0 then M 16 2 - 1 else M 16 2 + 1) → fr [16] M M2 → (M 16 1).toNat ≠ 0 → M 16 4 = 0 → M2 16 1 = M 16 1 → M2 16 4 = M 16 4 → (0 ≤ M2 16 2 ∧ M2 16 2 ≤ M (M 16 1).toNat 2) → (0 ≤ M2 16 3 ∧ M2 16 3 < M (M 16 1).toNat 2) → ((M2 16 1).toNat ≠ 0 → mm_is M2 d (M2 16 1).toNat 12 ∧ isK (M2 16 1).toNat ∧ tW M2 ∧ wV M2 (M2 16 1).toNat ∧ InI (M2 16 3) ∧ ∀ r_1 : Int, r_1 = stp M2 (M2 16 1).toNat (M2 16 3) ∧ -1 ≤ r_1 ∧ r_1 < 2 * M2 2 4 → Q (Sum.inl (some (mm_I r_1))) M2 d) ∧ ((M2 16 1).toNat = 0 → (-128 ≤ (-9 : Int) ∧ (-9 : Int) < 128) ∧ Q (Sum.inl (some (mm_I (-9)))) M2 d) := by
      intro hst M2 et ep h1 h2 h3 h4 h5 h6 h7
      have hk3 := cV_k hc h2
      have hk := hk3.k
      have hl := isK_le hk
      have e : M2 (M 16 1).toNat = M (M 16 1).toNat := h1 _ (by simp; omega)
      have v1 := (ha.2.1 _ hk3).1.1
      have hc2 : cV M2 := ⟨by rw [h4]; exact hc.1, by rw [h5]; exact hc.2.1, fun _ _ => by rw [h4, e]; omega⟩
      have hP := ha.c h1 hc2
      rw [h4]
      refine ⟨fun _ => ⟨wk_is hk _ _, hk, hP.1.1, (hP.1.2.1 _ hk3).1, ⟨by omega, by omega⟩, fun r hr => hq _ _ ⟨hP, ?_, Or.inr ⟨hst, ?_, h1, h4, h5, et, ep⟩⟩⟩, fun h => absurd h h2⟩
      · rw [h1 2 (by simp)] at hr
        omega
      · rw [hr.1]
        unfold stp
        rw [if_pos (by rw [e]; omega), et, h1 _ (by simp; omega)]
    refine ⟨Nat.le_of_ble_eq_true rfl, mm_run_at (stop := []) (S := mm_F0) kkX0_tell 80 ?_ mm_F0h⟩
    simp only [mm_wp, mm_op, mm_nxt, mm_jmp, mm_at, mm_in, mm_nth, mm_set, mm_ok, mm_isL, mm_ret, mm_isRet, mm_bool, mm_call, mm_push, mm_rv, mm_cats, mm_cat, mm_look, mm_ft, mm_fv, mm_pf, mm_thr, mm_ent, mm_pad, mm_fl, beq_self_eq_true, cond_true, cond_false, Nat.reduceBEq, Nat.reduceEqDiff, List.drop_succ_cons, List.drop_zero, List.take_succ_cons, List.take_zero, List.reverse_cons, List.reverse_nil, List.nil_append, List.cons_append, List.length_cons, List.length_nil, Nat.reduceAdd, Nat.reduceSub, Nat.reduceLeDiff, Bool.not_false, Bool.and_true, Bool.true_and, Nat.zero_add, true_and, and_true, Nat.le_refl, true_or, or_true, reduceCtorEq, Nat.add_zero, Nat.reduceLT, Bool.and_self, Bool.not_true, Fin.isValue, Nat.reduceLeDiff, List.take_nil, List.drop_nil, mm_i1, mm_i2, mm_i3, mm_i4, mm_i5, mm_i6, mm_i7, mm_i16, mm_i17, mm_i18, mm_i19, mm_i20, mm_i21, mm_i22, mm_i23, mm_l3, mm_l4, mm_l5, mm_l6, mm_l7, mm_l18, mm_l19, mm_l20, mm_l21, mm_l22, kdX0_tell, ct_X0_tell, flX0, sp_X0_hasStep, sp_X0_placeAsked, sp_X2_stepOf]
    refine ⟨ha, hf, fun r hr => ⟨by rcases hr.1 with h | h <;> subst h <;> exact ⟨by omega, by omega⟩, fun h => ⟨ha, hf, fun r2 hr2 => ?_⟩, fun h => ⟨by omega, hq M _ ⟨ha.rf, by omega, Or.inl ⟨fun h2 => by have := hr.2.mpr h2; omega, rfl, rfl⟩⟩⟩⟩⟩
    have hst := hr.2.mp (by omega)
    obtain ⟨a1', a2, a3, a4⟩ := id hst
    have a1 : (M 16 1).toNat ≠ 0 := fun h => a1' (cV_0 hc h)
    have c3 := hc.2.2 (by omega) a2
    have b1 : r2 = tlP M f := by rw [hr2.2]; unfold paF tlP; rw [if_pos ⟨a1', a2⟩]
    have b2 : tlP M f = (if f = 0 then M 16 2 - 1 else M 16 2) := rfl
    rw [b1]
    refine ⟨⟨by omega, by omega⟩, fun h0 => ?_, fun h0 => ?_⟩
    · rw [if_pos h0] at b2
      have := a4 h0
      exact fin hst _ (by simp [mm_up]) (by simp [mm_up, h0]) ((fr.rf.up (by simp)).up (by simp)) a1 a2 (by simp [mm_up]) (by simp [mm_up]) (by simp [mm_up]; omega) (by simp [mm_up]; omega)
    · rw [if_neg h0] at b2
      have := a3 h0
      exact fin hst _ (by simp [mm_up]) (by simp [mm_up, h0]) ((fr.rf.up (by simp)).up (by simp)) a1 a2 (by simp [mm_up]) (by simp [mm_up]) (by simp [mm_up]; omega) (by simp [mm_up]; omega)
  · exact h.elim
theorem me_X0_tell {l : Launch} (hl : l.stackTraces = false) : mm_Met l yX0_tell cX0_tell 2 (some .int) [] 8 142 0 sp_X0_tell := mm_mt hl rn_X0_tell ⟨plX0, rfl⟩ kkX0_tell rfl ⟨Nat.le_of_ble_eq_true rfl, Nat.le_of_ble_eq_true rfl⟩ flkX0 (fun _ h => nomatch h) (⟨mm_pe (me_X0_hasStep hl) mwX0_hasStep (mm_t2 39 rfl rfl) (Nat.le_of_ble_eq_true rfl) (Nat.le_of_ble_eq_true rfl), mm_pe (me_X0_placeAsked hl) mwX0_placeAsked (mm_t2 47 rfl rfl) (Nat.le_of_ble_eq_true rfl) (Nat.le_of_ble_eq_true rfl), mm_pe (me_X2_stepOf hl) mwX2_stepOf (mm_t2 51 rfl rfl) (Nat.le_of_ble_eq_true rfl) (Nat.le_of_ble_eq_true rfl), trivial⟩) (mm_xe0 _) n9X0
def sp_X0_exchangeTold : mm_S := fun av M d Q => match av with
  | [.inr (.inr (.inl o)), .inl s] =>  o = 16 ∧ wA M ∧ (0 ≤ s ∧ s < M 2 4) ∧ ∀ M' r, cP M M' ∧ (-9 ≤ r ∧ r ≤ 60) ∧ etR M M' s r → Q (.inl (some (mm_I r))) M' d
  | _ => False
def ct_X0_exchangeTold : List (Nat × mm_Ca) := [(38, (0, 2, 12, sp_X2_stepOf, 0)), (44, (0, 2, 12, sp_X2_placeOf, 0)), (47, (0, 2, 11, sp_X1_sourceOf, 0)), (52, (0, 2, 11, sp_X1_goalOf, 0)), (55, (0, 4, 11, sp_X1_between, 0)), (59, (0, 3, 12, sp_X2_exchange, 0))]
abbrev rr_X0_exchangeTold (Q : mm_Q) := mm_run (mm_look flX0) (mm_look ct_X0_exchangeTold) mm_x0 (mm_look ([] : List (Nat × Int))) (fun _ => none) 1 0 (fun _ _ => none) Q kdX0_exchangeTold
set_option maxRecDepth 20000 in
theorem rn_X0_exchangeTold : mm_RN flX0 ct_X0_exchangeTold mm_x0 [] 1 0 5 kdX0_exchangeTold sp_X0_exchangeTold := by
  intro av M d Q h
  unfold sp_X0_exchangeTold at h
  split at h
  · rename_i o s
    obtain ⟨rfl, ha, hs, hq⟩ := h
    have hc := ha.2.2
    have t1 := ha.1.1
    have hno : ¬ etP M s → (-128 ≤ (-9 : Int) ∧ (-9 : Int) < 128) ∧ Q (.inl (some (mm_I (-9)))) M d := fun h => ⟨by omega, hq M (-9) ⟨ha.rf, by omega, Or.inl ⟨h, rfl, rfl⟩⟩⟩
    refine ⟨Nat.le_of_ble_eq_true rfl, mm_run_at (stop := []) (S := mm_F0) kkX0_exchangeTold 80 ?_ mm_F0h⟩
    simp only [mm_wp, mm_op, mm_nxt, mm_jmp, mm_at, mm_in, mm_nth, mm_set, mm_ok, mm_isL, mm_ret, mm_isRet, mm_bool, mm_call, mm_push, mm_rv, mm_cats, mm_cat, mm_look, mm_ft, mm_fv, mm_pf, mm_thr, mm_ent, mm_pad, mm_fl, beq_self_eq_true, cond_true, cond_false, Nat.reduceBEq, Nat.reduceEqDiff, List.drop_succ_cons, List.drop_zero, List.take_succ_cons, List.take_zero, List.reverse_cons, List.reverse_nil, List.nil_append, List.cons_append, List.length_cons, List.length_nil, Nat.reduceAdd, Nat.reduceSub, Nat.reduceLeDiff, Bool.not_false, Bool.and_true, Bool.true_and, Nat.zero_add, true_and, and_true, Nat.le_refl, true_or, or_true, reduceCtorEq, Nat.add_zero, Nat.reduceLT, Bool.and_self, Bool.not_true, Fin.isValue, Nat.reduceLeDiff, List.take_nil, List.drop_nil, mm_i1, mm_i2, mm_i3, mm_i4, mm_i5, mm_i6, mm_i7, mm_i16, mm_i17, mm_i18, mm_i19, mm_i20, mm_i21, mm_i22, mm_i23, mm_l3, mm_l4, mm_l5, mm_l6, mm_l7, mm_l18, mm_l19, mm_l20, mm_l21, mm_l22, kdX0_exchangeTold, ct_X0_exchangeTold, flX0, sp_X2_stepOf, sp_X2_placeOf, sp_X1_sourceOf, sp_X1_goalOf, sp_X1_between, sp_X2_exchange]
    refine ⟨fun h => hno (fun h2 => h2.1.1 (cV_0 hc h)), fun h0 => ?_⟩
    have hk3 := cV_k hc h0
    have hk := hk3.k
    have hl := isK_le hk
    obtain ⟨hv, hD⟩ := ha.2.1 _ hk3
    have v1 := hv.1
    have c2 := hc.2.1
    have c3 := hc.2.2 (by omega)
    refine ⟨⟨by omega, by omega⟩, fun h => hno (fun h2 => h h2.1.2.1), fun h1 => ?_⟩
    have c4 := c3 h1
    refine ⟨⟨by omega, by omega⟩, fun h2 => ⟨wk_is hk _ _, hk, ha.1, hv, ⟨by omega, by omega⟩, fun r hr => ?_⟩, fun h => hno (fun h2 => by have := h2.1.2.2; omega)⟩
    have er : r = M ((M 16 1).toNat + 1) (M 16 3).toNat := by
      rw [hr.1]
      unfold stp
      rw [if_pos (by omega)]
    have hsr := hv.2.2 (M 16 3).toNat (by omega)
    have e00 : M 16 1 ≠ 0 := by omega
    have fin : ∀ r2 r5 : Int, (((r2 = -1 ∧ ∀ i : Nat, i < M (M 16 1).toNat 2 → M ((M 16 1).toNat + 1) i / 2 ≠ s) ∨ (0 ≤ r2 ∧ r2 < M (M 16 1).toNat 2 ∧ M ((M 16 1).toNat + 1) r2.toNat / 2 = s ∧ ∀ i : Nat, i < r2 → M ((M 16 1).toNat + 1) i / 2 ≠ s))) → (-1 ≤ r5 ∧ r5 < 2 * M 2 4 ∧ (0 ≤ r5 → r5 / 2 = s)) → r5 = etS M s → 0 ≤ r5 → wN M (M 16 1).toNat (r5 / 2) ∨ r2 = M 16 3 → mm_is M d (M 16 1).toNat 12 ∧ isK (M 16 1).toNat ∧ wV M (M 16 1).toNat ∧ InI (M 16 3) ∧ (0 ≤ M 16 3 → M 16 3 < M (M 16 1).toNat 2 → Q (.inl (some (mm_I r))) (mm_up M ((M 16 1).toNat + 1) (M 16 3).toNat r5) d) ∧ (¬ (0 ≤ M 16 3 ∧ M 16 3 < M (M 16 1).toNat 2) → Q (.inl (some (mm_I r))) M d) := by
      intro r2 r5 hr2 hr5 e5 h5 h6
      have hP : etP M s := ⟨⟨e00, h1, by omega⟩, by omega, fun i hi e => by
        rcases h6 with h6 | h6
        · exact absurd (by rw [hr5.2.2 h5]; exact e) (h6 i hi)
        · rcases hr2 with h7 | h7
          · omega
          · have := hD i (M 16 3).toNat hi (by omega) (by rw [e, ← h7.2.2.1, h6])
            omega⟩
      refine ⟨wk_is hk _ _, hk, hv, ⟨by omega, by omega⟩, fun _ _ => hq _ _ ⟨ha.w hk ((fr.rf.up (by simp))) (hv.st ⟨h5, by omega⟩ hk) ?_ (hc.to (by rw [mm_up_o _ (by omega)]) (fun _ _ => by rw [mm_up_o _ (by omega)]; exact Int.le_refl _)), by omega, Or.inr ⟨hP, er, by rw [e5]⟩⟩, fun h => by omega⟩
      intro x y hx hy e
      rw [mm_up_o _ (by omega)] at hx hy
      have hz := hr5.2.2 h5
      have key : ∀ z : Nat, z < M (M 16 1).toNat 2 → z ≠ (M 16 3).toNat → M ((M 16 1).toNat + 1) z / 2 ≠ r5 / 2 := by
        intro z hz1 hz2 e9
        rcases h6 with h6 | h6
        · exact h6 z hz1 e9
        · rcases hr2 with h7 | h7
          · omega
          · refine hz2 (hD z (M 16 3).toNat hz1 (by omega) ?_)
            rw [e9, hz, ← h7.2.2.1, h6]
      simp only [mm_up, true_and] at e
      by_cases ex : x = (M 16 3).toNat
      · by_cases ey : y = (M 16 3).toNat
        · omega
        · rw [if_pos ex, if_neg ey] at e
          exact absurd e.symm (key y hy ey)
      · by_cases ey : y = (M 16 3).toNat
        · rw [if_neg ex, if_pos ey] at e
          exact absurd e (key x hx ex)
        · rw [if_neg ex, if_neg ey] at e
          exact hD x y hx hy e
    refine ⟨wk_is hk _ _, hk, ha.1, hv, ⟨by omega, by omega⟩, fun r2 hr2 => ⟨ha.1, by omega, fun r3 hr3 => ⟨ha.1, by omega, fun r4 hr4 => ⟨ha.1, hs, ⟨by omega, by omega⟩, ⟨by omega, by omega⟩, fun r5 hr5 => ?_⟩⟩⟩⟩
    have e5 : r5 = etS M s := by
      rw [hr5.1, hr3.1, hr4.1, er]
      rfl
    have f5 := fin r2 r5 hr2 hr5.2 e5
    refine ⟨⟨by omega, by omega⟩, fun h => hno (fun h2 => by have := h2.2.1; omega), fun h5 => ⟨⟨by omega, by omega⟩, fun h6 => f5 h5 (Or.inl ?_), fun h6 => ⟨⟨by omega, by omega⟩, ⟨by omega, by omega⟩, fun h7 => f5 h5 (Or.inr h7), fun h7 => hno (fun h2 => ?_)⟩⟩⟩
    · rw [hr5.2.2.2 h5]
      rcases hr2 with h7 | h7
      · exact h7.2
      · omega
    · rcases hr2 with h8 | h8
      · omega
      · have := h2.2.2 r2.toNat (by omega) h8.2.2.1
        omega
  · exact h.elim
theorem me_X0_exchangeTold {l : Launch} (hl : l.stackTraces = false) : mm_Met l yX0_exchangeTold cX0_exchangeTold 5 (some .int) [] 9 167 0 sp_X0_exchangeTold := mm_mt hl rn_X0_exchangeTold ⟨plX0, rfl⟩ kkX0_exchangeTold rfl ⟨Nat.le_of_ble_eq_true rfl, Nat.le_of_ble_eq_true rfl⟩ flkX0 (fun _ h => nomatch h) (⟨mm_pe (me_X2_stepOf hl) mwX2_stepOf (mm_t2 51 rfl rfl) (Nat.le_of_ble_eq_true rfl) (Nat.le_of_ble_eq_true rfl), mm_pe (me_X2_placeOf hl) mwX2_placeOf (mm_t6 7 rfl rfl) (Nat.le_of_ble_eq_true rfl) (Nat.le_of_ble_eq_true rfl), mm_pe (me_X1_sourceOf hl) mwX1_sourceOf (mm_t6 8 rfl rfl) (Nat.le_of_ble_eq_true rfl) (Nat.le_of_ble_eq_true rfl), mm_pe (me_X1_goalOf hl) mwX1_goalOf (mm_t6 9 rfl rfl) (Nat.le_of_ble_eq_true rfl) (Nat.le_of_ble_eq_true rfl), mm_pe (me_X1_between hl) mwX1_between (mm_t6 10 rfl rfl) (Nat.le_of_ble_eq_true rfl) (Nat.le_of_ble_eq_true rfl), mm_pe (me_X2_exchange hl) mwX2_exchange (mm_t6 14 rfl rfl) (Nat.le_of_ble_eq_true rfl) (Nat.le_of_ble_eq_true rfl), trivial⟩) (mm_xe0 _) n9X0
def sp_X0_letIn : mm_S := fun av M d Q => match av with
  | [.inr (.inr (.inl o)), .inl s] =>  o = 16 ∧ wA M ∧ (0 ≤ s ∧ s < M 2 4) ∧ ∀ M' r, cP M M' ∧ (-9 ≤ r ∧ r ≤ 60) ∧ liR M M' s r → Q (.inl (some (mm_I r))) M' d
  | _ => False
def ct_X0_letIn : List (Nat × mm_Ca) := [(44, (0, 2, 12, sp_X2_placeOf, 0)), (63, (0, 2, 12, sp_X2_cornerOf, 0)), (66, (0, 1, 12, sp_X2_size, 0)), (70, (0, 3, 11, sp_X1_leaving, 0)), (74, (0, 3, 11, sp_X1_comingTo, 0)), (55, (0, 4, 11, sp_X1_between, 0)), (77, (0, 2, 12, sp_X2_putAhead, 0)), (81, (0, 3, 12, sp_X2_putIn, 0))]
abbrev rr_X0_letIn (Q : mm_Q) := mm_run (mm_look flX0) (mm_look ct_X0_letIn) mm_x0 (mm_look ([] : List (Nat × Int))) (fun _ => none) 1 0 (fun _ _ => none) Q kdX0_letIn
set_option maxRecDepth 20000 in
theorem rn_X0_letIn : mm_RN flX0 ct_X0_letIn mm_x0 [] 1 0 6 kdX0_letIn sp_X0_letIn := by
  intro av M d Q h
  unfold sp_X0_letIn at h
  split at h
  · rename_i o s
    obtain ⟨rfl, ha, hs, hq⟩ := h
    have hc := ha.2.2
    have t1 := ha.1.1
    have hno : ¬ liP M s → (-128 ≤ (-9 : Int) ∧ (-9 : Int) < 128) ∧ Q (.inl (some (mm_I (-9)))) M d := fun h => ⟨by omega, hq M (-9) ⟨ha.rf, by omega, Or.inl ⟨h, rfl, rfl⟩⟩⟩
    have fin : ∀ (M' : mm_M) (p r : Int), (M 16 1).toNat ≠ 0 → M 16 4 = 0 → 0 ≤ r ∧ r < 2 * M 2 4 → r / 2 = s → wN M (M 16 1).toNat s → p = M 16 2 → r = fhF M (M 16 1).toNat s → M' (M 16 1).toNat 3 = (if M 16 2 = 0 then sr M r else M (M 16 1).toNat 3) → fr [(M 16 1).toNat, (M 16 1).toNat + 1] M M' → wV M' (M 16 1).toNat → (∃ M1, fr [(M 16 1).toNat, (M 16 1).toNat + 1] M M1 ∧ putR M M1 (M 16 1).toNat p r ∧ M' (M 16 1).toNat 2 = M1 (M 16 1).toNat 2 ∧ M' ((M 16 1).toNat + 1) = M1 ((M 16 1).toNat + 1)) → Q (.inl (some (mm_I (M' 16 2 + 1)))) (mm_up (mm_up M' 16 2 (M' 16 2 + 1)) 16 3 (-1)) d := by
      intro M' p r h2 h3 hr hrs hN hp hF hb3 hf hv' ⟨M1, hf1, hput, e1, e2⟩
      subst hp
      have hk3 := cV_k hc h2
      have hk := hk3.k
      have hl := isK_le hk
      obtain ⟨hv, hD⟩ := ha.2.1 _ hk3
      have v1 := hv.1
      have c3 := hc.2.2 (by omega) h3
      have hlt := wD_lt hv hD hs hN
      have e16 : M' 16 = M 16 := hf 16 (by simp; omega)
      have hfr : fr [(M 16 1).toNat, (M 16 1).toNat + 1, 5, 6, 16] M (mm_up (mm_up M' 16 2 (M' 16 2 + 1)) 16 3 (-1)) := ((hf.mono (by simp)).up (by simp)).up (by simp)
      have ew : (mm_up (mm_up M' 16 2 (M' 16 2 + 1)) 16 3 (-1)) (M 16 1).toNat = M' (M 16 1).toNat := by rw [mm_up_o _ (by omega), mm_up_o _ (by omega)]
      have ew2 : (mm_up (mm_up M' 16 2 (M' 16 2 + 1)) 16 3 (-1)) ((M 16 1).toNat + 1) = M' ((M 16 1).toNat + 1) := by rw [mm_up_o _ (by omega), mm_up_o _ (by omega)]
      have e22 : (mm_up (mm_up M' 16 2 (M' 16 2 + 1)) 16 3 (-1)) 2 = M' 2 := by rw [mm_up_o _ (by omega), mm_up_o _ (by omega)]
      have hcnt : M' (M 16 1).toNat 2 = M (M 16 1).toNat 2 + 1 := by
        rw [e1]
        rcases hput with h | h
        · exact h.2.1
        · exact absurd ⟨by omega, by omega, by omega⟩ h.1
      have hc2 : cV (mm_up (mm_up M' 16 2 (M' 16 2 + 1)) 16 3 (-1)) := by
        have f1 : (mm_up (mm_up M' 16 2 (M' 16 2 + 1)) 16 3 (-1)) 16 1 = M 16 1 := by simp [mm_up, e16]
        have f2 : (mm_up (mm_up M' 16 2 (M' 16 2 + 1)) 16 3 (-1)) 16 2 = M 16 2 + 1 := by simp [mm_up, e16]
        have f3 : (mm_up (mm_up M' 16 2 (M' 16 2 + 1)) 16 3 (-1)) 16 3 = -1 := by simp [mm_up]
        have f4 : (mm_up (mm_up M' 16 2 (M' 16 2 + 1)) 16 3 (-1)) 16 4 = M 16 4 := by simp [mm_up, e16]
        unfold cV
        rw [f1, f2, f3, f4, ew, hcnt]
        exact ⟨hc.1, hc.2.1, fun _ _ => by omega⟩
      refine hq _ _ ⟨ha.w hk hfr (hv'.to ew ew2 e22) ?_ hc2, by rw [e16]; omega, Or.inr ⟨⟨⟨by omega, h3⟩, hN, by omega⟩, by rw [e16], M1, hf1, by rw [← hF]; exact hput, ((hf.mono (by simp)).up (by simp)).up (by simp), by rw [ew]; exact e1, by rw [ew2]; exact e2, by rw [ew, ← hF]; exact hb3, by simp [mm_up, e16], by simp [mm_up, e16], by simp [mm_up], by simp [mm_up, e16]⟩⟩
      exact (put_wD hD (by rw [hrs]; exact hN) hput).to2 (by rw [ew, e1]) (by rw [ew2, e2])
    refine ⟨Nat.le_of_ble_eq_true rfl, mm_run_at (stop := []) (S := mm_F0) kkX0_letIn 80 ?_ mm_F0h⟩
    simp only [mm_wp, mm_op, mm_nxt, mm_jmp, mm_at, mm_in, mm_nth, mm_set, mm_ok, mm_isL, mm_ret, mm_isRet, mm_bool, mm_call, mm_push, mm_rv, mm_cats, mm_cat, mm_look, mm_ft, mm_fv, mm_pf, mm_thr, mm_ent, mm_pad, mm_fl, beq_self_eq_true, cond_true, cond_false, Nat.reduceBEq, Nat.reduceEqDiff, List.drop_succ_cons, List.drop_zero, List.take_succ_cons, List.take_zero, List.reverse_cons, List.reverse_nil, List.nil_append, List.cons_append, List.length_cons, List.length_nil, Nat.reduceAdd, Nat.reduceSub, Nat.reduceLeDiff, Bool.not_false, Bool.and_true, Bool.true_and, Nat.zero_add, true_and, and_true, Nat.le_refl, true_or, or_true, reduceCtorEq, Nat.add_zero, Nat.reduceLT, Bool.and_self, Bool.not_true, Fin.isValue, Nat.reduceLeDiff, List.take_nil, List.drop_nil, mm_i1, mm_i2, mm_i3, mm_i4, mm_i5, mm_i6, mm_i7, mm_i16, mm_i17, mm_i18, mm_i19, mm_i20, mm_i21, mm_i22, mm_i23, mm_l3, mm_l4, mm_l5, mm_l6, mm_l7, mm_l18, mm_l19, mm_l20, mm_l21, mm_l22, kdX0_letIn, ct_X0_letIn, flX0, sp_X2_placeOf, sp_X2_cornerOf, sp_X2_size, sp_X1_leaving, sp_X1_comingTo, sp_X1_between, sp_X2_putAhead, sp_X2_putIn]
    refine ⟨fun h => hno (fun h2 => h2.1.1 (cV_0 hc h)), fun h0 => ?_⟩
    have hk3 := cV_k hc h0
    have hk := hk3.k
    have hl := isK_le hk
    obtain ⟨hv, hD⟩ := ha.2.1 _ hk3
    have v1 := hv.1
    have c2 := hc.2.1
    have c3 := hc.2.2 (by omega)
    refine ⟨⟨by omega, by omega⟩, fun h => hno (fun h2 => h h2.1.2), fun h1 => ?_⟩
    have c4 := c3 h1
    have ht := ha.1
    have his := wk_is hk M d
    refine ⟨his, hk, ht, hv, ⟨by omega, by omega⟩, fun r2 hr2 => ⟨⟨by omega, by omega⟩, fun h2 => ?_, fun h2 => hno (fun h3 => by
      rcases hr2 with h7 | h7
      · omega
      · exact h3.2.1 r2.toNat (by omega) h7.2.2.1)⟩⟩
    have hN : wN M (M 16 1).toNat s := by
      rcases hr2 with h7 | h7
      · exact h7.2
      · omega
    have hF1 : M 16 2 = M (M 16 1).toNat 2 → fhF M (M 16 1).toNat s = lv M s (cor M (M 16 1).toNat (M 16 2)) := fun h => by unfold fhF; rw [if_pos h]
    have hF2 : M 16 2 ≠ M (M 16 1).toNat 2 → M 16 2 = 0 → fhF M (M 16 1).toNat s = cm M s (cor M (M 16 1).toNat (M 16 2)) := fun h g => by unfold fhF; rw [if_neg h, if_pos g]
    have hF3 : M 16 2 ≠ M (M 16 1).toNat 2 → M 16 2 ≠ 0 → fhF M (M 16 1).toNat s = bw M s (cor M (M 16 1).toNat (M 16 2)) (cor M (M 16 1).toNat (M 16 2)) := fun h g => by unfold fhF; rw [if_neg h, if_neg g, bw_cc hs.1]
    have hc0 : M 16 2 = 0 → cor M (M 16 1).toNat (M 16 2) = M (M 16 1).toNat 3 := fun h => by unfold cor; rw [if_neg (by omega)]
    have hnoF : fhF M (M 16 1).toNat s = -1 → (-128 ≤ (-9 : Int) ∧ (-9 : Int) < 128) ∧ Q (.inl (some (mm_I (-9)))) M d := fun h => hno (fun h2 => h2.2.2 h)
    have goP : ∀ r, 0 ≤ r ∧ r < 2 * M 2 4 → r / 2 = s → r = fhF M (M 16 1).toNat s → (M 16 2 = 0 → sr M r = M (M 16 1).toNat 3) → ∀ M', fr [(M 16 1).toNat, (M 16 1).toNat + 1] M M' ∧ wV M' (M 16 1).toNat ∧ putR M M' (M 16 1).toNat (M 16 2) r → Q (.inl (some (mm_I (M' 16 2 + 1)))) (mm_up (mm_up M' 16 2 (M' 16 2 + 1)) 16 3 (-1)) d := by
      intro r hr hrs hF hb M' hM'
      have hlt := wD_lt hv hD hs hN
      refine fin M' (M 16 2) r h0 h1 hr hrs hN rfl hF ?_ hM'.1 hM'.2.1 ⟨M', hM'.1, hM'.2.2, rfl, rfl⟩
      rw [(put_at hM'.2.2 ⟨by omega, by omega, by omega⟩).2.1]
      split
      · rename_i h; exact (hb h).symm
      · rfl
    have goA : ∀ r, 0 ≤ r ∧ r < 2 * M 2 4 → r / 2 = s → r = fhF M (M 16 1).toNat s → M 16 2 = 0 → ∀ M', (fr [(M 16 1).toNat, (M 16 1).toNat + 1] M M' ∧ wV M' (M 16 1).toNat ∧ ∃ M1, putR M M1 (M 16 1).toNat 0 r ∧ M' = mm_up M1 (M 16 1).toNat 3 (sr M r)) → Q (.inl (some (mm_I (M' 16 2 + 1)))) (mm_up (mm_up M' 16 2 (M' 16 2 + 1)) 16 3 (-1)) d := by
      intro r hr hrs hF hb M' ⟨g1, g2, M1, g3, g4⟩
      have hf1 : fr [(M 16 1).toNat, (M 16 1).toNat + 1] M M1 := fun o ho => by
        rw [← g1 o ho, g4, mm_up_o _ (fun e => ho (by rw [e]; simp))]
      exact fin M' 0 r h0 h1 hr hrs hN hb.symm hF (by rw [if_pos hb, g4]; simp [mm_up]) g1 g2 ⟨M1, hf1, g3, by rw [g4]; simp [mm_up], by rw [g4]; funext k; simp [mm_up]⟩
    have yB : ∀ r1 r : Int, (r1 = cor M (M 16 1).toNat (M 16 2) ∧ 0 ≤ r1 ∧ r1 < 10) → M 16 2 ≠ M (M 16 1).toNat 2 → M 16 2 ≠ 0 → (r = bw M s r1 r1 ∧ -1 ≤ r ∧ r < 2 * M 2 4 ∧ (0 ≤ r → r / 2 = s)) → 0 ≤ r → ∀ M', (fr [(M 16 1).toNat, (M 16 1).toNat + 1] M M' ∧ wV M' (M 16 1).toNat ∧ putR M M' (M 16 1).toNat (M 16 2) r) → Q (.inl (some (mm_I (M' 16 2 + 1)))) (mm_up (mm_up M' 16 2 (M' 16 2 + 1)) 16 3 (-1)) d := fun r1 r g1 g2 g3 g4 g5 M' g6 => goP r (by omega) (g4.2.2.2 g5) (by rw [hF3 g2 g3, ← g1.1]; exact g4.1) (fun h => absurd h g3) M' g6
    have yA : ∀ r1 r : Int, (r1 = cor M (M 16 1).toNat (M 16 2) ∧ 0 ≤ r1 ∧ r1 < 10) → M 16 2 ≠ M (M 16 1).toNat 2 → M 16 2 = 0 → (r = cm M s r1 ∧ -1 ≤ r ∧ r < 2 * M 2 4 ∧ (0 ≤ r → r / 2 = s)) → 0 ≤ r → ∀ M', (fr [(M 16 1).toNat, (M 16 1).toNat + 1] M M' ∧ wV M' (M 16 1).toNat ∧ ∃ M1, putR M M1 (M 16 1).toNat 0 r ∧ M' = mm_up M1 (M 16 1).toNat 3 (sr M r)) → Q (.inl (some (mm_I (M' 16 2 + 1)))) (mm_up (mm_up M' 16 2 (M' 16 2 + 1)) 16 3 (-1)) d := fun r1 r g1 g2 g3 g4 g5 M' g6 => goA r (by omega) (g4.2.2.2 g5) (by rw [hF2 g2 g3, ← g1.1]; exact g4.1) g3 M' g6
    have yL : ∀ r1 r : Int, (r1 = cor M (M 16 1).toNat (M 16 2) ∧ 0 ≤ r1 ∧ r1 < 10) → M 16 2 = M (M 16 1).toNat 2 → (r = lv M s r1 ∧ -1 ≤ r ∧ r < 2 * M 2 4 ∧ (0 ≤ r → r / 2 = s)) → 0 ≤ r → ∀ M', (fr [(M 16 1).toNat, (M 16 1).toNat + 1] M M' ∧ wV M' (M 16 1).toNat ∧ putR M M' (M 16 1).toNat (M 16 2) r) → Q (.inl (some (mm_I (M' 16 2 + 1)))) (mm_up (mm_up M' 16 2 (M' 16 2 + 1)) 16 3 (-1)) d := fun r1 r g1 g2 g4 g5 M' g6 => goP r (by omega) (g4.2.2.2 g5) (by rw [hF1 g2, ← g1.1]; exact g4.1) (fun h => by rw [← hc0 h, ← g1.1, g4.1]; exact lv_sr hs.1 (by omega)) M' g6
    have nB : ∀ r1 r : Int, (r1 = cor M (M 16 1).toNat (M 16 2) ∧ 0 ≤ r1 ∧ r1 < 10) → M 16 2 ≠ M (M 16 1).toNat 2 → M 16 2 ≠ 0 → (r = bw M s r1 r1 ∧ -1 ≤ r ∧ r < 2 * M 2 4 ∧ (0 ≤ r → r / 2 = s)) → r < 0 → Q (.inl (some (mm_I (-9)))) M d := fun r1 r g1 g2 g3 g4 g5 => (hnoF (by rw [hF3 g2 g3, ← g1.1]; omega)).2
    have nA : ∀ r1 r : Int, (r1 = cor M (M 16 1).toNat (M 16 2) ∧ 0 ≤ r1 ∧ r1 < 10) → M 16 2 ≠ M (M 16 1).toNat 2 → M 16 2 = 0 → (r = cm M s r1 ∧ -1 ≤ r ∧ r < 2 * M 2 4 ∧ (0 ≤ r → r / 2 = s)) → r < 0 → Q (.inl (some (mm_I (-9)))) M d := fun r1 r g1 g2 g3 g4 g5 => (hnoF (by rw [hF2 g2 g3, ← g1.1]; omega)).2
    have nL : ∀ r1 r : Int, (r1 = cor M (M 16 1).toNat (M 16 2) ∧ 0 ≤ r1 ∧ r1 < 10) → M 16 2 = M (M 16 1).toNat 2 → (r = lv M s r1 ∧ -1 ≤ r ∧ r < 2 * M 2 4 ∧ (0 ≤ r → r / 2 = s)) → r < 0 → Q (.inl (some (mm_I (-9)))) M d := fun r1 r g1 g2 g4 g5 => (hnoF (by rw [hF1 g2, ← g1.1]; omega)).2
    clear hno hF1 hF2 hF3 hc0 hnoF goP goA fin hq c3
    repeat' (first | assumption | apply And.intro | (intro _))
    all_goals first
      | (apply nB <;> assumption)
      | (apply nA <;> assumption)
      | (apply nL <;> assumption)
      | (apply yB <;> assumption)
      | (apply yA <;> assumption)
      | (apply yL <;> assumption)
      | omega
  · exact h.elim
theorem me_X0_letIn {l : Launch} (hl : l.stackTraces = false) : mm_Met l yX0_letIn cX0_letIn 6 (some .int) [] 10 185 0 sp_X0_letIn := mm_mt hl rn_X0_letIn ⟨plX0, rfl⟩ kkX0_letIn rfl ⟨Nat.le_of_ble_eq_true rfl, Nat.le_of_ble_eq_true rfl⟩ flkX0 (fun _ h => nomatch h) (⟨mm_pe (me_X2_placeOf hl) mwX2_placeOf (mm_t6 7 rfl rfl) (Nat.le_of_ble_eq_true rfl) (Nat.le_of_ble_eq_true rfl), mm_pe (me_X2_cornerOf hl) mwX2_cornerOf (mm_t6 29 rfl rfl) (Nat.le_of_ble_eq_true rfl) (Nat.le_of_ble_eq_true rfl), mm_pe (me_X2_size hl) mwX2_size (mm_t2 43 rfl rfl) (Nat.le_of_ble_eq_true rfl) (Nat.le_of_ble_eq_true rfl), mm_pe (me_X1_leaving hl) mwX1_leaving (mm_t6 30 rfl rfl) (Nat.le_of_ble_eq_true rfl) (Nat.le_of_ble_eq_true rfl), mm_pe (me_X1_comingTo hl) mwX1_comingTo (mm_t6 31 rfl rfl) (Nat.le_of_ble_eq_true rfl) (Nat.le_of_ble_eq_true rfl), mm_pe (me_X1_between hl) mwX1_between (mm_t6 10 rfl rfl) (Nat.le_of_ble_eq_true rfl) (Nat.le_of_ble_eq_true rfl), mm_pe (me_X2_putAhead hl) mwX2_putAhead (mm_t6 32 rfl rfl) (Nat.le_of_ble_eq_true rfl) (Nat.le_of_ble_eq_true rfl), mm_pe (me_X2_putIn hl) mwX2_putIn (mm_t6 33 rfl rfl) (Nat.le_of_ble_eq_true rfl) (Nat.le_of_ble_eq_true rfl), trivial⟩) (mm_xe0 _) n9X0
def sp_X0_removeTold : mm_S := fun av M d Q => match av with
  | [.inr (.inr (.inl o))] =>  o = 16 ∧ wA M ∧ ∀ M' r, cP M M' ∧ (-9 ≤ r ∧ r ≤ 60) ∧ rtR M M' r → Q (.inl (some (mm_I r))) M' d
  | _ => False
def ct_X0_removeTold : List (Nat × mm_Ca) := [(38, (0, 2, 12, sp_X2_stepOf, 0)), (66, (0, 1, 12, sp_X2_size, 0)), (84, (0, 2, 11, sp_X1_isLoop, 0)), (88, (0, 1, 12, sp_X2_takeOutFirst, 0)), (91, (0, 2, 12, sp_X2_takeOut, 0))]
abbrev rr_X0_removeTold (Q : mm_Q) := mm_run (mm_look flX0) (mm_look ct_X0_removeTold) mm_x0 (mm_look ([] : List (Nat × Int))) (fun _ => none) 1 0 (fun _ _ => none) Q kdX0_removeTold
set_option maxRecDepth 20000 in
theorem rn_X0_removeTold : mm_RN flX0 ct_X0_removeTold mm_x0 [] 1 0 3 kdX0_removeTold sp_X0_removeTold := by
  intro av M d Q h
  unfold sp_X0_removeTold at h
  split at h
  · rename_i o
    obtain ⟨rfl, ha, hq⟩ := h
    have hc := ha.2.2
    have t1 := ha.1.1
    have hno : ¬ rtP M → (-128 ≤ (-9 : Int) ∧ (-9 : Int) < 128) ∧ Q (.inl (some (mm_I (-9)))) M d := fun h => ⟨by omega, hq M (-9) ⟨ha.rf, by omega, Or.inl ⟨h, rfl, rfl⟩⟩⟩
    have fin : ∀ (M' : mm_M) (r : Int), (M 16 1).toNat ≠ 0 → M 16 4 = 0 → 0 ≤ M 16 3 → 0 ≤ r ∧ r < 2 * M 2 4 → r = etO M → rtP M → M' (M 16 1).toNat 3 = (if M 16 3 = 0 ∧ M 16 3 ≠ M (M 16 1).toNat 2 - 1 then gl M (etO M) else M (M 16 1).toNat 3) → fr [(M 16 1).toNat, (M 16 1).toNat + 1] M M' → wV M' (M 16 1).toNat → (∃ M1, fr [(M 16 1).toNat, (M 16 1).toNat + 1] M M1 ∧ takR M M1 (M 16 1).toNat (M 16 3) ∧ M' (M 16 1).toNat 2 = M1 (M 16 1).toNat 2 ∧ M' ((M 16 1).toNat + 1) = M1 ((M 16 1).toNat + 1)) → InI (M' 16 3) ∧ InI (M' 16 2) ∧ (M' 16 2 ≤ M' 16 3 → Q (.inl (some (mm_I r))) (mm_up M' 16 3 (-1)) d) ∧ (M' 16 3 < M' 16 2 → Q (.inl (some (mm_I r))) (mm_up (mm_up M' 16 2 (M' 16 2 - 1)) 16 3 (-1)) d) := by
      intro M' r h2 h3 h4 hr hro hP hb3 hf hv' ⟨M1, q0, q3, q1, q2⟩
      have hk3 := cV_k hc h2
      have hk := hk3.k
      have hl := isK_le hk
      obtain ⟨hv, hD⟩ := ha.2.1 _ hk3
      have v1 := hv.1
      have c3 := hc.2.2 (by omega) h3
      have e16 : M' 16 = M 16 := hf 16 (by simp; omega)
      have hD' : wD M' (M 16 1).toNat := (tak_wD hD q3).to2 q1 q2
      have hcnt : M' (M 16 1).toNat 2 = M (M 16 1).toNat 2 - 1 := by
        rw [q1]
        rcases q3 with h | h
        · exact h.2.1
        · exact absurd ⟨by omega, by omega⟩ h.1
      have key : ∀ M2 : mm_M, fr [16] M' M2 → M2 16 1 = M 16 1 → M2 16 4 = M 16 4 → M2 16 3 = -1 → M2 16 2 = (if M 16 3 < M 16 2 then M 16 2 - 1 else M 16 2) → (0 ≤ M2 16 2 ∧ M2 16 2 ≤ M (M 16 1).toNat 2 - 1) → Q (.inl (some (mm_I r))) M2 d := by
        intro M2 g1 g2 g3 g4 gp g5
        have ew : M2 (M 16 1).toNat = M' (M 16 1).toNat := g1 _ (by simp; omega)
        have ew2 : M2 ((M 16 1).toNat + 1) = M' ((M 16 1).toNat + 1) := g1 _ (by simp; omega)
        have e2 : M2 2 = M' 2 := g1 2 (by simp)
        have hc2 : cV M2 := by
          unfold cV
          rw [g2, g3, g4, ew, hcnt]
          exact ⟨hc.1, hc.2.1, fun _ _ => by omega⟩
        exact hq _ _ ⟨ha.w hk ((hf.mono (by simp)).tr (g1.mono (by simp))) (hv'.to ew ew2 e2) (hD'.to ew ew2) hc2, by omega, Or.inr ⟨hP, hro, M1, q0, q3, (hf.mono (by simp)).tr (g1.mono (by simp)), by rw [ew]; exact q1, by rw [ew2]; exact q2, by rw [ew]; exact hb3, g2, gp, g4, g3⟩⟩
      rw [e16]
      refine ⟨⟨by omega, by omega⟩, ⟨by omega, by omega⟩, fun h5 => key _ (fr.rf.up (by simp)) (by simp [mm_up, e16]) (by simp [mm_up, e16]) (by simp [mm_up]) (by rw [if_neg (by omega)]; simp [mm_up, e16]) ?_, fun h5 => key _ ((fr.rf.up (by simp)).up (by simp)) (by simp [mm_up, e16]) (by simp [mm_up, e16]) (by simp [mm_up]) (by rw [if_pos (by omega)]; simp [mm_up]) ?_⟩
      · simp [mm_up, e16]
        omega
      · simp [mm_up]
        omega
    refine ⟨Nat.le_of_ble_eq_true rfl, mm_run_at (stop := []) (S := mm_F0) kkX0_removeTold 80 ?_ mm_F0h⟩
    simp only [mm_wp, mm_op, mm_nxt, mm_jmp, mm_at, mm_in, mm_nth, mm_set, mm_ok, mm_isL, mm_ret, mm_isRet, mm_bool, mm_call, mm_push, mm_rv, mm_cats, mm_cat, mm_look, mm_ft, mm_fv, mm_pf, mm_thr, mm_ent, mm_pad, mm_fl, beq_self_eq_true, cond_true, cond_false, Nat.reduceBEq, Nat.reduceEqDiff, List.drop_succ_cons, List.drop_zero, List.take_succ_cons, List.take_zero, List.reverse_cons, List.reverse_nil, List.nil_append, List.cons_append, List.length_cons, List.length_nil, Nat.reduceAdd, Nat.reduceSub, Nat.reduceLeDiff, Bool.not_false, Bool.and_true, Bool.true_and, Nat.zero_add, true_and, and_true, Nat.le_refl, true_or, or_true, reduceCtorEq, Nat.add_zero, Nat.reduceLT, Bool.and_self, Bool.not_true, Fin.isValue, Nat.reduceLeDiff, List.take_nil, List.drop_nil, mm_i1, mm_i2, mm_i3, mm_i4, mm_i5, mm_i6, mm_i7, mm_i16, mm_i17, mm_i18, mm_i19, mm_i20, mm_i21, mm_i22, mm_i23, mm_l3, mm_l4, mm_l5, mm_l6, mm_l7, mm_l18, mm_l19, mm_l20, mm_l21, mm_l22, kdX0_removeTold, ct_X0_removeTold, flX0, sp_X2_stepOf, sp_X2_size, sp_X1_isLoop, sp_X2_takeOutFirst, sp_X2_takeOut]
    have ht := ha.1
    refine ⟨fun h => hno (fun h2 => h2.1.1 (cV_0 hc h)), fun h0 => ?_⟩
    have hk3 := cV_k hc h0
    have hk := hk3.k
    have hl := isK_le hk
    obtain ⟨hv, hD⟩ := ha.2.1 _ hk3
    have v1 := hv.1
    have c2 := hc.2.1
    have c3 := hc.2.2 (by omega)
    have his := wk_is hk M d
    refine ⟨⟨by omega, by omega⟩, fun h => hno (fun h2 => h h2.1.2.1), fun h1 => ?_⟩
    have c4 := c3 h1
    refine ⟨⟨by omega, by omega⟩, fun h2 => ⟨his, hk, ht, hv, ⟨by omega, by omega⟩, fun r hr => ?_⟩, fun h => hno (fun h2 => by have := h2.1.2.2; omega)⟩
    have er : r = M ((M 16 1).toNat + 1) (M 16 3).toNat := by
      rw [hr.1]
      unfold stp
      rw [if_pos (by omega)]
    have hsr := hv.2.2 (M 16 3).toNat (by omega)
    have e00 : M 16 1 ≠ 0 := by omega
    have hrb : 0 ≤ r ∧ r < 2 * M 2 4 := by omega
    simp only [tp1]
    have hz : InI (0 : Int) := ⟨by omega, by omega⟩
    have hi3 : InI (M 16 3) := ⟨by omega, by omega⟩
    have ero : r = etO M := er
    have hP : (M 16 3 = 0 ∨ M 16 3 = M (M 16 1).toNat 2 - 1 ∨ M 3 (r / 2).toNat = M 4 (r / 2).toNat) → rtP M := fun h => ⟨⟨e00, h1, by omega⟩, by rw [loop_sr, ← ero]; exact h⟩
    have hnl : M 16 3 ≠ 0 → M 16 3 ≠ M (M 16 1).toNat 2 - 1 → M 3 (r / 2).toNat ≠ M 4 (r / 2).toNat → Q (.inl (some (mm_I (-9)))) M d := fun a b c => (hno (fun h => by
      have := h.2
      rw [loop_sr, ← ero] at this
      omega)).2
    have hA : (M 16 3 = 0 → M 16 3 = M (M 16 1).toNat 2 - 1) → (M 16 3 = 0 ∨ M 16 3 = M (M 16 1).toNat 2 - 1 ∨ M 3 (r / 2).toNat = M 4 (r / 2).toNat) → ∀ M' : mm_M, fr [(M 16 1).toNat, (M 16 1).toNat + 1] M M' ∧ wV M' (M 16 1).toNat ∧ takR M M' (M 16 1).toNat (M 16 3) → _ := fun g1 g2 M' hM' => fin M' r h0 h1 h2 hrb ero (hP g2) (by
      rw [if_neg (by omega)]
      rcases hM'.2.2 with h | h
      · exact h.2.2.1
      · rw [h.2]) hM'.1 hM'.2.1 ⟨M', hM'.1, hM'.2.2, rfl, rfl⟩
    have hB : M 16 3 = 0 → M 16 3 ≠ M (M 16 1).toNat 2 - 1 → ∀ M' : mm_M, fr [(M 16 1).toNat, (M 16 1).toNat + 1] M M' ∧ wV M' (M 16 1).toNat ∧ takR (mm_up M (M 16 1).toNat 3 (cor M (M 16 1).toNat 1)) M' (M 16 1).toNat 0 → _ := fun g1 g2 M' hM' => fin M' r h0 h1 h2 hrb ero (hP (Or.inl g1)) (by
      rw [if_pos ⟨g1, g2⟩]
      rcases hM'.2.2 with h | h
      · rw [h.2.2.1]
        simp only [mm_up, true_and, if_true]
        unfold cor
        rw [if_pos (by omega), ← ero, er, g1]
        rfl
      · exact absurd ⟨by omega, by simp [mm_up]; omega⟩ h.1) hM'.1 hM'.2.1 ⟨mm_up M' (M 16 1).toNat 3 (M (M 16 1).toNat 3), hM'.1.up (by simp), by
      rcases hM'.2.2 with ⟨q0, q1, q2, q3⟩ | h
      · refine Or.inl ⟨⟨by omega, by omega⟩, by simpa [mm_up] using q1, by simp [mm_up], fun x hx => ?_⟩
        have := q3 x (by simpa [mm_up] using hx)
        rw [mm_up_o _ (show (M 16 1).toNat + 1 ≠ (M 16 1).toNat by omega)] at this ⊢
        rw [g1]
        exact this
      · exact absurd ⟨by omega, by simp [mm_up]; omega⟩ h.1, by simp [mm_up], by rw [mm_up_o _ (by omega)]⟩
    clear hno hP fin hq c3
    repeat' (first | assumption | exact hA (by omega) (by omega) | exact hB (by omega) (by omega) | apply And.intro | (intro _))
    all_goals first
      | exact hnl (by omega) (by omega) (by omega)
      | (clear hnl hA hB; omega)
  · exact h.elim
theorem me_X0_removeTold {l : Launch} (hl : l.stackTraces = false) : mm_Met l yX0_removeTold cX0_removeTold 3 (some .int) [] 10 184 0 sp_X0_removeTold := mm_mt hl rn_X0_removeTold ⟨plX0, rfl⟩ kkX0_removeTold rfl ⟨Nat.le_of_ble_eq_true rfl, Nat.le_of_ble_eq_true rfl⟩ flkX0 (fun _ h => nomatch h) (⟨mm_pe (me_X2_stepOf hl) mwX2_stepOf (mm_t2 51 rfl rfl) (Nat.le_of_ble_eq_true rfl) (Nat.le_of_ble_eq_true rfl), mm_pe (me_X2_size hl) mwX2_size (mm_t2 43 rfl rfl) (Nat.le_of_ble_eq_true rfl) (Nat.le_of_ble_eq_true rfl), mm_pe (me_X1_isLoop hl) mwX1_isLoop (mm_t2 63 rfl rfl) (Nat.le_of_ble_eq_true rfl) (Nat.le_of_ble_eq_true rfl), mm_pe (me_X2_takeOutFirst hl) mwX2_takeOutFirst (mm_t2 67 rfl rfl) (Nat.le_of_ble_eq_true rfl) (Nat.le_of_ble_eq_true rfl), mm_pe (me_X2_takeOut hl) mwX2_takeOut (mm_t2 75 rfl rfl) (Nat.le_of_ble_eq_true rfl) (Nat.le_of_ble_eq_true rfl), trivial⟩) (mm_xe0 _) n9X0

