/-! the class: isSound, digest -/
def sp_X3_numberOf : mm_S := fun av M d Q => match av with
  | [.inl f] =>  (f = 0 ∨ f = 1) ∧ Q (.inl (some (mm_I f))) M d
  | _ => False
def ct_X3_numberOf : List (Nat × mm_Ca) := []
abbrev rr_X3_numberOf (Q : mm_Q) := mm_run (mm_look flX3) (mm_look ct_X3_numberOf) mm_x0 (mm_look ([] : List (Nat × Int))) (fun _ => none) 1 0 (fun _ _ => none) Q kdX3_numberOf
set_option maxRecDepth 20000 in
theorem rn_X3_numberOf : mm_RN flX3 ct_X3_numberOf mm_x0 [] 1 0 1 kdX3_numberOf sp_X3_numberOf := by
  intro av M d Q h
  unfold sp_X3_numberOf at h
  split at h
  · rename_i f
    obtain ⟨h1, hq⟩ := h
    refine ⟨Nat.le_of_ble_eq_true rfl, mm_run_at (stop := []) (S := mm_F0) kkX3_numberOf 80 ?_ mm_F0h⟩
    simp only [mm_wp, mm_op, mm_nxt, mm_jmp, mm_at, mm_in, mm_nth, mm_set, mm_ok, mm_isL, mm_ret, mm_isRet, mm_bool, mm_call, mm_push, mm_rv, mm_cats, mm_cat, mm_look, mm_ft, mm_fv, mm_pf, mm_thr, mm_ent, mm_pad, mm_fl, beq_self_eq_true, cond_true, cond_false, Nat.reduceBEq, Nat.reduceEqDiff, List.drop_succ_cons, List.drop_zero, List.take_succ_cons, List.take_zero, List.reverse_cons, List.reverse_nil, List.nil_append, List.cons_append, List.length_cons, List.length_nil, Nat.reduceAdd, Nat.reduceSub, Nat.reduceLeDiff, Bool.not_false, Bool.and_true, Bool.true_and, Nat.zero_add, true_and, and_true, Nat.le_refl, true_or, or_true, reduceCtorEq, Nat.add_zero, Nat.reduceLT, Bool.and_self, Bool.not_true, Fin.isValue, Nat.reduceLeDiff, List.take_nil, List.drop_nil, mm_i1, mm_i2, mm_i3, mm_i4, mm_i5, mm_i6, mm_i7, mm_i16, mm_i17, mm_i18, mm_i19, mm_i20, mm_i21, mm_i22, mm_i23, mm_l3, mm_l4, mm_l5, mm_l6, mm_l7, mm_l18, mm_l19, mm_l20, mm_l21, mm_l22, kdX3_numberOf, ct_X3_numberOf, flX3]
    refine ⟨⟨by omega, by omega⟩, fun h => ?_, fun h => ?_⟩
    · rw [h] at hq; exact hq
    · rw [show f = 1 by omega] at hq; exact hq
  · exact h.elim
theorem me_X3_numberOf {l : Launch} (hl : l.stackTraces = false) : mm_Met l yX3_numberOf cX3_numberOf 1 (some .int) [] 6 100 0 sp_X3_numberOf := mm_mt hl rn_X3_numberOf ⟨plX3, rfl⟩ kkX3_numberOf rfl ⟨Nat.le_of_ble_eq_true rfl, Nat.le_of_ble_eq_true rfl⟩ flkX3 (fun _ h => nomatch h) (trivial) (mm_xe0 _) n9X3
def sp_X3_mixed : mm_S := fun av M d Q => match av with
  | [.inr (.inl s), .inr (.inl v)] =>  Q (.inl (some (mm_L (s * 31 + v)))) M d
  | _ => False
def ct_X3_mixed : List (Nat × mm_Ca) := []
abbrev rr_X3_mixed (Q : mm_Q) := mm_run (mm_look flX3) (mm_look ct_X3_mixed) mm_x0 (mm_look ([(369, 31)] : List (Nat × Int))) (fun _ => none) 3 0 (fun _ _ => none) Q kdX3_mixed
set_option maxRecDepth 20000 in
theorem rn_X3_mixed : mm_RN flX3 ct_X3_mixed mm_x0 [(369, 31)] 3 0 4 kdX3_mixed sp_X3_mixed := by
  intro av M d Q h
  unfold sp_X3_mixed at h
  split at h
  · rename_i s v
    refine ⟨Nat.le_of_ble_eq_true rfl, mm_run_at (stop := []) (S := mm_F0) kkX3_mixed 80 ?_ mm_F0h⟩
    simp only [mm_wp, mm_op, mm_nxt, mm_jmp, mm_at, mm_in, mm_nth, mm_set, mm_ok, mm_isL, mm_ret, mm_isRet, mm_bool, mm_call, mm_push, mm_rv, mm_cats, mm_cat, mm_look, mm_ft, mm_fv, mm_pf, mm_thr, mm_ent, mm_pad, mm_fl, beq_self_eq_true, cond_true, cond_false, Nat.reduceBEq, Nat.reduceEqDiff, List.drop_succ_cons, List.drop_zero, List.take_succ_cons, List.take_zero, List.reverse_cons, List.reverse_nil, List.nil_append, List.cons_append, List.length_cons, List.length_nil, Nat.reduceAdd, Nat.reduceSub, Nat.reduceLeDiff, Bool.not_false, Bool.and_true, Bool.true_and, Nat.zero_add, true_and, and_true, Nat.le_refl, true_or, or_true, reduceCtorEq, Nat.add_zero, Nat.reduceLT, Bool.and_self, Bool.not_true, Fin.isValue, Nat.reduceLeDiff, List.take_nil, List.drop_nil, mm_i1, mm_i2, mm_i3, mm_i4, mm_i5, mm_i6, mm_i7, mm_i16, mm_i17, mm_i18, mm_i19, mm_i20, mm_i21, mm_i22, mm_i23, mm_l3, mm_l4, mm_l5, mm_l6, mm_l7, mm_l18, mm_l19, mm_l20, mm_l21, mm_l22, kdX3_mixed, ct_X3_mixed, flX3]
    exact h
  · exact h.elim
theorem me_X3_mixed {l : Launch} (hl : l.stackTraces = false) : mm_Met l yX3_mixed cX3_mixed 4 (some .long) [] 6 100 0 sp_X3_mixed := mm_mt hl rn_X3_mixed ⟨plX3, rfl⟩ kkX3_mixed rfl ⟨Nat.le_of_ble_eq_true rfl, Nat.le_of_ble_eq_true rfl⟩ flkX3 ((by
  intro q hq
  simp only [List.mem_cons, List.not_mem_nil, or_false] at hq
  rcases hq with rfl
  · exact mm_T_U _ (mm_t2 188 rfl rfl))) (trivial) (mm_xe0 _) n9X3
def sp_X3_hasEachWordOnce : mm_S := fun av M d Q => match av with
  | [.inr (.inr (.inl o)), .inr (.inr (.inl w))] =>  o = 1 ∧ tW M ∧ isK w ∧ wV M w ∧ ∀ r, (r = 0 ∨ r = 1) ∧ (WI M → (r = 1 ↔ ewO M w)) → Q (.inl (some (mm_I r))) M d
  | _ => False
def ct_X3_hasEachWordOnce : List (Nat × mm_Ca) := [(237, (0, 1, 11, sp_X1_isOfWords, 0)), (92, (0, 1, 11, sp_X1_isOneWay, 0)), (55, (0, 1, 11, sp_X1_size, 0)), (260, (0, 3, 12, sp_X2_placeOfWord, 0))]
abbrev rr_X3_hasEachWordOnce (Q : mm_Q) := mm_run (mm_look flX3) (mm_look ct_X3_hasEachWordOnce) mm_x0 (mm_look ([] : List (Nat × Int))) (fun _ => none) 2 0 (fun _ _ => none) Q kdX3_hasEachWordOnce
set_option maxRecDepth 20000 in
theorem lp_X3_hasEachWordOnce {M : mm_M} {d : List Nat} {Q : mm_Q} {w n : Nat} (hk : isK w) (ht : tW M) (hv : wV M w) (hn : M 2 4 = n) (h6 : 0 < M 2 6 ∧ M 2 5 ≠ 0) (hq : ∀ r, (r = 0 ∨ r = 1) ∧ (WI M → (r = 1 ↔ ewO M w)) → Q (.inl (some (mm_I r))) M d) : ∀ (k i : Nat) (x3 : Option mm_V), i + k = n → (WI M → ∀ x : Nat, x < i → ∃ p, wdR M w x 0 p ∧ 0 ≤ p ∧ wdR M w x (p + 1) (-1)) → rr_X3_hasEachWordOnce Q 24 [some (mm_R 1), some (mm_R w), some (mm_I i), x3] [] M d 0 := by
  have t1 := ht.1
  have his := wk_is hk M d
  intro k
  induction k with
  | zero =>
    intro i x3 hi hA
    have qe := hq 1 ⟨Or.inr rfl, fun hI => ⟨fun _ _ x hx => hA hI x (by omega), fun _ => rfl⟩⟩
    clear hq hA
    obtain ⟨K, hK, hK2⟩ : ∃ K : Nat → mm_K, (∀ t ls st M d u, K t ls st M d u → rr_X3_hasEachWordOnce Q t ls st M d u) ∧ (∀ t ls st M d u, rr_X3_hasEachWordOnce Q t ls st M d u → K t ls st M d u) := ⟨rr_X3_hasEachWordOnce Q, fun _ _ _ _ _ _ h => h, fun _ _ _ _ _ _ h => h⟩
    refine mm_run_at (stop := [35]) (S := K) kkX3_hasEachWordOnce 90 ?_ (fun _ _ _ _ _ _ _ h => hK _ _ _ _ _ _ h)
    repeat' (first | with_reducible assumption | ((with_reducible show mm_rv _ _ _ _ _); first | exact True.intro | exact mm_i1 | exact mm_i2) | with_reducible exact mm_i1 | with_reducible exact mm_i2 | ((with_reducible show mm_bool _ _); first | exact True.intro | exact Or.inl rfl | exact Or.inr rfl | (show (_ : Int) = 0 ∨ _ = 1)) | refine And.intro ?_ ?_ | intro _ | with_reducible exact True.intro | exact rfl | with_reducible exact Or.inl rfl | with_reducible exact Or.inr rfl | exact Nat.le_of_ble_eq_true rfl)
    all_goals (try simp (disch := omega) only [InI, Int.toNat_natCast, Int.tmod_eq_emod_of_nonneg, Int.tdiv_eq_ediv_of_nonneg, true_implies, true_or, or_true, mm_l18, mm_l19, mm_l20, mm_l21, mm_l22] at *)
    all_goals first | omega | exact qe | skip
  | succ k ih =>
    intro i x3 hi hA
    have q0 : ∀ r, (-1 ≤ r ∧ r ≤ 30) ∧ (WI M → wdR M w i 0 r) → r < 0 → Q (.inl (some (mm_I 0))) M d := fun r hr h => hq _ ⟨Or.inl rfl, fun hI => ⟨fun h2 => by omega, fun h2 => by
      obtain ⟨p, p1, p2, p3⟩ := h2 h6 i (by omega)
      have := wdR_det .rf .rf p1 (hr.2 hI)
      omega⟩⟩
    have q1 : ∀ r, (-1 ≤ r ∧ r ≤ 30) ∧ (WI M → wdR M w i 0 r) → ∀ r2, (-1 ≤ r2 ∧ r2 ≤ 30) ∧ (WI M → wdR M w i (r + 1) r2) → ¬ r2 < 0 → Q (.inl (some (mm_I 0))) M d := fun r hr r2 hr2 h => hq _ ⟨Or.inl rfl, fun hI => ⟨fun h2 => by omega, fun h2 => by
      obtain ⟨p, p1, p2, p3⟩ := h2 h6 i (by omega)
      have e := wdR_det .rf .rf p1 (hr.2 hI)
      subst e
      have := wdR_det .rf .rf p3 (hr2.2 hI)
      omega⟩⟩
    obtain ⟨K, hK, hK2⟩ : ∃ K : Nat → mm_K, (∀ t ls st M d u, K t ls st M d u → rr_X3_hasEachWordOnce Q t ls st M d u) ∧ (∀ t ls st M d u, rr_X3_hasEachWordOnce Q t ls st M d u → K t ls st M d u) := ⟨rr_X3_hasEachWordOnce Q, fun _ _ _ _ _ _ h => h, fun _ _ _ _ _ _ h => h⟩
    have nx : ∀ r, (-1 ≤ r ∧ r ≤ 30) ∧ (WI M → wdR M w i 0 r) → ∀ r2, (-1 ≤ r2 ∧ r2 ≤ 30) ∧ (WI M → wdR M w i (r + 1) r2) → ¬ r < 0 → r2 < 0 → ∀ x3, K 24 [some (mm_R 1), some (mm_R w), some (mm_I ((i : Int) + 1)), x3] [] M d 0 := fun r hr r2 hr2 h1 h2 x3 => hK2 _ _ _ _ _ _ (ih (i + 1) x3 (by omega) (fun hI x hx => by
      by_cases e : x = i
      · subst e
        have e2 : r2 = -1 := by omega
        subst e2
        exact ⟨r, hr.2 hI, by omega, hr2.2 hI⟩
      · exact hA hI x (by omega)))
    clear ih hq hA
    refine mm_run_at (stop := [24, 65]) (S := K) kkX3_hasEachWordOnce 90 ?_ (fun _ _ _ _ _ _ _ h => hK _ _ _ _ _ _ h)
    repeat' (first | with_reducible assumption | ((with_reducible show mm_rv _ _ _ _ _); first | exact True.intro | exact mm_i1 | exact mm_i2 | exact his) | with_reducible exact mm_i1 | with_reducible exact mm_i2 | with_reducible exact his | ((with_reducible show mm_bool _ _); first | exact True.intro | exact Or.inl rfl | exact Or.inr rfl | (show (_ : Int) = 0 ∨ _ = 1)) | refine And.intro ?_ ?_ | intro _ | with_reducible exact True.intro | exact rfl | with_reducible exact Or.inl rfl | with_reducible exact Or.inr rfl | exact Nat.le_of_ble_eq_true rfl)
    all_goals (try simp (disch := omega) only [InI, Int.toNat_natCast, Int.tmod_eq_emod_of_nonneg, Int.tdiv_eq_ediv_of_nonneg, true_implies, true_or, or_true, mm_l18, mm_l19, mm_l20, mm_l21, mm_l22] at *)
    all_goals first | omega | exact q0 _ (by assumption) (by omega) | exact q1 _ (by assumption) _ (by assumption) (by omega) | exact nx _ (by assumption) _ (by assumption) (by omega) (by omega) _ | skip
set_option maxRecDepth 20000 in
theorem rn_X3_hasEachWordOnce : mm_RN flX3 ct_X3_hasEachWordOnce mm_x0 [] 2 0 4 kdX3_hasEachWordOnce sp_X3_hasEachWordOnce := by
  intro av M d Q h
  unfold sp_X3_hasEachWordOnce at h
  split at h
  · rename_i o w
    obtain ⟨rfl, ht, hk, hv, hq⟩ := h
    have t1 := ht.1
    have t3 := ht.2.2.1
    obtain ⟨n, hn⟩ := Int.eq_ofNat_of_zero_le t1.1
    have q1 : ¬ (0 < M 2 6 ∧ M 2 5 ≠ 0) → Q (.inl (some (mm_I 1))) M d := fun h => hq 1 ⟨Or.inr rfl, fun _ => ⟨fun _ h2 => absurd h2 h, fun _ => rfl⟩⟩
    have k24 := fun h => lp_X3_hasEachWordOnce (d := d) (Q := Q) hk ht hv hn h hq n 0 none (by omega) (fun _ x hx => by omega)
    clear hq
    obtain ⟨K, hK, hK2⟩ : ∃ K : Nat → mm_K, (∀ t ls st M d u, K t ls st M d u → rr_X3_hasEachWordOnce Q t ls st M d u) ∧ (∀ t ls st M d u, rr_X3_hasEachWordOnce Q t ls st M d u → K t ls st M d u) := ⟨rr_X3_hasEachWordOnce Q, fun _ _ _ _ _ _ h => h, fun _ _ _ _ _ _ h => h⟩
    refine ⟨Nat.le_of_ble_eq_true rfl, mm_run_at (stop := [24]) (S := K) kkX3_hasEachWordOnce 90 ?_ (fun _ _ _ _ _ _ _ h => hK _ _ _ _ _ _ h)⟩
    have k24 := fun h => hK2 _ _ _ _ _ _ (k24 h)
    repeat' (first | with_reducible assumption | ((with_reducible show mm_rv _ _ _ _ _); first | exact True.intro | exact mm_i1 | exact mm_i2) | with_reducible exact mm_i1 | with_reducible exact mm_i2 | ((with_reducible show mm_bool _ _); first | exact True.intro | exact Or.inl rfl | exact Or.inr rfl | (show (_ : Int) = 0 ∨ _ = 1)) | refine And.intro ?_ ?_ | intro _ | with_reducible exact True.intro | exact rfl | with_reducible exact Or.inl rfl | with_reducible exact Or.inr rfl | exact Nat.le_of_ble_eq_true rfl)
    all_goals (try simp (disch := omega) only [InI, Int.toNat_natCast, Int.tmod_eq_emod_of_nonneg, Int.tdiv_eq_ediv_of_nonneg, true_implies, true_or, or_true, mm_l18, mm_l19, mm_l20, mm_l21, mm_l22] at *)
    all_goals first | omega | exact k24 ⟨by omega, by omega⟩ | exact q1 (by omega) | skip
  · exact h.elim
theorem me_X3_hasEachWordOnce {l : Launch} (hl : l.stackTraces = false) : mm_Met l yX3_hasEachWordOnce cX3_hasEachWordOnce 4 (some .boolean) [] 9 169 0 sp_X3_hasEachWordOnce := mm_mt hl rn_X3_hasEachWordOnce ⟨plX3, rfl⟩ kkX3_hasEachWordOnce rfl ⟨Nat.le_of_ble_eq_true rfl, Nat.le_of_ble_eq_true rfl⟩ flkX3 (fun _ h => nomatch h) (⟨mm_pe (me_X1_isOfWords hl) mwX1_isOfWords (mm_t2 151 rfl rfl) (Nat.le_of_ble_eq_true rfl) (Nat.le_of_ble_eq_true rfl), mm_pe (me_X1_isOneWay hl) mwX1_isOneWay (mm_t1 171 rfl rfl) (Nat.le_of_ble_eq_true rfl) (Nat.le_of_ble_eq_true rfl), mm_pe (me_X1_size hl) mwX1_size (mm_t1 131 rfl rfl) (Nat.le_of_ble_eq_true rfl) (Nat.le_of_ble_eq_true rfl), mm_pe (me_X2_placeOfWord hl) mwX2_placeOfWord (mm_t2 155 rfl rfl) (Nat.le_of_ble_eq_true rfl) (Nat.le_of_ble_eq_true rfl), trivial⟩) (mm_xe0 _) n9X3
theorem in012 {r : Int} (h : r = 0 ∨ r = 1) : InI r := by rcases h with h | h <;> subst h <;> exact ⟨by omega, by omega⟩
/-- what asking leaves: but what nobody asks for -/
def qP (M M' : mm_M) : Prop := wA M' ∧ cF M M' ∧ M' 1 6 = M 1 6 ∧ fr [5, 6, 14, 15] M M'
theorem qP.c {M M' : mm_M} (h : qP M M') : cP M M' := ⟨h.1, h.2.1, h.2.2.1⟩
theorem qP.tr {M M' M'' : mm_M} (h : qP M M') (h2 : qP M' M'') : qP M M'' := ⟨h2.1, h.2.1.tr h2.2.1, h2.2.2.1.trans h.2.2.1, h.2.2.2.tr h2.2.2.2⟩
theorem wA.rfq {M : mm_M} (h : wA M) : qP M M := ⟨h, cF.rf, rfl, fr.rf⟩
theorem wA.sq {M M' : mm_M} (h : wA M) (hf : fr [5, 6] M M') : qP M M' := ⟨(h.s hf).1, (h.s hf).2.1, (h.s hf).2.2, hf.mono (by simp)⟩
theorem wA.xq {M M' : mm_M} (h : wA M) (hf : fr [14, 15, 5, 6] M M') : qP M M' := ⟨(h.x hf).1, (h.x hf).2.1, (h.x hf).2.2, hf.mono (by simp)⟩
theorem qP.se {M M' : mm_M} (h : qP M M') : SE M M' := .scr h.2.2.2
def sp_X3_isSound : mm_S := fun av M d Q => match av with
  | [.inr (.inr (.inl o))] =>  o = 1 ∧ wA M ∧ (∀ M' r, (qP M M' ∧ (r = 0 ∨ r = 1)) ∧ (WI M → sndR M r) → Q (.inl (some (mm_I r))) M' d)
  | _ => False
def ct_X3_isSound : List (Nat × mm_Ca) := [(295, (0, 1, 12, sp_X2_isTrueWalk, 0)), (298, (0, 1, 10, sp_X3_kind, 0)), (132, (0, 1, 11, sp_X1_leastStart, 0)), (301, (0, 1, 11, sp_X1_waysAddUp, 0)), (150, (0, 2, 12, sp_X2_restart, 0)), (178, (0, 2, 12, sp_X2_fillUp, 0)), (218, (0, 1, 12, sp_X2_isWhole, 0)), (212, (0, 1, 12, sp_X2_isHome, 0)), (304, (0, 2, 10, sp_X3_hasEachWordOnce, 0))]
abbrev rr_X3_isSound (Q : mm_Q) := mm_run (mm_look flX3) (mm_look ct_X3_isSound) mm_x0 (mm_look ([] : List (Nat × Int))) (fun _ => none) 2 0 (fun _ _ => none) Q kdX3_isSound
set_option maxRecDepth 20000 in
theorem k100_X3_isSound {M5 : mm_M} {d : List Nat} {Q : mm_Q} {kd ls : Int} (ht : tW M5) (hv : wV M5 14) (hk : 0 ≤ kd ∧ kd ≤ 2) (qa : M5 14 2 ≠ M5 2 4 → Q (.inl (some (mm_I 0))) M5 d) (qb : ¬ (cor M5 14 (M5 14 2) = M5 14 3 ↔ kd = 2) → Q (.inl (some (mm_I 0))) M5 d) (qc : M5 14 2 = M5 2 4 → (cor M5 14 (M5 14 2) = M5 14 3 ↔ kd = 2) → ∀ r5 : Int, (r5 = 0 ∨ r5 = 1) ∧ (WI M5 → (r5 = 1 ↔ ewO M5 14)) → (r5 = 0 → Q (.inl (some (mm_I 0))) M5 d) ∧ (r5 ≠ 0 → Q (.inl (some (mm_I 1))) M5 d)) : rr_X3_isSound Q 100 [some (mm_R 1), some (mm_I kd), some (mm_I ls)] [] M5 d 0 := by
  have k14 : isK 14 := Or.inr (Or.inr (Or.inr rfl))
  obtain ⟨K, hK, hK2⟩ : ∃ K : Nat → mm_K, (∀ t ls st M d u, K t ls st M d u → rr_X3_isSound Q t ls st M d u) ∧ (∀ t ls st M d u, rr_X3_isSound Q t ls st M d u → K t ls st M d u) := ⟨rr_X3_isSound Q, fun _ _ _ _ _ _ h => h, fun _ _ _ _ _ _ h => h⟩
  refine mm_run_at (stop := []) (S := K) kkX3_isSound 90 ?_ (fun _ _ _ _ _ _ _ h => hK _ _ _ _ _ _ h)
  repeat' (first | with_reducible assumption | ((with_reducible show mm_rv _ _ _ _ _); first | exact True.intro | exact mm_i1 | exact wk_is k14 _ _) | exact mm_i1 | exact wk_is k14 _ _ | ((with_reducible show mm_bool _ _); first | exact True.intro | exact Or.inl rfl | exact Or.inr rfl | (show (_ : Int) = 0 ∨ _ = 1)) | refine And.intro ?_ ?_ | intro _ | with_reducible exact True.intro | exact rfl | with_reducible exact Or.inl rfl | with_reducible exact Or.inr rfl | exact Nat.le_of_ble_eq_true rfl)
  all_goals (try simp (disch := omega) only [InI, Int.toNat_natCast, Int.tmod_eq_emod_of_nonneg, Int.tdiv_eq_ediv_of_nonneg, true_implies, true_or, or_true, mm_l18, mm_l19, mm_l20, mm_l21, mm_l22] at *)
  all_goals first | omega | exact qa (by omega) | exact qb (by omega) | exact (qc (by omega) (by omega) _ (by assumption)).1 (by omega) | exact (qc (by omega) (by omega) _ (by assumption)).2 (by omega) | skip
set_option maxRecDepth 20000 in
theorem k31_X3_isSound {M : mm_M} {d : List Nat} {Q : mm_Q} {x : Int} (ha : wA M) (hT : aTW M) (hq : ∀ M' r, (qP M M' ∧ (r = 0 ∨ r = 1)) ∧ (WI M → sndR M r) → Q (.inl (some (mm_I r))) M' d) : rr_X3_isSound Q 31 [some (mm_R 1), some (mm_I x), none] [] M d 0 := by
  have k14 : isK 14 := Or.inr (Or.inr (Or.inr rfl))
  obtain ⟨K, hK, hK2⟩ : ∃ K : Nat → mm_K, (∀ t ls st M d u, K t ls st M d u → rr_X3_isSound Q t ls st M d u) ∧ (∀ t ls st M d u, rr_X3_isSound Q t ls st M d u → K t ls st M d u) := ⟨rr_X3_isSound Q, fun _ _ _ _ _ _ h => h, fun _ _ _ _ _ _ h => h⟩
  have k35 : ∀ M1 r1, fr [5, 6] M M1 ∧ (0 ≤ r1 ∧ r1 ≤ 2) ∧ C_kind M M1 0 r1 → K 35 [some (mm_R 1), some (mm_I x), none] [mm_I r1] M1 d 0 := by
    intro M1 r1 h1
    obtain ⟨f1, hr1, -, hkd, -⟩ := h1
    have hP1 := ha.sq f1
    have ht1 := hP1.1.1
    have k43 : ∀ M2 r2, fr [5, 6] M1 M2 ∧ ((r2 = -1 ∧ ∀ c : Nat, c < 10 → ¬ ST (M1 3) (M1 4) (M1 2 4).toNat (M1 2 5) (2 ^ (M1 2 4).toNat - 1) c) ∨ (0 ≤ r2 ∧ r2 < 10 ∧ ST (M1 3) (M1 4) (M1 2 4).toNat (M1 2 5) (2 ^ (M1 2 4).toNat - 1) r2 ∧ ∀ c : Nat, c < r2 → ¬ ST (M1 3) (M1 4) (M1 2 4).toNat (M1 2 5) (2 ^ (M1 2 4).toNat - 1) c)) → K 43 [some (mm_R 1), some (mm_I r1), none] [mm_I r2] M2 d 0 := by
      intro M2 r2 h2
      obtain ⟨f2, hr2⟩ := h2
      have hP2 := hP1.tr (hP1.1.sq f2)
      have ht2 := hP2.1.1
      have hls : lsR M r2 := by
        rw [f1 2 (by simp), f1 3 (by simp), f1 4 (by simp)] at hr2
        exact hr2
      have b2 : -1 ≤ r2 ∧ r2 < 10 := by rcases hr2 with h | h <;> omega
      clear hr2
      have k51 : ∀ M3, fr [5, 6] M2 M3 → K 51 [some (mm_R 1), some (mm_I r1), some (mm_I r2)] [mm_I 1] M3 d 0 := by
        intro M3 f3
        have hP3 := hP2.tr (hP2.1.sq f3)
        have f13 : fr [5, 6] M M3 := f1.tr (f2.tr f3)
        have qd : ¬ (0 < r1 ↔ 0 ≤ r2) → Q (.inl (some (mm_I 0))) M3 d := fun h => hq M3 0 ⟨⟨hP3, Or.inl rfl⟩, fun _ => Or.inr ⟨hT, r1, r2, hkd, hls, Or.inl ⟨h, rfl⟩⟩⟩
        have qe : (0 < r1 ↔ 0 ≤ r2) → r2 < 0 → Q (.inl (some (mm_I 1))) M3 d := fun h h2 => hq M3 1 ⟨⟨hP3, Or.inr rfl⟩, fun _ => Or.inr ⟨hT, r1, r2, hkd, hls, Or.inr ⟨h, Or.inl ⟨by omega, rfl⟩⟩⟩⟩
        have k83 : (0 < r1 ↔ 0 ≤ r2) → 0 ≤ r2 → K 83 [some (mm_R 1), some (mm_I r1), some (mm_I r2)] [] M3 d 0 := by
          intro hc hr0
          have hv4 : wV (bgM M3 14 r2) 14 := ⟨by simp [bgM, mm_up], by simp [bgM, mm_up]; omega, fun j hj => by simp [bgM, mm_up] at hj; omega⟩
          have hD4 : wD (bgM M3 14 r2) 14 := wD_0 (by simp [bgM, mm_up])
          have hP4 : qP M (bgM M3 14 r2) := hP3.tr (hP3.1.xq ((fr.rf.up (by simp)).up (by simp)))
          have ht4 := hP4.1.1
          have k100 : ∀ M5 (c : Nat), fr [14, 15] (bgM M3 14 r2) M5 ∧ wV M5 14 ∧ wD M5 14 ∧ M5 14 2 = bgM M3 14 r2 14 2 + c ∧ comR 1 14 (bgM M3 14 r2) M5 c → K 100 [some (mm_R 1), some (mm_I r1), some (mm_I r2)] [] M5 d 0 := by
            intro M5 c h5
            obtain ⟨g1, g2, g3, g4, g5⟩ := h5
            have hP5 : qP M M5 := hP4.tr (hP4.1.xq (g1.mono (by simp)))
            have e2 : M5 2 = M 2 := hP5.2.2.2 2 (by simp)
            have hwi : WI M → WI M5 := fun h => WI_2' e2 h
            have fin : ∀ r : Int, (r = 0 ∨ r = 1) → (WI M → (r = 1 ↔ gdR M M5 r1)) → Q (.inl (some (mm_I r))) M5 d := fun r hr h => hq M5 r ⟨⟨hP5, hr⟩, fun hI => Or.inr ⟨hT, r1, r2, hkd, hls, Or.inr ⟨hc, Or.inr ⟨hr0, M3, M5, c, f13, g5, g1, hr, h hI⟩⟩⟩⟩
            refine hK2 _ _ _ _ _ _ (k100_X3_isSound hP5.1.1 g2 hr1 (fun h => fin 0 (Or.inl rfl) (fun _ => ⟨fun h2 => by omega, fun h2 => absurd (by rw [e2]; exact h2.1) h⟩)) (fun h => fin 0 (Or.inl rfl) (fun _ => ⟨fun h2 => by omega, fun h2 => absurd h2.2.1 h⟩)) (fun h1 h2 r5 h5 => ⟨fun e => fin 0 (Or.inl rfl) (fun hI => ⟨fun h => by omega, fun h => by have := (h5.2 (hwi hI)).mpr h.2.2; omega⟩), fun e => fin 1 (Or.inr rfl) (fun hI => ⟨fun _ => ⟨by rw [h1, e2], h2, (h5.2 (hwi hI)).mp (by omega)⟩, fun _ => rfl⟩)⟩))
          clear hq qd qe
          refine hK2 _ _ _ _ _ _ ?_
          refine mm_run_at (stop := [100]) (S := K) kkX3_isSound 90 ?_ (fun _ _ _ _ _ _ _ h => hK _ _ _ _ _ _ h)
          repeat' (first | with_reducible assumption | ((with_reducible show mm_rv _ _ _ _ _); first | exact True.intro | exact mm_i1 | exact wk_is k14 _ _ | exact k14 | ((with_reducible show tW _); exact ht4) | ((with_reducible show wV _ _); exact hv4) | ((with_reducible show wD _ _); exact hD4)) | exact mm_i1 | exact wk_is k14 _ _ | exact k14 | ((with_reducible show tW _); exact ht4) | ((with_reducible show wV _ _); exact hv4) | ((with_reducible show wD _ _); exact hD4) | ((with_reducible show mm_bool _ _); first | exact True.intro | exact Or.inl rfl | exact Or.inr rfl | (show (_ : Int) = 0 ∨ _ = 1)) | refine And.intro ?_ ?_ | intro _ | with_reducible exact True.intro | exact rfl | with_reducible exact Or.inl rfl | with_reducible exact Or.inr rfl | exact Nat.le_of_ble_eq_true rfl)
          all_goals (try simp (disch := omega) only [InI, Int.toNat_natCast, Int.tmod_eq_emod_of_nonneg, Int.tdiv_eq_ediv_of_nonneg, true_implies, true_or, or_true, mm_l18, mm_l19, mm_l20, mm_l21, mm_l22] at *)
          all_goals first | omega | exact k100 _ _ (by assumption) | skip
        clear hq
        refine hK2 _ _ _ _ _ _ ?_
        refine mm_run_at (stop := [83]) (S := K) kkX3_isSound 90 ?_ (fun _ _ _ _ _ _ _ h => hK _ _ _ _ _ _ h)
        repeat' (first | with_reducible assumption | ((with_reducible show mm_rv _ _ _ _ _); first | exact True.intro | exact mm_i1) | exact mm_i1 | ((with_reducible show mm_bool _ _); first | exact True.intro | exact Or.inl rfl | exact Or.inr rfl | (show (_ : Int) = 0 ∨ _ = 1)) | refine And.intro ?_ ?_ | intro _ | with_reducible exact True.intro | exact rfl | with_reducible exact Or.inl rfl | with_reducible exact Or.inr rfl | exact Nat.le_of_ble_eq_true rfl)
        all_goals (try simp (disch := omega) only [InI, Int.toNat_natCast, Int.tmod_eq_emod_of_nonneg, Int.tdiv_eq_ediv_of_nonneg, true_implies, true_or, or_true, mm_l18, mm_l19, mm_l20, mm_l21, mm_l22] at *)
        all_goals first | omega | exact qd (by omega) | exact qe (by omega) (by omega) | exact k83 (by omega) (by omega) | skip
      clear hq
      refine hK2 _ _ _ _ _ _ ?_
      refine mm_run_at (stop := [51]) (S := K) kkX3_isSound 90 ?_ (fun _ _ _ _ _ _ _ h => hK _ _ _ _ _ _ h)
      repeat' (first | with_reducible assumption | ((with_reducible show mm_rv _ _ _ _ _); first | exact True.intro | exact mm_i1 | exact mm_i2) | exact mm_i1 | exact mm_i2 | ((with_reducible show mm_bool _ _); first | exact True.intro | exact Or.inl rfl | exact Or.inr rfl | (show (_ : Int) = 0 ∨ _ = 1)) | refine And.intro ?_ ?_ | intro _ | with_reducible exact True.intro | exact rfl | with_reducible exact Or.inl rfl | with_reducible exact Or.inr rfl | exact Nat.le_of_ble_eq_true rfl)
      all_goals (try simp (disch := omega) only [InI, Int.toNat_natCast, Int.tmod_eq_emod_of_nonneg, Int.tdiv_eq_ediv_of_nonneg, true_implies, true_or, or_true, mm_l18, mm_l19, mm_l20, mm_l21, mm_l22] at *)
      all_goals first | omega | exact k51 _ (by assumption) | skip
    clear hq
    refine hK2 _ _ _ _ _ _ ?_
    refine mm_run_at (stop := [43]) (S := K) kkX3_isSound 90 ?_ (fun _ _ _ _ _ _ _ h => hK _ _ _ _ _ _ h)
    repeat' (first | with_reducible assumption | ((with_reducible show mm_rv _ _ _ _ _); first | exact True.intro | exact mm_i1 | exact mm_i2) | exact mm_i1 | exact mm_i2 | ((with_reducible show mm_bool _ _); first | exact True.intro | exact Or.inl rfl | exact Or.inr rfl | (show (_ : Int) = 0 ∨ _ = 1)) | refine And.intro ?_ ?_ | intro _ | with_reducible exact True.intro | exact rfl | with_reducible exact Or.inl rfl | with_reducible exact Or.inr rfl | exact Nat.le_of_ble_eq_true rfl)
    all_goals (try simp (disch := omega) only [InI, Int.toNat_natCast, Int.tmod_eq_emod_of_nonneg, Int.tdiv_eq_ediv_of_nonneg, true_implies, true_or, or_true, mm_l18, mm_l19, mm_l20, mm_l21, mm_l22] at *)
    all_goals first | omega | exact k43 _ _ (by assumption) | skip
  clear hq
  refine mm_run_at (stop := [35]) (S := K) kkX3_isSound 90 ?_ (fun _ _ _ _ _ _ _ h => hK _ _ _ _ _ _ h)
  repeat' (first | with_reducible assumption | ((with_reducible show mm_rv _ _ _ _ _); first | exact True.intro | exact mm_i1) | exact mm_i1 | ((with_reducible show mm_bool _ _); first | exact True.intro | exact Or.inl rfl | exact Or.inr rfl | (show (_ : Int) = 0 ∨ _ = 1)) | refine And.intro ?_ ?_ | intro _ | with_reducible exact True.intro | exact rfl | with_reducible exact Or.inl rfl | with_reducible exact Or.inr rfl | exact Nat.le_of_ble_eq_true rfl)
  all_goals (try simp (disch := omega) only [InI, Int.toNat_natCast, Int.tmod_eq_emod_of_nonneg, Int.tdiv_eq_ediv_of_nonneg, true_implies, true_or, or_true, mm_l18, mm_l19, mm_l20, mm_l21, mm_l22] at *)
  all_goals first | omega | exact k35 _ _ (by assumption) | skip
set_option maxRecDepth 20000 in
theorem lp_X3_isSound {M : mm_M} {d : List Nat} {Q : mm_Q} (ha : wA M) (hq : ∀ M' r, (qP M M' ∧ (r = 0 ∨ r = 1)) ∧ (WI M → sndR M r) → Q (.inl (some (mm_I r))) M' d) : ∀ (k i : Nat), i + k = 3 → (∀ j, j < i → TWk M (8 + 2 * j)) → rr_X3_isSound Q 2 [some (mm_R 1), some (mm_I i), none] [] M d 0 := by
  intro k
  induction k with
  | zero =>
    intro i hi hT
    have hT3 : aTW M := fun w hw => by
      rcases hw with rfl | rfl | rfl
      · exact hT 0 (by omega)
      · exact hT 1 (by omega)
      · exact hT 2 (by omega)
    have k31 := k31_X3_isSound (d := d) (Q := Q) (x := i) ha hT3 hq
    clear hq hT hT3
    obtain ⟨K, hK, hK2⟩ : ∃ K : Nat → mm_K, (∀ t ls st M d u, K t ls st M d u → rr_X3_isSound Q t ls st M d u) ∧ (∀ t ls st M d u, rr_X3_isSound Q t ls st M d u → K t ls st M d u) := ⟨rr_X3_isSound Q, fun _ _ _ _ _ _ h => h, fun _ _ _ _ _ _ h => h⟩
    have k31 := hK2 _ _ _ _ _ _ k31
    refine mm_run_at (stop := [11, 31]) (S := K) kkX3_isSound 90 ?_ (fun _ _ _ _ _ _ _ h => hK _ _ _ _ _ _ h)
    repeat' (first | with_reducible assumption | ((with_reducible show mm_rv _ _ _ _ _); first | exact True.intro | exact mm_i1 | exact Or.inr mm_i7) | with_reducible exact mm_i1 | with_reducible exact Or.inr mm_i7 | ((with_reducible show mm_bool _ _); first | exact True.intro | exact Or.inl rfl | exact Or.inr rfl | (show (_ : Int) = 0 ∨ _ = 1)) | refine And.intro ?_ ?_ | intro _ | with_reducible exact True.intro | exact rfl | with_reducible exact Or.inl rfl | with_reducible exact Or.inr rfl | exact Nat.le_of_ble_eq_true rfl)
    all_goals (try simp (disch := omega) only [mm_l7, InI, Int.toNat_natCast, Int.tmod_eq_emod_of_nonneg, Int.tdiv_eq_ediv_of_nonneg, true_implies, true_or, or_true, mm_l18, mm_l19, mm_l20, mm_l21, mm_l22] at *)
    all_goals first | omega | exact k31 | skip
  | succ k ih =>
    intro i hi hT
    have hk3 : isW3 (8 + 2 * (i : Int).toNat) := by unfold isW3; omega
    have hk := hk3.k
    have his := wk_is hk M d
    obtain ⟨hv, hD⟩ := ha.2.1 _ hk3
    have ht := ha.1
    have ei : (i : Int).toNat = i := Int.toNat_natCast i
    obtain ⟨K, hK, hK2⟩ : ∃ K : Nat → mm_K, (∀ t ls st M d u, K t ls st M d u → rr_X3_isSound Q t ls st M d u) ∧ (∀ t ls st M d u, rr_X3_isSound Q t ls st M d u → K t ls st M d u) := ⟨rr_X3_isSound Q, fun _ _ _ _ _ _ h => h, fun _ _ _ _ _ _ h => h⟩
    have nx : ∀ r : Int, (r = 0 ∨ r = 1) ∧ (r = 1 ↔ TWk M (8 + 2 * (i : Int).toNat)) → r ≠ 0 → K 2 [some (mm_R 1), some (mm_I ((i : Int) + 1)), none] [] M d 0 := fun r hr h => hK2 _ _ _ _ _ _ (ih (i + 1) (by omega) (fun j hj => by
      by_cases e : j = i
      · rw [e, ← ei]
        exact hr.2.mp (by omega)
      · exact hT j (by omega)))
    have q0 : ∀ r : Int, (r = 0 ∨ r = 1) ∧ (r = 1 ↔ TWk M (8 + 2 * (i : Int).toNat)) → r = 0 → Q (.inl (some (mm_I 0))) M d := fun r hr h => hq M 0 ⟨⟨ha.rfq, Or.inl rfl⟩, fun _ => Or.inl ⟨fun h2 => by have := hr.2.mpr (h2 _ hk3); omega, rfl⟩⟩
    clear ih hq hT hk3 ei
    refine mm_run_at (stop := [2, 31]) (S := K) kkX3_isSound 90 ?_ (fun _ _ _ _ _ _ _ h => hK _ _ _ _ _ _ h)
    repeat' (first | with_reducible assumption | ((with_reducible show mm_rv _ _ _ _ _); first | exact True.intro | exact mm_i1 | exact Or.inr mm_i7 | exact mm_i7 | exact his) | with_reducible exact mm_i1 | with_reducible exact Or.inr mm_i7 | with_reducible exact mm_i7 | with_reducible exact his | ((with_reducible show mm_bool _ _); first | exact True.intro | exact Or.inl rfl | exact Or.inr rfl | (show (_ : Int) = 0 ∨ _ = 1)) | refine And.intro ?_ ?_ | intro _ | with_reducible exact True.intro | exact rfl | with_reducible exact Or.inl rfl | with_reducible exact Or.inr rfl | exact Nat.le_of_ble_eq_true rfl)
    all_goals (try simp (disch := omega) only [mm_l7, InI, Int.toNat_natCast, Int.tmod_eq_emod_of_nonneg, Int.tdiv_eq_ediv_of_nonneg, true_implies, true_or, or_true, mm_l18, mm_l19, mm_l20, mm_l21, mm_l22] at *)
    all_goals first | omega | exact q0 _ (by assumption) (by omega) | exact nx _ (by assumption) (by omega) | skip
set_option maxRecDepth 20000 in
theorem rn_X3_isSound : mm_RN flX3 ct_X3_isSound mm_x0 [] 2 0 3 kdX3_isSound sp_X3_isSound := by
  intro av M d Q h
  unfold sp_X3_isSound at h
  split at h
  · rename_i o
    obtain ⟨rfl, ha, hq⟩ := h
    have k2 := lp_X3_isSound (d := d) (Q := Q) ha hq 3 0 (by omega) (fun j hj => by omega)
    clear hq
    obtain ⟨K, hK, hK2⟩ : ∃ K : Nat → mm_K, (∀ t ls st M d u, K t ls st M d u → rr_X3_isSound Q t ls st M d u) ∧ (∀ t ls st M d u, rr_X3_isSound Q t ls st M d u → K t ls st M d u) := ⟨rr_X3_isSound Q, fun _ _ _ _ _ _ h => h, fun _ _ _ _ _ _ h => h⟩
    refine ⟨Nat.le_of_ble_eq_true rfl, mm_run_at (stop := [2]) (S := K) kkX3_isSound 90 ?_ (fun _ _ _ _ _ _ _ h => hK _ _ _ _ _ _ h)⟩
    have k2 := hK2 _ _ _ _ _ _ k2
    repeat' (first | with_reducible assumption | ((with_reducible show mm_rv _ _ _ _ _); first | exact True.intro) | ((with_reducible show mm_bool _ _); first | exact True.intro | exact Or.inl rfl | exact Or.inr rfl | (show (_ : Int) = 0 ∨ _ = 1)) | refine And.intro ?_ ?_ | intro _ | with_reducible exact True.intro | exact rfl | with_reducible exact Or.inl rfl | with_reducible exact Or.inr rfl | exact Nat.le_of_ble_eq_true rfl)
    all_goals (try simp (disch := omega) only [InI, Int.toNat_natCast, Int.tmod_eq_emod_of_nonneg, Int.tdiv_eq_ediv_of_nonneg, true_implies, true_or, or_true, mm_l18, mm_l19, mm_l20, mm_l21, mm_l22] at *)
    all_goals first | omega | exact k2 | skip
  · exact h.elim
theorem me_X3_isSound {l : Launch} (hl : l.stackTraces = false) : mm_Met l yX3_isSound cX3_isSound 3 (some .boolean) [] 12 228 0 sp_X3_isSound := mm_mt hl rn_X3_isSound ⟨plX3, rfl⟩ kkX3_isSound rfl ⟨Nat.le_of_ble_eq_true rfl, Nat.le_of_ble_eq_true rfl⟩ flkX3 (fun _ h => nomatch h) (⟨mm_pe (me_X2_isTrueWalk hl) mwX2_isTrueWalk (mm_t2 94 rfl rfl) (Nat.le_of_ble_eq_true rfl) (Nat.le_of_ble_eq_true rfl), mm_pe (me_X3_kind hl) mwX3_kind (mm_t2 111 rfl rfl) (Nat.le_of_ble_eq_true rfl) (Nat.le_of_ble_eq_true rfl), mm_pe (me_X1_leastStart hl) mwX1_leastStart (mm_t2 20 rfl rfl) (Nat.le_of_ble_eq_true rfl) (Nat.le_of_ble_eq_true rfl), mm_pe (me_X1_waysAddUp hl) mwX1_waysAddUp (mm_t2 112 rfl rfl) (Nat.le_of_ble_eq_true rfl) (Nat.le_of_ble_eq_true rfl), mm_pe (me_X2_restart hl) mwX2_restart (mm_t1 147 rfl rfl) (Nat.le_of_ble_eq_true rfl) (Nat.le_of_ble_eq_true rfl), mm_pe (me_X2_fillUp hl) mwX2_fillUp (mm_t2 116 rfl rfl) (Nat.le_of_ble_eq_true rfl) (Nat.le_of_ble_eq_true rfl), mm_pe (me_X2_isWhole hl) mwX2_isWhole (mm_t2 138 rfl rfl) (Nat.le_of_ble_eq_true rfl) (Nat.le_of_ble_eq_true rfl), mm_pe (me_X2_isHome hl) mwX2_isHome (mm_t2 143 rfl rfl) (Nat.le_of_ble_eq_true rfl) (Nat.le_of_ble_eq_true rfl), mm_pe (me_X3_hasEachWordOnce hl) mwX3_hasEachWordOnce (mm_t2 147 rfl rfl) (Nat.le_of_ble_eq_true rfl) (Nat.le_of_ble_eq_true rfl), trivial⟩) (mm_xe0 _) n9X3
def sp_X3_numberAt : mm_S := fun av M d Q => match av with
  | [.inr (.inr (.inl o)), .inr (.inr (.inl w)), .inl p, .inl x] =>  o = 1 ∧ wA M ∧ isW3 w ∧ (0 ≤ x ∧ x ≤ 2) ∧ (0 ≤ p ∧ p ≤ M w 2) ∧ (x ≠ 0 → p < M w 2) ∧ ∀ r, (0 ≤ r ∧ r ≤ 60) → Q (.inl (some (mm_I r))) M d
  | _ => False
def ct_X3_numberAt : List (Nat × mm_Ca) := [(188, (0, 2, 12, sp_X2_cornerOf, 0)), (227, (0, 2, 12, sp_X2_stepOf, 0)), (363, (0, 2, 11, sp_X1_signOf, 0))]
abbrev rr_X3_numberAt (Q : mm_Q) := mm_run (mm_look flX3) (mm_look ct_X3_numberAt) mm_x0 (mm_look ([] : List (Nat × Int))) (fun _ => none) 1 0 (fun _ _ => none) Q kdX3_numberAt
set_option maxRecDepth 20000 in
theorem rn_X3_numberAt : mm_RN flX3 ct_X3_numberAt mm_x0 [] 1 0 5 kdX3_numberAt sp_X3_numberAt := by
  intro av M d Q h
  unfold sp_X3_numberAt at h
  split at h
  · rename_i o w p x
    obtain ⟨rfl, ha, hw, hx, hp, hp2, hq⟩ := h
    have hk := hw.k
    have hs := wk_is hk M d
    have hv := (ha.2.1 w hw).1
    have v1 := hv.1
    have t1 := ha.1.1
    have hip : InI p := ⟨by omega, by omega⟩
    have t4 := ha.1.2.2.2
    refine ⟨Nat.le_of_ble_eq_true rfl, mm_run_at (stop := []) (S := mm_F0) kkX3_numberAt 80 ?_ mm_F0h⟩
    simp only [mm_wp, mm_op, mm_nxt, mm_jmp, mm_at, mm_in, mm_nth, mm_set, mm_ok, mm_isL, mm_ret, mm_isRet, mm_bool, mm_call, mm_push, mm_rv, mm_cats, mm_cat, mm_look, mm_ft, mm_fv, mm_pf, mm_thr, mm_ent, mm_pad, mm_fl, beq_self_eq_true, cond_true, cond_false, Nat.reduceBEq, Nat.reduceEqDiff, List.drop_succ_cons, List.drop_zero, List.take_succ_cons, List.take_zero, List.reverse_cons, List.reverse_nil, List.nil_append, List.cons_append, List.length_cons, List.length_nil, Nat.reduceAdd, Nat.reduceSub, Nat.reduceLeDiff, Bool.not_false, Bool.and_true, Bool.true_and, Nat.zero_add, true_and, and_true, Nat.le_refl, true_or, or_true, reduceCtorEq, Nat.add_zero, Nat.reduceLT, Bool.and_self, Bool.not_true, Fin.isValue, Nat.reduceLeDiff, List.take_nil, List.drop_nil, mm_i1, mm_i2, mm_i3, mm_i4, mm_i5, mm_i6, mm_i7, mm_i16, mm_i17, mm_i18, mm_i19, mm_i20, mm_i21, mm_i22, mm_i23, mm_l3, mm_l4, mm_l5, mm_l6, mm_l7, mm_l18, mm_l19, mm_l20, mm_l21, mm_l22, kdX3_numberAt, ct_X3_numberAt, flX3, sp_X2_cornerOf, sp_X2_stepOf, sp_X1_signOf, wk_mm hk, tp1]
    refine ⟨⟨by omega, by omega⟩, fun h0 => ⟨hs, hk, ha.1, hv, hip, fun r hr => ?_⟩, fun h0 => ⟨hs, hk, ha.1, hv, hip, fun r hr => hq r ⟨by omega, by omega⟩⟩⟩
    have hs0 := hv.2.2 p.toNat (by omega)
    have er : r = M (w + 1) p.toNat := by
      rw [hr.1]
      unfold stp
      rw [if_pos (by omega)]
    refine ⟨⟨by omega, by omega⟩, by omega, ⟨by omega, by omega⟩, ⟨by omega, by omega⟩, fun h1 => ⟨ha.1, by omega, fun r1 hr1 => hq r1 ?_⟩, fun h1 => hq _ ⟨by omega, by omega⟩⟩
    by_cases h6 : 0 < M 2 6
    · have := (hr1.1 h6).2
      omega
    · have := hr1.2 (by omega)
      omega
  · exact h.elim
theorem me_X3_numberAt {l : Launch} (hl : l.stackTraces = false) : mm_Met l yX3_numberAt cX3_numberAt 5 (some .int) [] 9 164 0 sp_X3_numberAt := mm_mt hl rn_X3_numberAt ⟨plX3, rfl⟩ kkX3_numberAt rfl ⟨Nat.le_of_ble_eq_true rfl, Nat.le_of_ble_eq_true rfl⟩ flkX3 (fun _ h => nomatch h) (⟨mm_pe (me_X2_cornerOf hl) mwX2_cornerOf (mm_t4 35 rfl rfl) (Nat.le_of_ble_eq_true rfl) (Nat.le_of_ble_eq_true rfl), mm_pe (me_X2_stepOf hl) mwX2_stepOf (mm_t3 46 rfl rfl) (Nat.le_of_ble_eq_true rfl) (Nat.le_of_ble_eq_true rfl), mm_pe (me_X1_signOf hl) mwX1_signOf (mm_t5 78 rfl rfl) (Nat.le_of_ble_eq_true rfl) (Nat.le_of_ble_eq_true rfl), trivial⟩) (mm_xe0 _) n9X3

