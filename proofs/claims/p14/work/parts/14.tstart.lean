/-! the class's town: starts -/
theorem inI2 {P : Prop} {r : Int} (h : (P → r = 1) ∧ (¬ P → r = 0)) : InI r := by
  rcases Classical.em P with h9 | h9
  · rw [h.1 h9]; exact ⟨by omega, by omega⟩
  · rw [h.2 h9]; exact ⟨by omega, by omega⟩
theorem in01 {P : Prop} {r : Int} (h : (P → r = 1) ∧ (¬ P → r = 0)) : r = 0 ∨ r = 1 := by
  rcases Classical.em P with h9 | h9
  · exact Or.inr (h.1 h9)
  · exact Or.inl (h.2 h9)
def sp_X1_isStartOf : mm_S := fun av M d Q => match av with
  | [.inr (.inr (.inl o)), .inl S, .inl c] =>  o = 2 ∧ tW M ∧ (0 ≤ S ∧ S < 1073741824) ∧ (0 ≤ c ∧ c < 10) ∧ ∀ M' r, fr [5, 6] M M' ∧ (ST (M 3) (M 4) (M 2 4).toNat (M 2 5) S c → r = 1) ∧ (¬ ST (M 3) (M 4) (M 2 4).toNat (M 2 5) S c → r = 0) → Q (.inl (some (mm_I r))) M' d
  | _ => False
def ct_X1_isStartOf : List (Nat × mm_Ca) := [(38, (1, 1, 0, sp_X1_isCorner, 0)), (84, (0, 2, 11, sp_X1_hangTogether, 0)), (87, (0, 2, 11, sp_X1_oddCount, 0)), (74, (0, 2, 11, sp_X1_isOddAsCounted, 0))]
abbrev rr_X1_isStartOf (Q : mm_Q) := mm_run (mm_look flX1) (mm_look ct_X1_isStartOf) mm_x0 (mm_look ([] : List (Nat × Int))) (fun _ => none) 2 0 (fun _ _ => none) Q kdX1_isStartOf
set_option maxRecDepth 20000 in
theorem rn_X1_isStartOf : mm_RN flX1 ct_X1_isStartOf mm_x0 [] 2 0 4 kdX1_isStartOf sp_X1_isStartOf := by
  intro av M d Q h
  unfold sp_X1_isStartOf at h
  split at h
  · rename_i o S c
    obtain ⟨rfl, ht, hS, hc, hq⟩ := h
    have h1 := ht.1
    have h15 := ht.2.2.1
    have hy : ∀ M' (_ : fr [5, 6] M M') (_ : ST (M 3) (M 4) (M 2 4).toNat (M 2 5) S c), Q (.inl (some (mm_I 1))) M' d := fun M' h h2 => hq M' 1 ⟨h, fun _ => rfl, fun h3 => absurd h2 h3⟩
    have hn : ∀ M' (_ : fr [5, 6] M M') (_ : ¬ ST (M 3) (M 4) (M 2 4).toNat (M 2 5) S c), Q (.inl (some (mm_I 0))) M' d := fun M' h h2 => hq M' 0 ⟨h, fun h3 => absurd h3 h2, fun _ => rfl⟩
    refine ⟨Nat.le_of_ble_eq_true rfl, mm_run_at (stop := []) (S := mm_F0) kkX1_isStartOf 80 ?_ mm_F0h⟩
    simp only [mm_wp, mm_op, mm_nxt, mm_jmp, mm_at, mm_in, mm_nth, mm_set, mm_ok, mm_isL, mm_ret, mm_isRet, mm_bool, mm_call, mm_push, mm_rv, mm_cats, mm_cat, mm_look, mm_ft, mm_fv, mm_pf, mm_thr, mm_ent, mm_pad, mm_fl, beq_self_eq_true, cond_true, cond_false, Nat.reduceBEq, Nat.reduceEqDiff, List.drop_succ_cons, List.drop_zero, List.take_succ_cons, List.take_zero, List.reverse_cons, List.reverse_nil, List.nil_append, List.cons_append, List.length_cons, List.length_nil, Nat.reduceAdd, Nat.reduceSub, Nat.reduceLeDiff, Bool.not_false, Bool.and_true, Bool.true_and, Nat.zero_add, true_and, and_true, Nat.le_refl, true_or, or_true, reduceCtorEq, Nat.add_zero, Nat.reduceLT, Bool.and_self, Bool.not_true, Fin.isValue, Nat.reduceLeDiff, List.take_nil, List.drop_nil, mm_i1, mm_i2, mm_i3, mm_i4, mm_i5, mm_i6, mm_i7, mm_i16, mm_i17, mm_i18, mm_i19, mm_i20, mm_i21, mm_i22, mm_i23, mm_l3, mm_l4, mm_l5, mm_l6, mm_l7, mm_l18, mm_l19, mm_l20, mm_l21, mm_l22, kdX1_isStartOf, ct_X1_isStartOf, flX1, sp_X1_isCorner, sp_X1_hangTogether, sp_X1_oddCount, sp_X1_isOddAsCounted]
    refine ⟨⟨by omega, by omega⟩, fun h => ⟨⟨by omega, by omega⟩, fun r hr => ⟨⟨by omega, by omega⟩, fun h2 => by omega, fun _ => ⟨ht, hS, fun r2 hr2 => ⟨inI2 hr2, fun h3 => ?_, fun h3 => ?_⟩⟩⟩⟩, fun h => hy M fr.rf (Or.inl h)⟩
    · refine ⟨ht, hS, fun M' r3 ⟨h5, h6, h7, h8⟩ => ?_⟩
      have hH : HG (M 3) (M 4) (M 2 4).toNat S := Classical.byContradiction fun h9 => h3 (hr2.2 h9)
      have e2 : M' 2 = M 2 := h5 2 (by simp)
      have e5 := (h6 c.toNat (by omega)).1
      have e6 := (h6 c.toNat (by omega)).2
      rw [show ((c.toNat : Nat) : Int) = c by omega] at e5 e6
      have b5 := oc_le (M 3) S c (M 2 4).toNat
      have b6 := oc_le (M 4) S c (M 2 4).toNat
      rw [e2, e5, e6]
      have hST : ST (M 3) (M 4) (M 2 4).toNat (M 2 5) S c ↔ ((r3 = 0 ∧ 0 < oc (M 3) S c (M 2 4).toNat + oc (M 4) S c (M 2 4).toNat) ∨
        (r3 = 2 ∧ ((M 2 5 = 0 ∧ (oc (M 3) S c (M 2 4).toNat + oc (M 4) S c (M 2 4).toNat) % 2 = 1) ∨ (M 2 5 ≠ 0 ∧ oc (M 3) S c (M 2 4).toNat = oc (M 4) S c (M 2 4).toNat + 1)))) := by
        unfold ST
        rw [← h7]
        constructor
        · rintro (h9 | h9)
          · exact absurd h9 h
          · exact h9.2
        · exact fun h9 => Or.inr ⟨hH, h9⟩
      have ht' := ht.fr h5 (by simp) (by simp) (by simp)
      repeat' (first | assumption | apply And.intro | (intro _))
      all_goals first
        | omega
        | (refine hy M' h5 (hST.mpr ?_); omega)
        | (refine hn M' h5 (fun h9 => ?_); rw [hST] at h9; omega)
    · refine hn M fr.rf (fun h9 => ?_)
      rcases h9 with h9 | h9
      · exact h h9
      · have := hr2.1 h9.1
        omega
  · exact h.elim
theorem me_X1_isStartOf {l : Launch} (hl : l.stackTraces = false) : mm_Met l yX1_isStartOf cX1_isStartOf 4 (some .boolean) [] 9 164 0 sp_X1_isStartOf := mm_mt hl rn_X1_isStartOf ⟨plX1, rfl⟩ kkX1_isStartOf rfl ⟨Nat.le_of_ble_eq_true rfl, Nat.le_of_ble_eq_true rfl⟩ flkX1 (fun _ h => nomatch h) (⟨mm_pe (me_X1_isCorner hl) mwX1_isCorner (mm_t1 236 rfl rfl) (Nat.le_of_ble_eq_true rfl) (Nat.le_of_ble_eq_true rfl), mm_pe (me_X1_hangTogether hl) mwX1_hangTogether (mm_t2 29 rfl rfl) (Nat.le_of_ble_eq_true rfl) (Nat.le_of_ble_eq_true rfl), mm_pe (me_X1_oddCount hl) mwX1_oddCount (mm_t2 30 rfl rfl) (Nat.le_of_ble_eq_true rfl) (Nat.le_of_ble_eq_true rfl), mm_pe (me_X1_isOddAsCounted hl) mwX1_isOddAsCounted (mm_t1 232 rfl rfl) (Nat.le_of_ble_eq_true rfl) (Nat.le_of_ble_eq_true rfl), trivial⟩) (mm_xe0 _) n9X1
def sp_X1_leastStart : mm_S := fun av M d Q => match av with
  | [.inr (.inr (.inl o))] =>  o = 2 ∧ tW M ∧ ∀ M' r, fr [5, 6] M M' ∧ ((r = -1 ∧ ∀ c : Nat, c < 10 → ¬ ST (M 3) (M 4) (M 2 4).toNat (M 2 5) (2 ^ (M 2 4).toNat - 1) c) ∨ (0 ≤ r ∧ r < 10 ∧ ST (M 3) (M 4) (M 2 4).toNat (M 2 5) (2 ^ (M 2 4).toNat - 1) r ∧ ∀ c : Nat, c < r → ¬ ST (M 3) (M 4) (M 2 4).toNat (M 2 5) (2 ^ (M 2 4).toNat - 1) c)) → Q (.inl (some (mm_I r))) M' d
  | _ => False
def ct_X1_leastStart : List (Nat × mm_Ca) := [(66, (0, 1, 11, sp_X1_allStreets, 0)), (90, (0, 3, 11, sp_X1_isStartOf, 0))]
abbrev rr_X1_leastStart (Q : mm_Q) := mm_run (mm_look flX1) (mm_look ct_X1_leastStart) mm_x0 (mm_look ([] : List (Nat × Int))) (fun _ => none) 1 0 (fun _ _ => none) Q kdX1_leastStart
set_option maxRecDepth 20000 in
theorem lp_X1_leastStart {M0 : mm_M} {d : List Nat} {Q : mm_Q} (ht : tW M0) (hq : ∀ M' r, fr [5, 6] M0 M' ∧ ((r = -1 ∧ ∀ c : Nat, c < 10 → ¬ ST (M0 3) (M0 4) (M0 2 4).toNat (M0 2 5) (2 ^ (M0 2 4).toNat - 1) c) ∨ (0 ≤ r ∧ r < 10 ∧ ST (M0 3) (M0 4) (M0 2 4).toNat (M0 2 5) (2 ^ (M0 2 4).toNat - 1) r ∧ ∀ c : Nat, c < r → ¬ ST (M0 3) (M0 4) (M0 2 4).toNat (M0 2 5) (2 ^ (M0 2 4).toNat - 1) c)) → Q (.inl (some (mm_I r))) M' d) : ∀ (k i : Nat) (M : mm_M), i + k = 10 → fr [5, 6] M0 M → (∀ c : Nat, c < i → ¬ ST (M0 3) (M0 4) (M0 2 4).toNat (M0 2 5) (2 ^ (M0 2 4).toNat - 1) c) → rr_X1_leastStart Q 2 [some (mm_R 2), some (mm_I i)] [] M d 0 := by
  intro k
  induction k with
  | zero =>
    intro i M hi hf h1
    refine mm_run_at (stop := [2]) (S := rr_X1_leastStart Q) kkX1_leastStart 60 ?_ (fun _ _ _ _ _ _ _ h => h)
    simp only [mm_wp, mm_op, mm_nxt, mm_jmp, mm_at, mm_in, mm_nth, mm_set, mm_ok, mm_isL, mm_ret, mm_isRet, mm_bool, mm_call, mm_push, mm_rv, mm_cats, mm_cat, mm_look, mm_ft, mm_fv, mm_pf, mm_thr, mm_ent, mm_pad, mm_fl, beq_self_eq_true, cond_true, cond_false, Nat.reduceBEq, Nat.reduceEqDiff, List.drop_succ_cons, List.drop_zero, List.take_succ_cons, List.take_zero, List.reverse_cons, List.reverse_nil, List.nil_append, List.cons_append, List.length_cons, List.length_nil, Nat.reduceAdd, Nat.reduceSub, Nat.reduceLeDiff, Bool.not_false, Bool.and_true, Bool.true_and, Nat.zero_add, true_and, and_true, Nat.le_refl, true_or, or_true, reduceCtorEq, Nat.add_zero, Nat.reduceLT, Bool.and_self, Bool.not_true, Fin.isValue, Nat.reduceLeDiff, List.take_nil, List.drop_nil, mm_i1, mm_i2, mm_i3, mm_i4, mm_i5, mm_i6, mm_i7, mm_i16, mm_i17, mm_i18, mm_i19, mm_i20, mm_i21, mm_i22, mm_i23, mm_l3, mm_l4, mm_l5, mm_l6, mm_l7, mm_l18, mm_l19, mm_l20, mm_l21, mm_l22, kdX1_leastStart, ct_X1_leastStart, flX1, sp_X1_allStreets, sp_X1_isStartOf]
    exact ⟨by omega, ⟨by omega, by omega⟩, ⟨by omega, by omega⟩, fun _ => hq M (-1) ⟨hf, Or.inl ⟨rfl, fun c hc => h1 c (by omega)⟩⟩, fun h => by omega⟩
  | succ k ih =>
    intro i M hi hf h1
    refine mm_run_at (stop := [2]) (S := rr_X1_leastStart Q) kkX1_leastStart 60 ?_ (fun _ _ _ _ _ _ _ h => h)
    simp only [mm_wp, mm_op, mm_nxt, mm_jmp, mm_at, mm_in, mm_nth, mm_set, mm_ok, mm_isL, mm_ret, mm_isRet, mm_bool, mm_call, mm_push, mm_rv, mm_cats, mm_cat, mm_look, mm_ft, mm_fv, mm_pf, mm_thr, mm_ent, mm_pad, mm_fl, beq_self_eq_true, cond_true, cond_false, Nat.reduceBEq, Nat.reduceEqDiff, List.drop_succ_cons, List.drop_zero, List.take_succ_cons, List.take_zero, List.reverse_cons, List.reverse_nil, List.nil_append, List.cons_append, List.length_cons, List.length_nil, Nat.reduceAdd, Nat.reduceSub, Nat.reduceLeDiff, Bool.not_false, Bool.and_true, Bool.true_and, Nat.zero_add, true_and, and_true, Nat.le_refl, true_or, or_true, reduceCtorEq, Nat.add_zero, Nat.reduceLT, Bool.and_self, Bool.not_true, Fin.isValue, Nat.reduceLeDiff, List.take_nil, List.drop_nil, mm_i1, mm_i2, mm_i3, mm_i4, mm_i5, mm_i6, mm_i7, mm_i16, mm_i17, mm_i18, mm_i19, mm_i20, mm_i21, mm_i22, mm_i23, mm_l3, mm_l4, mm_l5, mm_l6, mm_l7, mm_l18, mm_l19, mm_l20, mm_l21, mm_l22, kdX1_leastStart, ct_X1_leastStart, flX1, sp_X1_allStreets, sp_X1_isStartOf]
    have ht' : tW M := ht.fr hf (by simp) (by simp) (by simp)
    have e2 : M 2 = M0 2 := hf 2 (by simp)
    have e3 : M 3 = M0 3 := hf 3 (by simp)
    have e4 : M 4 = M0 4 := hf 4 (by simp)
    refine ⟨by omega, ⟨by omega, by omega⟩, ⟨by omega, by omega⟩, fun h => by omega, fun _ => ⟨ht', fun r hr => ⟨ht', hr.2, by omega, fun M' r2 hr2 => ⟨?_, fun h => ?_, fun h => ?_⟩⟩⟩⟩
    · exact inI2 hr2.2
    · refine ih (i + 1) M' (by omega) (hf.tr hr2.1) (fun c hc => ?_)
      by_cases e : c = i
      · subst e
        intro h9
        rw [← e2, ← e3, ← e4, ← hr.1] at h9
        have := hr2.2.1 h9
        omega
      · exact h1 c (by omega)
    · refine hq M' i ⟨hf.tr hr2.1, Or.inr ⟨by omega, by omega, ?_, fun c hc => h1 c (by omega)⟩⟩
      rw [← e2, ← e3, ← e4, ← hr.1]
      exact Classical.byContradiction fun h9 => h (hr2.2.2 h9)
set_option maxRecDepth 20000 in
theorem rn_X1_leastStart : mm_RN flX1 ct_X1_leastStart mm_x0 [] 1 0 2 kdX1_leastStart sp_X1_leastStart := by
  intro av M d Q h
  unfold sp_X1_leastStart at h
  split at h
  · rename_i o
    obtain ⟨rfl, ht, hq⟩ := h
    refine ⟨Nat.le_of_ble_eq_true rfl, mm_run_at (stop := [2]) (S := rr_X1_leastStart Q) kkX1_leastStart 80 ?_ (fun _ _ _ _ _ _ _ h => h)⟩
    simp only [mm_wp, mm_op, mm_nxt, mm_jmp, mm_at, mm_in, mm_nth, mm_set, mm_ok, mm_isL, mm_ret, mm_isRet, mm_bool, mm_call, mm_push, mm_rv, mm_cats, mm_cat, mm_look, mm_ft, mm_fv, mm_pf, mm_thr, mm_ent, mm_pad, mm_fl, beq_self_eq_true, cond_true, cond_false, Nat.reduceBEq, Nat.reduceEqDiff, List.drop_succ_cons, List.drop_zero, List.take_succ_cons, List.take_zero, List.reverse_cons, List.reverse_nil, List.nil_append, List.cons_append, List.length_cons, List.length_nil, Nat.reduceAdd, Nat.reduceSub, Nat.reduceLeDiff, Bool.not_false, Bool.and_true, Bool.true_and, Nat.zero_add, true_and, and_true, Nat.le_refl, true_or, or_true, reduceCtorEq, Nat.add_zero, Nat.reduceLT, Bool.and_self, Bool.not_true, Fin.isValue, Nat.reduceLeDiff, List.take_nil, List.drop_nil, mm_i1, mm_i2, mm_i3, mm_i4, mm_i5, mm_i6, mm_i7, mm_i16, mm_i17, mm_i18, mm_i19, mm_i20, mm_i21, mm_i22, mm_i23, mm_l3, mm_l4, mm_l5, mm_l6, mm_l7, mm_l18, mm_l19, mm_l20, mm_l21, mm_l22, kdX1_leastStart, ct_X1_leastStart, flX1, sp_X1_allStreets, sp_X1_isStartOf]
    exact lp_X1_leastStart ht hq 10 0 M (by omega) fr.rf (fun c hc => by omega)
  · exact h.elim
theorem me_X1_leastStart {l : Launch} (hl : l.stackTraces = false) : mm_Met l yX1_leastStart cX1_leastStart 2 (some .int) [] 10 187 0 sp_X1_leastStart := mm_mt hl rn_X1_leastStart ⟨plX1, rfl⟩ kkX1_leastStart rfl ⟨Nat.le_of_ble_eq_true rfl, Nat.le_of_ble_eq_true rfl⟩ flkX1 (fun _ h => nomatch h) (⟨mm_pe (me_X1_allStreets hl) mwX1_allStreets (mm_t2 24 rfl rfl) (Nat.le_of_ble_eq_true rfl) (Nat.le_of_ble_eq_true rfl), mm_pe (me_X1_isStartOf hl) mwX1_isStartOf (mm_t2 25 rfl rfl) (Nat.le_of_ble_eq_true rfl) (Nat.le_of_ble_eq_true rfl), trivial⟩) (mm_xe0 _) n9X1

