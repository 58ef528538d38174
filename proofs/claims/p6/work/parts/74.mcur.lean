/-! the model: the cursor -/
theorem cV_x {M : mm_M} (h10 : -1 ≤ M 17 10 ∧ M 17 10 ≤ 2) (h13 : M 17 13 = 0 ∨ M 17 13 = 1) (h : M 17 10 ≠ -1 → M 17 13 = 0 → (0 ≤ M 17 11 ∧ M 17 11 ≤ M 21 (M 17 10).toNat) ∧ (-1 ≤ M 17 12 ∧ M 17 12 < M 21 (M 17 10).toNat)) : cV (vX M) := by
  unfold cV
  rw [vX_c1, vX_c2, vX_c3, vX_c4]
  by_cases e : M 17 10 = -1
  · rw [if_pos e]
    exact ⟨Or.inl rfl, h13, fun h => absurd rfl h⟩
  · rw [if_neg e]
    have e2 : (8 + 2 * M 17 10).toNat = 8 + 2 * (M 17 10).toNat := by omega
    rw [e2, vX_n (by omega)]
    exact ⟨Or.inr (isW3k (by omega)), h13, fun _ h4 => h e h4⟩
theorem xP_c {M M' : mm_M} (ha : xA M) (hx : fX M M') (hf : fr [16] (vX M) (vX M')) (h10 : -1 ≤ M' 17 10 ∧ M' 17 10 ≤ 2) (h13 : M' 17 13 = 0 ∨ M' 17 13 = 1) (h : M' 17 10 ≠ -1 → M' 17 13 = 0 → (0 ≤ M' 17 11 ∧ M' 17 11 ≤ M' 21 (M' 17 10).toNat) ∧ (-1 ≤ M' 17 12 ∧ M' 17 12 < M' 21 (M' 17 10).toNat)) : xP M M' := ⟨hx, ha.1.c hf (cV_x h10 h13 h), h10⟩
theorem xP_kc {M M' : mm_M} {k : Nat} (ha : xA M) (hk : k < 3) (hx : fX M M') (hf : fr [8 + 2 * k, 8 + 2 * k + 1, 16] (vX M) (vX M')) (hv : mV M' k) (hD : wD (vX M') (8 + 2 * k)) (h10 : -1 ≤ M' 17 10 ∧ M' 17 10 ≤ 2) (h13 : M' 17 13 = 0 ∨ M' 17 13 = 1) (h : M' 17 10 ≠ -1 → M' 17 13 = 0 → (0 ≤ M' 17 11 ∧ M' 17 11 ≤ M' 21 (M' 17 10).toNat) ∧ (-1 ≤ M' 17 12 ∧ M' 17 12 < M' 21 (M' 17 10).toNat)) : xP M M' :=
  ⟨hx, ha.1.w (isKk (by omega)) (hf.mono (by intro x hx; simp at hx ⊢; omega)) ((mV_i (by omega)).mp hv) hD (cV_x h10 h13 h), h10⟩
theorem at_X5_cursor_0 : mm_at 0 kdX5_cursor = [(0, .aload_n 0, 0), (1, .aload_n 0, 0), (2, .iload_n 1, 0), (3, .invokevirtual 178, 0), (6, .ifCond .ne 17, 23), (9, .iload_n 2, 0), (10, .iconst 0, 0), (11, .aload_n 0, 0), (12, .getfield 19, 0), (15, .iload_n 1, 0), (16, .iaload, 0), (17, .invokestatic 45, 0), (20, .ifCond .ne 7, 27), (23, .iconst 1, 0), (24, .goto 4, 28), (27, .iconst 0, 0), (28, .iconst 1, 0), (29, .invokevirtual 146, 0), (32, .ifCond .eq 5, 37), (35, .iconst 0, 0), (36, .ireturn, 0), (37, .aload_n 0, 0), (38, .iload_n 1, 0), (39, .putfield 25, 0), (42, .aload_n 0, 0), (43, .iload_n 2, 0), (44, .putfield 237, 0), (47, .aload_n 0, 0), (48, .iconst (-1), 0), (49, .putfield 29, 0), (52, .aload_n 0, 0), (53, .iconst 0, 0), (54, .putfield 114, 0), (57, .aload_n 0, 0), (58, .aload_n 0, 0), (59, .iload_n 1, 0), (60, .iload_n 2, 0), (61, .invokevirtual 105, 0), (64, .invokevirtual 156, 0), (67, .ireturn, 0)] := rfl
theorem at_X5_cursor_23 : mm_at 23 kdX5_cursor = [(23, .iconst 1, 0), (24, .goto 4, 28), (27, .iconst 0, 0), (28, .iconst 1, 0), (29, .invokevirtual 146, 0), (32, .ifCond .eq 5, 37), (35, .iconst 0, 0), (36, .ireturn, 0), (37, .aload_n 0, 0), (38, .iload_n 1, 0), (39, .putfield 25, 0), (42, .aload_n 0, 0), (43, .iload_n 2, 0), (44, .putfield 237, 0), (47, .aload_n 0, 0), (48, .iconst (-1), 0), (49, .putfield 29, 0), (52, .aload_n 0, 0), (53, .iconst 0, 0), (54, .putfield 114, 0), (57, .aload_n 0, 0), (58, .aload_n 0, 0), (59, .iload_n 1, 0), (60, .iload_n 2, 0), (61, .invokevirtual 105, 0), (64, .invokevirtual 156, 0), (67, .ireturn, 0)] := rfl
theorem at_X5_cursor_27 : mm_at 27 kdX5_cursor = [(27, .iconst 0, 0), (28, .iconst 1, 0), (29, .invokevirtual 146, 0), (32, .ifCond .eq 5, 37), (35, .iconst 0, 0), (36, .ireturn, 0), (37, .aload_n 0, 0), (38, .iload_n 1, 0), (39, .putfield 25, 0), (42, .aload_n 0, 0), (43, .iload_n 2, 0), (44, .putfield 237, 0), (47, .aload_n 0, 0), (48, .iconst (-1), 0), (49, .putfield 29, 0), (52, .aload_n 0, 0), (53, .iconst 0, 0), (54, .putfield 114, 0), (57, .aload_n 0, 0), (58, .aload_n 0, 0), (59, .iload_n 1, 0), (60, .iload_n 2, 0), (61, .invokevirtual 105, 0), (64, .invokevirtual 156, 0), (67, .ireturn, 0)] := rfl
theorem at_X5_cursor_28 : mm_at 28 kdX5_cursor = [(28, .iconst 1, 0), (29, .invokevirtual 146, 0), (32, .ifCond .eq 5, 37), (35, .iconst 0, 0), (36, .ireturn, 0), (37, .aload_n 0, 0), (38, .iload_n 1, 0), (39, .putfield 25, 0), (42, .aload_n 0, 0), (43, .iload_n 2, 0), (44, .putfield 237, 0), (47, .aload_n 0, 0), (48, .iconst (-1), 0), (49, .putfield 29, 0), (52, .aload_n 0, 0), (53, .iconst 0, 0), (54, .putfield 114, 0), (57, .aload_n 0, 0), (58, .aload_n 0, 0), (59, .iload_n 1, 0), (60, .iload_n 2, 0), (61, .invokevirtual 105, 0), (64, .invokevirtual 156, 0), (67, .ireturn, 0)] := rfl
theorem at_X5_cursor_37 : mm_at 37 kdX5_cursor = [(37, .aload_n 0, 0), (38, .iload_n 1, 0), (39, .putfield 25, 0), (42, .aload_n 0, 0), (43, .iload_n 2, 0), (44, .putfield 237, 0), (47, .aload_n 0, 0), (48, .iconst (-1), 0), (49, .putfield 29, 0), (52, .aload_n 0, 0), (53, .iconst 0, 0), (54, .putfield 114, 0), (57, .aload_n 0, 0), (58, .aload_n 0, 0), (59, .iload_n 1, 0), (60, .iload_n 2, 0), (61, .invokevirtual 105, 0), (64, .invokevirtual 156, 0), (67, .ireturn, 0)] := rfl
def sp_X5_cursor : mm_S := fun av M d Q => match av with
  | [.inr (.inr (.inl o)), .inl a, .inl p] =>  o = 17 ∧ xA M ∧ InI a ∧ InI p ∧ ∀ M' r, xP M M' → C_cursor a p (vX M) (vX M') (M' 17 0) r → Q (.inl (some (mm_I r))) M' d
  | _ => False
def ct_X5_cursor : List (Nat × mm_Ca) := [(178, (0, 2, 14, sp_X5_isNoWalk, 0)), (45, (1, 3, 0, sp_X5_isIn, 0)), (146, (0, 3, 14, sp_X5_start, 0)), (105, (0, 3, 14, sp_X5_cornerOf, 0)), (156, (0, 2, 14, sp_X5_act, 0))]
abbrev rr_X5_cursor (Q : mm_Q) := mm_run (mm_look flX5) (mm_look ct_X5_cursor) mm_x0 (mm_look ([] : List (Nat × Int))) (fun _ => none) 1 0 (fun _ _ => none) Q kdX5_cursor
set_option maxRecDepth 20000 in
theorem rn_X5_cursor : mm_RN flX5 ct_X5_cursor mm_x0 [] 1 0 3 kdX5_cursor sp_X5_cursor := by
  intro av M d Q h
  unfold sp_X5_cursor at h
  split at h
  · rename_i o a p
    obtain ⟨rfl, ha, h1, h2, hq⟩ := h
    have hlI : (0 ≤ a ∧ a ≤ 2) → InI (M 21 a.toNat) := fun h => InI_l (ha.v (k := a.toNat) (by omega)) rfl
    obtain ⟨K, hK, hK2⟩ : ∃ K : Nat → mm_K, (∀ t ls st M d u, K t ls st M d u → rr_X5_cursor Q t ls st M d u) ∧ (∀ t ls st M d u, rr_X5_cursor Q t ls st M d u → K t ls st M d u) := ⟨rr_X5_cursor Q, fun _ _ _ _ _ _ h => h, fun _ _ _ _ _ _ h => h⟩
    have hn2 : (0 ≤ a ∧ a ≤ 2) → vX M (wk a) 2 = M 21 a.toNat := fun h => vX_n (wk_in h).2.2
    have q1 : ∀ v, v = 1 → (¬ (0 ≤ a ∧ a ≤ 2) ∨ ((0 ≤ a ∧ a ≤ 2) ∧ ¬ (0 ≤ p ∧ p ≤ M 21 a.toNat))) → Q (.inl (some (mm_I 0))) (mm_up M 17 0 v) d := fun v hv hn => hq _ _ (xP_s ha) (xq1 (fun h => by
      obtain ⟨g1, g2⟩ := h
      unfold iw at g1
      unfold onW at g2
      rcases hn with hn | ⟨hn, hn'⟩
      · omega
      · rw [hn2 hn] at g2
        exact hn' g2) hv)
    have k37 : ∀ v, v = 0 → (0 ≤ a ∧ a ≤ 2) → (0 ≤ p ∧ p ≤ M 21 a.toNat) → K 37 [some (mm_R 17), some (mm_I a), some (mm_I p)] [] (mm_up M 17 0 v) d 0 := by
      intro v hv0 ca cp
      have hcc : iw a ∧ onW (vX M) (wk a) p := ⟨(wk_in ca).1, by unfold onW; rw [hn2 ca]; exact cp⟩
      obtain ⟨M1, e0, ha1, hP1, e17, eo⟩ := xS (v := v) ha
      have e00 : M1 17 0 = 0 := by rw [← e0, hv0]; exact x00
      have eV : vX M1 = vX M := by rw [← e0, vX_u0]
      rw [e0]
      rw [← eo 21 (by omega)] at cp
      have v1 := (ha1.v (k := a.toNat) (by omega)).1
      obtain ⟨M2, e2⟩ : ∃ M2, M2 = mm_up (mm_up (mm_up (mm_up M1 17 10 a) 17 11 p) 17 12 (-1)) 17 13 0 := ⟨_, rfl⟩
      have e10 : M2 17 10 = a := by rw [e2]; simp [mm_up]
      have e11 : M2 17 11 = p := by rw [e2]; simp [mm_up]
      have e12 : M2 17 12 = -1 := by rw [e2]; simp [mm_up]
      have e13 : M2 17 13 = 0 := by rw [e2]; simp [mm_up]
      have e21 : M2 21 = M1 21 := by rw [e2, mm_up_o _ (by omega), mm_up_o _ (by omega), mm_up_o _ (by omega), mm_up_o _ (by omega)]
      have hP2 : xP M1 M2 := by
        refine xP_c ha1 (by rw [e2]; exact (((fX.rf.up (by omega)).up (by omega)).up (by omega)).up (by omega)) ?_ (by omega) (by omega) (fun _ _ => ?_)
        · rw [e2, vX_u13, vX_u12, vX_u11, vX_u10]
          exact (((fr.rf.up (by simp)).up (by simp)).up (by simp)).up (by simp)
        · rw [e10, e11, e12, e21]
          omega
      have ht2 := hP2.a.t
      have mv2 := hP2.a.v (k := a.toNat) (by omega)
      have cp2 : 0 ≤ p ∧ p ≤ M2 21 a.toNat := by rw [e21]; exact cp
      have ev : vX M2 = stM (vX M1) (8 + 2 * a.toNat) p := by
        rw [e2, vX_u13, vX_u12, vX_u11, vX_u10, if_neg (by omega)]
        unfold stM
        rw [show ((8 + 2 * a.toNat : Nat) : Int) = 8 + 2 * a by omega]
      have evo : ∀ o, o ≠ 16 → vX M2 o = vX M1 o := fun o ho => by rw [ev]; unfold stM; rw [mm_up_o _ ho, mm_up_o _ ho, mm_up_o _ ho, mm_up_o _ ho]
      have q0 : ∀ r, (r = corX M2 a.toNat p ∧ 0 ≤ r ∧ r < 10) → Q (.inl (some (mm_I r))) (mm_up M2 17 14 (M2 17 14 + 1)) d := fun r hr => hq _ _ (xP_ac (hP1.tr hP2)) (Or.inr ⟨hcc, by rw [mm_up_ob2 (by omega), e2, mm_up_ob2 (by omega), mm_up_ob2 (by omega), mm_up_ob2 (by omega), mm_up_ob2 (by omega)]; exact e00, by
        rw [← eV]
        refine ⟨?_, SE.eq (by rw [cX_n (r := r) (by omega), ev]; rfl)⟩
        rw [hr.1, cor_v (wk_in ca).2.2 mv2 cp2]
        have hk16 := kn (wk_in ca).2.1
        exact cor_e (evo 3 (by omega)) (evo 4 (by omega)) (evo _ hk16.1) (evo _ hk16.2)⟩)
      have k57 : K 57 [some (mm_R 17), some (mm_I a), some (mm_I p)] [] M2 d 0 := by
        clear ev evo hq q1 hcc hn2
        refine hK2 _ _ _ _ _ _ ?_
        refine mm_run_at (stop := []) (S := K) kkX5_cursor 90 ?_ (fun _ _ _ _ _ _ _ h => hK _ _ _ _ _ _ h)
        repeat' (first | with_reducible assumption | with_reducible exact True.intro | with_reducible exact mm_i17 | with_reducible exact mm_i18 | with_reducible exact mm_i19 | with_reducible exact mm_i20 | with_reducible exact mm_i21 | with_reducible exact mm_i22 | ((with_reducible show mm_rv _ _ _ _ _); first | exact True.intro | exact mm_i17 | exact mm_i18 | exact mm_i19 | exact mm_i20 | exact mm_i21 | exact mm_i22) | ((with_reducible show mm_bool _ _); first | exact True.intro | exact Or.inl rfl | exact Or.inr rfl | (show (_ : Int) = 0 ∨ _ = 1)) | rfl | with_reducible exact Or.inl rfl | with_reducible exact Or.inr rfl | exact Nat.le_of_ble_eq_true rfl | refine And.intro ?_ ?_ | intro _)
        all_goals (try simp (disch := omega) only [InI, Int.toNat_natCast, Int.tmod_eq_emod_of_nonneg, Int.tdiv_eq_ediv_of_nonneg, true_implies, true_or, or_true, mm_l18, mm_l19, mm_l20, mm_l21, mm_l22] at *)
        all_goals first | omega | exact q0 _ (by assumption) | skip
      rw [e2] at k57
      clear ev evo q0 hq q1 hcc hn2
      refine hK2 _ _ _ _ _ _ ?_
      refine mm_run_at (stop := [57]) (S := K) kkX5_cursor 90 ?_ (fun _ _ _ _ _ _ _ h => hK _ _ _ _ _ _ h)
      repeat' (first | with_reducible assumption | with_reducible exact True.intro | with_reducible exact mm_i17 | with_reducible exact mm_i18 | with_reducible exact mm_i19 | with_reducible exact mm_i20 | with_reducible exact mm_i21 | with_reducible exact mm_i22 | ((with_reducible show mm_rv _ _ _ _ _); first | exact True.intro | exact mm_i17 | exact mm_i18 | exact mm_i19 | exact mm_i20 | exact mm_i21 | exact mm_i22) | ((with_reducible show mm_bool _ _); first | exact True.intro | exact Or.inl rfl | exact Or.inr rfl | (show (_ : Int) = 0 ∨ _ = 1)) | rfl | with_reducible exact Or.inl rfl | with_reducible exact Or.inr rfl | exact Nat.le_of_ble_eq_true rfl | refine And.intro ?_ ?_ | intro _)
      all_goals (try simp (disch := omega) only [InI, Int.toNat_natCast, Int.tmod_eq_emod_of_nonneg, Int.tdiv_eq_ediv_of_nonneg, true_implies, true_or, or_true, mm_l18, mm_l19, mm_l20, mm_l21, mm_l22] at *)
      all_goals first | omega | exact k57 | skip
    clear hq hn2
    refine ⟨Nat.le_of_ble_eq_true rfl, ?_⟩
    refine mm_run_at (stop := [37]) (S := K) kkX5_cursor 90 ?_ (fun _ _ _ _ _ _ _ h => hK _ _ _ _ _ _ h)
    repeat' (first | with_reducible assumption | with_reducible exact True.intro | with_reducible exact mm_i17 | with_reducible exact mm_i18 | with_reducible exact mm_i19 | with_reducible exact mm_i20 | with_reducible exact mm_i21 | with_reducible exact mm_i22 | ((with_reducible show mm_rv _ _ _ _ _); first | exact True.intro | exact mm_i17 | exact mm_i18 | exact mm_i19 | exact mm_i20 | exact mm_i21 | exact mm_i22 | ((with_reducible show InI _); exact hlI (by omega))) | ((with_reducible show InI _); exact hlI (by omega)) | ((with_reducible show mm_bool _ _); first | exact True.intro | exact Or.inl rfl | exact Or.inr rfl | (show (_ : Int) = 0 ∨ _ = 1)) | rfl | with_reducible exact Or.inl rfl | with_reducible exact Or.inr rfl | exact Nat.le_of_ble_eq_true rfl | refine And.intro ?_ ?_ | intro _)
    all_goals (try simp (disch := omega) only [InI, Int.toNat_natCast, Int.tmod_eq_emod_of_nonneg, Int.tdiv_eq_ediv_of_nonneg, true_implies, true_or, or_true, mm_l18, mm_l19, mm_l20, mm_l21, mm_l22] at *)
    all_goals first | omega | exact q1 _ (by omega) (by omega) | exact k37 _ (by omega) (by omega) (by omega) | skip
  · exact h.elim
theorem me_X5_cursor {l : Launch} (hl : l.stackTraces = false) : mm_Met l yX5_cursor cX5_cursor 3 (some .int) [] 8 144 0 sp_X5_cursor := mm_mt hl rn_X5_cursor ⟨by decide, rfl⟩ kkX5_cursor rfl ⟨by decide, by decide⟩ flkX5 (fun _ h => nomatch h) (⟨mm_pe (me_X5_isNoWalk hl) mwX5_isNoWalk (mm_t7 36 rfl rfl) (Nat.le_of_ble_eq_true rfl) (Nat.le_of_ble_eq_true rfl), mm_pe (me_X5_isIn hl) mwX5_isIn (mm_t6 107 rfl rfl) (Nat.le_of_ble_eq_true rfl) (Nat.le_of_ble_eq_true rfl), mm_pe (me_X5_start hl) mwX5_start (mm_t6 110 rfl rfl) (Nat.le_of_ble_eq_true rfl) (Nat.le_of_ble_eq_true rfl), mm_pe (me_X5_cornerOf hl) mwX5_cornerOf (mm_t6 185 rfl rfl) (Nat.le_of_ble_eq_true rfl) (Nat.le_of_ble_eq_true rfl), mm_pe (me_X5_act hl) mwX5_act (mm_t6 130 rfl rfl) (Nat.le_of_ble_eq_true rfl) (Nat.le_of_ble_eq_true rfl), trivial⟩) (mm_xe0 _)
theorem at_X5_cursorGo_0 : mm_at 0 kdX5_cursorGo = [(0, .aload_n 0, 0), (1, .iconst 0, 0), (2, .putfield 32, 0), (5, .aload_n 0, 0), (6, .iload_n 1, 0), (7, .invokevirtual 244, 0), (10, .ifCond .ne 8, 18), (13, .aload_n 0, 0), (14, .invokevirtual 149, 0), (17, .ireturn, 0), (18, .aload_n 0, 0), (19, .iload_n 1, 0), (20, .ifCond .eq 10, 30), (23, .aload_n 0, 0), (24, .getfield 237, 0), (27, .goto 9, 36), (30, .aload_n 0, 0), (31, .getfield 237, 0), (34, .iconst 1, 0), (35, .isub, 0), (36, .putfield 29, 0), (39, .aload_n 0, 0), (40, .iload_n 1, 0), (41, .ifCond .eq 12, 53), (44, .aload_n 0, 0), (45, .getfield 237, 0), (48, .iconst 1, 0), (49, .iadd, 0), (50, .goto 9, 59), (53, .aload_n 0, 0), (54, .getfield 237, 0), (57, .iconst 1, 0), (58, .isub, 0), (59, .putfield 237, 0), (62, .aload_n 0, 0), (63, .aload_n 0, 0), (64, .aload_n 0, 0), (65, .getfield 25, 0), (68, .aload_n 0, 0), (69, .getfield 29, 0), (72, .invokevirtual 98, 0), (75, .invokevirtual 156, 0), (78, .ireturn, 0)] := rfl
theorem at_X5_cursorGo_18 : mm_at 18 kdX5_cursorGo = [(18, .aload_n 0, 0), (19, .iload_n 1, 0), (20, .ifCond .eq 10, 30), (23, .aload_n 0, 0), (24, .getfield 237, 0), (27, .goto 9, 36), (30, .aload_n 0, 0), (31, .getfield 237, 0), (34, .iconst 1, 0), (35, .isub, 0), (36, .putfield 29, 0), (39, .aload_n 0, 0), (40, .iload_n 1, 0), (41, .ifCond .eq 12, 53), (44, .aload_n 0, 0), (45, .getfield 237, 0), (48, .iconst 1, 0), (49, .iadd, 0), (50, .goto 9, 59), (53, .aload_n 0, 0), (54, .getfield 237, 0), (57, .iconst 1, 0), (58, .isub, 0), (59, .putfield 237, 0), (62, .aload_n 0, 0), (63, .aload_n 0, 0), (64, .aload_n 0, 0), (65, .getfield 25, 0), (68, .aload_n 0, 0), (69, .getfield 29, 0), (72, .invokevirtual 98, 0), (75, .invokevirtual 156, 0), (78, .ireturn, 0)] := rfl
theorem at_X5_cursorGo_30 : mm_at 30 kdX5_cursorGo = [(30, .aload_n 0, 0), (31, .getfield 237, 0), (34, .iconst 1, 0), (35, .isub, 0), (36, .putfield 29, 0), (39, .aload_n 0, 0), (40, .iload_n 1, 0), (41, .ifCond .eq 12, 53), (44, .aload_n 0, 0), (45, .getfield 237, 0), (48, .iconst 1, 0), (49, .iadd, 0), (50, .goto 9, 59), (53, .aload_n 0, 0), (54, .getfield 237, 0), (57, .iconst 1, 0), (58, .isub, 0), (59, .putfield 237, 0), (62, .aload_n 0, 0), (63, .aload_n 0, 0), (64, .aload_n 0, 0), (65, .getfield 25, 0), (68, .aload_n 0, 0), (69, .getfield 29, 0), (72, .invokevirtual 98, 0), (75, .invokevirtual 156, 0), (78, .ireturn, 0)] := rfl
theorem at_X5_cursorGo_36 : mm_at 36 kdX5_cursorGo = [(36, .putfield 29, 0), (39, .aload_n 0, 0), (40, .iload_n 1, 0), (41, .ifCond .eq 12, 53), (44, .aload_n 0, 0), (45, .getfield 237, 0), (48, .iconst 1, 0), (49, .iadd, 0), (50, .goto 9, 59), (53, .aload_n 0, 0), (54, .getfield 237, 0), (57, .iconst 1, 0), (58, .isub, 0), (59, .putfield 237, 0), (62, .aload_n 0, 0), (63, .aload_n 0, 0), (64, .aload_n 0, 0), (65, .getfield 25, 0), (68, .aload_n 0, 0), (69, .getfield 29, 0), (72, .invokevirtual 98, 0), (75, .invokevirtual 156, 0), (78, .ireturn, 0)] := rfl
theorem at_X5_cursorGo_53 : mm_at 53 kdX5_cursorGo = [(53, .aload_n 0, 0), (54, .getfield 237, 0), (57, .iconst 1, 0), (58, .isub, 0), (59, .putfield 237, 0), (62, .aload_n 0, 0), (63, .aload_n 0, 0), (64, .aload_n 0, 0), (65, .getfield 25, 0), (68, .aload_n 0, 0), (69, .getfield 29, 0), (72, .invokevirtual 98, 0), (75, .invokevirtual 156, 0), (78, .ireturn, 0)] := rfl
theorem at_X5_cursorGo_59 : mm_at 59 kdX5_cursorGo = [(59, .putfield 237, 0), (62, .aload_n 0, 0), (63, .aload_n 0, 0), (64, .aload_n 0, 0), (65, .getfield 25, 0), (68, .aload_n 0, 0), (69, .getfield 29, 0), (72, .invokevirtual 98, 0), (75, .invokevirtual 156, 0), (78, .ireturn, 0)] := rfl
def sp_X5_cursorGo : mm_S := fun av M d Q => match av with
  | [.inr (.inr (.inl o)), .inl f] =>  o = 17 ∧ xA M ∧ (f = 0 ∨ f = 1) ∧ ∀ M' r, xP M M' → C_cursorGo f (vX M) (vX M') (M' 17 0) r → Q (.inl (some (mm_I r))) M' d
  | _ => False
def ct_X5_cursorGo : List (Nat × mm_Ca) := [(244, (0, 2, 14, sp_X5_canGo, 0)), (149, (0, 1, 14, sp_X5_cannot, 0)), (98, (0, 3, 14, sp_X5_stepOf, 0)), (156, (0, 2, 14, sp_X5_act, 0))]
abbrev rr_X5_cursorGo (Q : mm_Q) := mm_run (mm_look flX5) (mm_look ct_X5_cursorGo) mm_x0 (mm_look ([] : List (Nat × Int))) (fun _ => none) 1 0 (fun _ _ => none) Q kdX5_cursorGo
set_option maxRecDepth 20000 in
theorem rn_X5_cursorGo : mm_RN flX5 ct_X5_cursorGo mm_x0 [] 1 0 2 kdX5_cursorGo sp_X5_cursorGo := by
  intro av M d Q h
  unfold sp_X5_cursorGo at h
  split at h
  · rename_i o f
    obtain ⟨rfl, ha, hf, hq⟩ := h
    obtain ⟨M1, e0, ha1, hP1, e17, eo⟩ := xS (v := 0) ha
    have e00 : M1 17 0 = 0 := by rw [← e0]; exact x00
    have eV : vX M1 = vX M := by rw [← e0, vX_u0]
    obtain ⟨PH, ePH⟩ : ∃ PH : Prop, PH ↔ hsP (vX M1) f := ⟨_, Iff.rfl⟩
    have q9 : ¬ PH → Q (.inl (some (mm_I (-9)))) (mm_up M1 17 15 (M1 17 15 + 1)) d := fun h => hq _ (-9) (hP1.tr (xA_u (x := M1 17 15 + 1) ha1)) ⟨by rw [mm_up_ob2 (by omega)]; exact e00, vX M1, by rw [← eV]; exact Or.inl ⟨fun h2 => h (ePH.mpr h2), rfl, rfl⟩, SE.eq cX_9⟩
    obtain ⟨K, hK, hK2⟩ : ∃ K : Nat → mm_K, (∀ t ls st M d u, K t ls st M d u → rr_X5_cursorGo Q t ls st M d u) ∧ (∀ t ls st M d u, rr_X5_cursorGo Q t ls st M d u → K t ls st M d u) := ⟨rr_X5_cursorGo Q, fun _ _ _ _ _ _ h => h, fun _ _ _ _ _ _ h => h⟩
    have k62 : PH → (M1 17 10 ≠ -1 ∧ M1 17 13 = 0) → ∀ l p, (l = if f = 0 then M1 17 11 - 1 else M1 17 11) → (p = if f = 0 then M1 17 11 - 1 else M1 17 11 + 1) → (0 ≤ l ∧ l < M1 21 (M1 17 10).toNat) → (0 ≤ p ∧ p ≤ M1 21 (M1 17 10).toNat) → K 62 [some (mm_R 17), some (mm_I f)] [] (mm_up (mm_up M1 17 12 l) 17 11 p) d 0 := by
      intro hPH hc l p hl9 hp9 hl hp
      have h10 := ha1.2
      have v1 := (ha1.v (k := (M1 17 10).toNat) (by omega)).1
      obtain ⟨M2, e2⟩ : ∃ M2, M2 = mm_up (mm_up M1 17 12 l) 17 11 p := ⟨_, rfl⟩
      have e10 : M2 17 10 = M1 17 10 := by rw [e2]; simp [mm_up]
      have e11 : M2 17 11 = p := by rw [e2]; simp [mm_up]
      have e12 : M2 17 12 = l := by rw [e2]; simp [mm_up]
      have e13 : M2 17 13 = 0 := by rw [e2]; simp [mm_up]; exact hc.2
      have e21 : M2 21 = M1 21 := by rw [e2, mm_up_o _ (by omega), mm_up_o _ (by omega)]
      have hP2 : xP M1 M2 := by
        refine xP_c ha1 (by rw [e2]; exact (fX.rf.up (by omega)).up (by omega)) ?_ (by omega) (by omega) (fun _ _ => ?_)
        · rw [e2, vX_u11, vX_u12]
          exact (fr.rf.up (by simp)).up (by simp)
        · rw [e10, e11, e12, e21]
          omega
      have w1 := (hP2.a.v (k := (M1 17 10).toNat) (by omega)).2.2 l.toNat (by rw [e21]; omega)
      have t1 := hP2.a.t.1
      have ev : vX M2 = mm_up (mm_up (vX M1) 16 3 l) 16 2 p := by rw [e2, vX_u11, vX_u12]
      have ec := (vX_c0 ha1).2 hc.1
      have q0 : ∀ r, r = M2 20 (30 * (M1 17 10).toNat + l.toNat) → 0 ≤ r → Q (.inl (some (mm_I r))) (mm_up M2 17 14 (M2 17 14 + 1)) d := fun r hr hr0 => by
        refine hq _ _ (xP_ac (hP1.tr hP2)) ⟨by rw [mm_up_ob2 (by omega), e2, mm_up_ob2 (by omega), mm_up_ob2 (by omega)]; exact e00, vX M2, ?_, SE.eq (cX_n (by omega))⟩
        rw [← eV]
        refine Or.inr ⟨ePH.mp hPH, ?_, by rw [ev]; exact (fr.rf.up (by simp)).up (by simp), by rw [ev, mm_up_ob2 (by omega), mm_up_ob2 (by omega)], by rw [ev, mm_up_ob2 (by omega), mm_up_ob2 (by omega)], by rw [ev, mm_up_ob2 (by omega), mm_up_sm, hl9]; rfl, by rw [ev, mm_up_sm, hp9]; rfl⟩
        rw [ec.1, show tlP (vX M1) f = l by rw [hl9]; rfl, vX_i (by omega) (by omega), hr, e2, mm_up_o _ (by omega), mm_up_o _ (by omega)]
      rw [← e2]
      clear ev ec hq q9 hl9 hp9 ePH
      refine hK2 _ _ _ _ _ _ ?_
      refine mm_run_at (stop := []) (S := K) kkX5_cursorGo 90 ?_ (fun _ _ _ _ _ _ _ h => hK _ _ _ _ _ _ h)
      repeat' (first | with_reducible assumption | with_reducible exact True.intro | with_reducible exact mm_i17 | with_reducible exact mm_i18 | with_reducible exact mm_i19 | with_reducible exact mm_i20 | with_reducible exact mm_i21 | with_reducible exact mm_i22 | ((with_reducible show mm_rv _ _ _ _ _); first | exact True.intro | exact mm_i17 | exact mm_i18 | exact mm_i19 | exact mm_i20 | exact mm_i21 | exact mm_i22) | ((with_reducible show mm_bool _ _); first | exact True.intro | exact Or.inl rfl | exact Or.inr rfl | (show (_ : Int) = 0 ∨ _ = 1)) | rfl | with_reducible exact Or.inl rfl | with_reducible exact Or.inr rfl | exact Nat.le_of_ble_eq_true rfl | refine And.intro ?_ ?_ | intro _)
      all_goals (try simp (disch := omega) only [e10, e12, InI, Int.toNat_natCast, Int.tmod_eq_emod_of_nonneg, Int.tdiv_eq_ediv_of_nonneg, true_implies, true_or, or_true, mm_l18, mm_l19, mm_l20, mm_l21, mm_l22] at *)
      all_goals first | omega | exact q0 _ rfl (by omega) | skip
    have k39 : PH → (M1 17 10 ≠ -1 ∧ M1 17 13 = 0) → ∀ l, (f = 1 → l = M1 17 11 ∧ M1 17 11 < M1 21 (M1 17 10).toNat) → (f = 0 → l = M1 17 11 - 1 ∧ 0 < M1 17 11) → K 39 [some (mm_R 17), some (mm_I f)] [] (mm_up M1 17 12 l) d 0 := by
      intro hPH hc l h1 h0
      have hp := ha1.p hc.1 hc.2
      have v1 := (ha1.v (k := (M1 17 10).toNat) (by omega)).1
      have k622 := k62 hPH hc
      clear k62 hq q9 ePH
      have e11 : mm_up M1 17 12 l 17 11 = M1 17 11 := mm_up_ob2 (by omega)
      refine hK2 _ _ _ _ _ _ ?_
      rcases hf with rfl | rfl
      · have h0' := h0 rfl
        have k6 := k622 l (M1 17 11 - 1) (by rw [if_pos rfl]; omega) (by rw [if_pos rfl]) ⟨by omega, by omega⟩ ⟨by omega, by omega⟩
        clear k622 h0 h1
        refine mm_run_at (stop := [44, 62]) (S := K) kkX5_cursorGo 90 ?_ (fun _ _ _ _ _ _ _ h => hK _ _ _ _ _ _ h)
        repeat' (first | with_reducible assumption | with_reducible exact True.intro | with_reducible exact mm_i17 | with_reducible exact mm_i18 | with_reducible exact mm_i19 | with_reducible exact mm_i20 | with_reducible exact mm_i21 | with_reducible exact mm_i22 | ((with_reducible show mm_rv _ _ _ _ _); first | exact True.intro | exact mm_i17 | exact mm_i18 | exact mm_i19 | exact mm_i20 | exact mm_i21 | exact mm_i22) | ((with_reducible show mm_bool _ _); first | exact True.intro | exact Or.inl rfl | exact Or.inr rfl | (show (_ : Int) = 0 ∨ _ = 1)) | rfl | with_reducible exact Or.inl rfl | with_reducible exact Or.inr rfl | exact Nat.le_of_ble_eq_true rfl | refine And.intro ?_ ?_ | intro _)
        all_goals (try simp (disch := omega) only [e11, InI, Int.toNat_natCast, Int.tmod_eq_emod_of_nonneg, Int.tdiv_eq_ediv_of_nonneg, true_implies, true_or, or_true, mm_l18, mm_l19, mm_l20, mm_l21, mm_l22] at *)
        all_goals first | omega | exact k6 | skip
      · have h1' := h1 rfl
        have k6 := k622 l (M1 17 11 + 1) (by rw [if_neg (by omega)]; omega) (by rw [if_neg (by omega)]) ⟨by omega, by omega⟩ ⟨by omega, by omega⟩
        clear k622 h0 h1
        refine mm_run_at (stop := [53, 62]) (S := K) kkX5_cursorGo 90 ?_ (fun _ _ _ _ _ _ _ h => hK _ _ _ _ _ _ h)
        repeat' (first | with_reducible assumption | with_reducible exact True.intro | with_reducible exact mm_i17 | with_reducible exact mm_i18 | with_reducible exact mm_i19 | with_reducible exact mm_i20 | with_reducible exact mm_i21 | with_reducible exact mm_i22 | ((with_reducible show mm_rv _ _ _ _ _); first | exact True.intro | exact mm_i17 | exact mm_i18 | exact mm_i19 | exact mm_i20 | exact mm_i21 | exact mm_i22) | ((with_reducible show mm_bool _ _); first | exact True.intro | exact Or.inl rfl | exact Or.inr rfl | (show (_ : Int) = 0 ∨ _ = 1)) | rfl | with_reducible exact Or.inl rfl | with_reducible exact Or.inr rfl | exact Nat.le_of_ble_eq_true rfl | refine And.intro ?_ ?_ | intro _)
        all_goals (try simp (disch := omega) only [e11, InI, Int.toNat_natCast, Int.tmod_eq_emod_of_nonneg, Int.tdiv_eq_ediv_of_nonneg, true_implies, true_or, or_true, mm_l18, mm_l19, mm_l20, mm_l21, mm_l22] at *)
        all_goals first | omega | exact k6 | skip
    have k18 : PH → (M1 17 10 ≠ -1 ∧ M1 17 13 = 0) → (f ≠ 0 → M1 17 11 < M1 21 (M1 17 10).toNat) → (f = 0 → 0 < M1 17 11) → K 18 [some (mm_R 17), some (mm_I f)] [] M1 d 0 := by
      intro hPH hc h1 h0
      have hp := ha1.p hc.1 hc.2
      have v1 := (ha1.v (k := (M1 17 10).toNat) (by omega)).1
      have k399 := k39 hPH hc
      clear k62 k39 hq q9 ePH
      refine hK2 _ _ _ _ _ _ ?_
      rcases hf with rfl | rfl
      · have h0' := h0 rfl
        have h9 := k399 (M1 17 11 - 1) (fun h => absurd h (by decide)) (fun _ => ⟨rfl, h0'⟩)
        clear k399 h0 h1
        refine mm_run_at (stop := [23, 39]) (S := K) kkX5_cursorGo 90 ?_ (fun _ _ _ _ _ _ _ h => hK _ _ _ _ _ _ h)
        repeat' (first | with_reducible assumption | with_reducible exact True.intro | with_reducible exact mm_i17 | with_reducible exact mm_i18 | with_reducible exact mm_i19 | with_reducible exact mm_i20 | with_reducible exact mm_i21 | with_reducible exact mm_i22 | ((with_reducible show mm_rv _ _ _ _ _); first | exact True.intro | exact mm_i17 | exact mm_i18 | exact mm_i19 | exact mm_i20 | exact mm_i21 | exact mm_i22) | ((with_reducible show mm_bool _ _); first | exact True.intro | exact Or.inl rfl | exact Or.inr rfl | (show (_ : Int) = 0 ∨ _ = 1)) | rfl | with_reducible exact Or.inl rfl | with_reducible exact Or.inr rfl | exact Nat.le_of_ble_eq_true rfl | refine And.intro ?_ ?_ | intro _)
        all_goals (try simp (disch := omega) only [InI, Int.toNat_natCast, Int.tmod_eq_emod_of_nonneg, Int.tdiv_eq_ediv_of_nonneg, true_implies, true_or, or_true, mm_l18, mm_l19, mm_l20, mm_l21, mm_l22] at *)
        all_goals first | omega | exact h9 | skip
      · have h1' := h1 (by omega)
        have h9 := k399 (M1 17 11) (fun _ => ⟨rfl, h1'⟩) (fun h => absurd h (by decide))
        clear k399 h0 h1
        refine mm_run_at (stop := [30, 39]) (S := K) kkX5_cursorGo 90 ?_ (fun _ _ _ _ _ _ _ h => hK _ _ _ _ _ _ h)
        repeat' (first | with_reducible assumption | with_reducible exact True.intro | with_reducible exact mm_i17 | with_reducible exact mm_i18 | with_reducible exact mm_i19 | with_reducible exact mm_i20 | with_reducible exact mm_i21 | with_reducible exact mm_i22 | ((with_reducible show mm_rv _ _ _ _ _); first | exact True.intro | exact mm_i17 | exact mm_i18 | exact mm_i19 | exact mm_i20 | exact mm_i21 | exact mm_i22) | ((with_reducible show mm_bool _ _); first | exact True.intro | exact Or.inl rfl | exact Or.inr rfl | (show (_ : Int) = 0 ∨ _ = 1)) | rfl | with_reducible exact Or.inl rfl | with_reducible exact Or.inr rfl | exact Nat.le_of_ble_eq_true rfl | refine And.intro ?_ ?_ | intro _)
        all_goals (try simp (disch := omega) only [InI, Int.toNat_natCast, Int.tmod_eq_emod_of_nonneg, Int.tdiv_eq_ediv_of_nonneg, true_implies, true_or, or_true, mm_l18, mm_l19, mm_l20, mm_l21, mm_l22] at *)
        all_goals first | omega | exact h9 | skip
    have k10 : ∀ r, (r = 0 ∨ r = 1) ∧ (r = 1 ↔ (M1 17 10 ≠ -1 ∧ M1 17 13 = 0 ∧ (f ≠ 0 → M1 17 11 < M1 21 (M1 17 10).toNat) ∧ (f = 0 → 0 < M1 17 11))) → K 10 [some (mm_R 17), some (mm_I f)] [mm_I r] M1 d 0 := by
      intro r ⟨hr, hr2⟩
      have k188 : r = 1 → K 18 [some (mm_R 17), some (mm_I f)] [] M1 d 0 := fun h => by
        have h2 := hr2.mp h
        exact k18 (ePH.mpr ((hsX ha1).mp h2)) ⟨h2.1, h2.2.1⟩ h2.2.2.1 h2.2.2.2
      have q99 : r = 0 → Q (.inl (some (mm_I (-9)))) (mm_up M1 17 15 (M1 17 15 + 1)) d := fun h => q9 (fun h2 => by have := hr2.mpr ((hsX ha1).mpr (ePH.mp h2)); omega)
      clear hr2 k39 k62 k18 hq q9 ePH
      refine hK2 _ _ _ _ _ _ ?_
      refine mm_run_at (stop := [18]) (S := K) kkX5_cursorGo 90 ?_ (fun _ _ _ _ _ _ _ h => hK _ _ _ _ _ _ h)
      repeat' (first | with_reducible assumption | with_reducible exact True.intro | with_reducible exact mm_i17 | with_reducible exact mm_i18 | with_reducible exact mm_i19 | with_reducible exact mm_i20 | with_reducible exact mm_i21 | with_reducible exact mm_i22 | ((with_reducible show mm_rv _ _ _ _ _); first | exact True.intro | exact mm_i17 | exact mm_i18 | exact mm_i19 | exact mm_i20 | exact mm_i21 | exact mm_i22) | ((with_reducible show mm_bool _ _); first | exact True.intro | exact Or.inl rfl | exact Or.inr rfl | (show (_ : Int) = 0 ∨ _ = 1)) | rfl | with_reducible exact Or.inl rfl | with_reducible exact Or.inr rfl | exact Nat.le_of_ble_eq_true rfl | refine And.intro ?_ ?_ | intro _)
      all_goals (try simp (disch := omega) only [InI, Int.toNat_natCast, Int.tmod_eq_emod_of_nonneg, Int.tdiv_eq_ediv_of_nonneg, true_implies, true_or, or_true, mm_l18, mm_l19, mm_l20, mm_l21, mm_l22] at *)
      all_goals first | omega | exact q99 (by omega) | exact k188 (by omega) | skip
    clear k18 k39 k62 hq q9 ePH
    subst e0
    refine ⟨Nat.le_of_ble_eq_true rfl, ?_⟩
    refine mm_run_at (stop := [10]) (S := K) kkX5_cursorGo 90 ?_ (fun _ _ _ _ _ _ _ h => hK _ _ _ _ _ _ h)
    repeat' (first | with_reducible assumption | with_reducible exact True.intro | with_reducible exact mm_i17 | with_reducible exact mm_i18 | with_reducible exact mm_i19 | with_reducible exact mm_i20 | with_reducible exact mm_i21 | with_reducible exact mm_i22 | ((with_reducible show mm_rv _ _ _ _ _); first | exact True.intro | exact mm_i17 | exact mm_i18 | exact mm_i19 | exact mm_i20 | exact mm_i21 | exact mm_i22) | ((with_reducible show mm_bool _ _); first | exact True.intro | exact Or.inl rfl | exact Or.inr rfl | (show (_ : Int) = 0 ∨ _ = 1)) | rfl | with_reducible exact Or.inl rfl | with_reducible exact Or.inr rfl | exact Nat.le_of_ble_eq_true rfl | refine And.intro ?_ ?_ | intro _)
    all_goals (try simp (disch := omega) only [InI, Int.toNat_natCast, Int.tmod_eq_emod_of_nonneg, Int.tdiv_eq_ediv_of_nonneg, true_implies, true_or, or_true, mm_l18, mm_l19, mm_l20, mm_l21, mm_l22] at *)
    all_goals first | omega | exact k10 _ (by assumption) | skip
  · exact h.elim
theorem me_X5_cursorGo {l : Launch} (hl : l.stackTraces = false) : mm_Met l yX5_cursorGo cX5_cursorGo 2 (some .int) [] 8 141 0 sp_X5_cursorGo := mm_mt hl rn_X5_cursorGo ⟨by decide, rfl⟩ kkX5_cursorGo rfl ⟨by decide, by decide⟩ flkX5 (fun _ h => nomatch h) (⟨mm_pe (me_X5_canGo hl) mwX5_canGo (mm_t7 215 rfl rfl) (Nat.le_of_ble_eq_true rfl) (Nat.le_of_ble_eq_true rfl), mm_pe (me_X5_cannot hl) mwX5_cannot (mm_t6 118 rfl rfl) (Nat.le_of_ble_eq_true rfl) (Nat.le_of_ble_eq_true rfl), mm_pe (me_X5_stepOf hl) mwX5_stepOf (mm_t6 158 rfl rfl) (Nat.le_of_ble_eq_true rfl) (Nat.le_of_ble_eq_true rfl), mm_pe (me_X5_act hl) mwX5_act (mm_t6 130 rfl rfl) (Nat.le_of_ble_eq_true rfl) (Nat.le_of_ble_eq_true rfl), trivial⟩) (mm_xe0 _)

