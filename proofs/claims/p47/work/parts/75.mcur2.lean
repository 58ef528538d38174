/-! the model: the cursor's changes of its walk -/
theorem set_wD {V : mm_M} {w p : Nat} {x s : Int} (hd : wD V w) (hN : ∀ i : Nat, i < V w 2 → i ≠ p → V (w + 1) i / 2 ≠ s) (hx : x / 2 = s) : wD (mm_up V (w + 1) p x) w := by
  have e2 : mm_up V (w + 1) p x w = V w := mm_up_o _ (by omega)
  intro i j hi hj e
  rw [e2] at hi hj
  by_cases ei : i = p
  · by_cases ej : j = p
    · omega
    · subst ei
      rw [mm_up_sm, mm_up_ob2 ej, hx] at e
      exact absurd e.symm (hN j hj ej)
  · by_cases ej : j = p
    · subst ej
      rw [mm_up_sm, mm_up_ob2 ei, hx] at e
      exact absurd e (hN i hi ei)
    · rw [mm_up_ob2 ei, mm_up_ob2 ej] at e
      exact hd i j hi hj e
theorem at_X5_cursorSet_0 : mm_at 0 kdX5_cursorSet = [(0, .aload_n 0, 0), (1, .aload_n 0, 0), (2, .iload_n 1, 0), (3, .invokevirtual 162, 0), (6, .iconst 1, 0), (7, .invokevirtual 146, 0), (10, .ifCond .eq 5, 15), (13, .iconst 0, 0), (14, .ireturn, 0), (15, .aload_n 0, 0), (16, .invokevirtual 240, 0), (19, .ifCond .eq 11, 30), (22, .aload_n 0, 0), (23, .getfield 29, 0), (26, .iconst (-1), 0), (27, .if_icmp .ne 8, 35), (30, .aload_n 0, 0), (31, .invokevirtual 149, 0), (34, .ireturn, 0), (35, .aload_n 0, 0), (36, .aload_n 0, 0), (37, .getfield 25, 0), (40, .aload_n 0, 0), (41, .getfield 29, 0), (44, .invokevirtual 98, 0), (47, .istore_n 2, 0), (48, .aload_n 0, 0), (49, .iload_n 1, 0), (50, .aload_n 0, 0), (51, .iload_n 2, 0), (52, .invokevirtual 187, 0), (55, .aload_n 0, 0), (56, .iload_n 2, 0), (57, .invokevirtual 102, 0), (60, .invokevirtual 248, 0), (63, .istore_n 3, 0), (64, .aload_n 0, 0), (65, .aload_n 0, 0), (66, .getfield 25, 0), (69, .iload_n 1, 0), (70, .invokevirtual 165, 0), (73, .istore 4, 0), (75, .iload_n 3, 0), (76, .iconst (-1), 0), (77, .if_icmp .eq 18, 95), (80, .iload 4, 0), (82, .iconst (-1), 0), (83, .if_icmp .eq 17, 100), (86, .iload 4, 0), (88, .aload_n 0, 0), (89, .getfield 29, 0), (92, .if_icmp .eq 8, 100), (95, .aload_n 0, 0), (96, .invokevirtual 149, 0), (99, .ireturn, 0), (100, .aload_n 0, 0), (101, .getfield 16, 0), (104, .aload_n 0, 0), (105, .getfield 25, 0), (108, .bipush 30, 0), (110, .imul, 0), (111, .aload_n 0, 0), (112, .getfield 29, 0), (115, .iadd, 0), (116, .iload_n 3, 0), (117, .iastore, 0), (118, .aload_n 0, 0), (119, .iload_n 2, 0), (120, .invokevirtual 156, 0), (123, .ireturn, 0)] := rfl
theorem at_X5_cursorSet_15 : mm_at 15 kdX5_cursorSet = [(15, .aload_n 0, 0), (16, .invokevirtual 240, 0), (19, .ifCond .eq 11, 30), (22, .aload_n 0, 0), (23, .getfield 29, 0), (26, .iconst (-1), 0), (27, .if_icmp .ne 8, 35), (30, .aload_n 0, 0), (31, .invokevirtual 149, 0), (34, .ireturn, 0), (35, .aload_n 0, 0), (36, .aload_n 0, 0), (37, .getfield 25, 0), (40, .aload_n 0, 0), (41, .getfield 29, 0), (44, .invokevirtual 98, 0), (47, .istore_n 2, 0), (48, .aload_n 0, 0), (49, .iload_n 1, 0), (50, .aload_n 0, 0), (51, .iload_n 2, 0), (52, .invokevirtual 187, 0), (55, .aload_n 0, 0), (56, .iload_n 2, 0), (57, .invokevirtual 102, 0), (60, .invokevirtual 248, 0), (63, .istore_n 3, 0), (64, .aload_n 0, 0), (65, .aload_n 0, 0), (66, .getfield 25, 0), (69, .iload_n 1, 0), (70, .invokevirtual 165, 0), (73, .istore 4, 0), (75, .iload_n 3, 0), (76, .iconst (-1), 0), (77, .if_icmp .eq 18, 95), (80, .iload 4, 0), (82, .iconst (-1), 0), (83, .if_icmp .eq 17, 100), (86, .iload 4, 0), (88, .aload_n 0, 0), (89, .getfield 29, 0), (92, .if_icmp .eq 8, 100), (95, .aload_n 0, 0), (96, .invokevirtual 149, 0), (99, .ireturn, 0), (100, .aload_n 0, 0), (101, .getfield 16, 0), (104, .aload_n 0, 0), (105, .getfield 25, 0), (108, .bipush 30, 0), (110, .imul, 0), (111, .aload_n 0, 0), (112, .getfield 29, 0), (115, .iadd, 0), (116, .iload_n 3, 0), (117, .iastore, 0), (118, .aload_n 0, 0), (119, .iload_n 2, 0), (120, .invokevirtual 156, 0), (123, .ireturn, 0)] := rfl
theorem at_X5_cursorSet_30 : mm_at 30 kdX5_cursorSet = [(30, .aload_n 0, 0), (31, .invokevirtual 149, 0), (34, .ireturn, 0), (35, .aload_n 0, 0), (36, .aload_n 0, 0), (37, .getfield 25, 0), (40, .aload_n 0, 0), (41, .getfield 29, 0), (44, .invokevirtual 98, 0), (47, .istore_n 2, 0), (48, .aload_n 0, 0), (49, .iload_n 1, 0), (50, .aload_n 0, 0), (51, .iload_n 2, 0), (52, .invokevirtual 187, 0), (55, .aload_n 0, 0), (56, .iload_n 2, 0), (57, .invokevirtual 102, 0), (60, .invokevirtual 248, 0), (63, .istore_n 3, 0), (64, .aload_n 0, 0), (65, .aload_n 0, 0), (66, .getfield 25, 0), (69, .iload_n 1, 0), (70, .invokevirtual 165, 0), (73, .istore 4, 0), (75, .iload_n 3, 0), (76, .iconst (-1), 0), (77, .if_icmp .eq 18, 95), (80, .iload 4, 0), (82, .iconst (-1), 0), (83, .if_icmp .eq 17, 100), (86, .iload 4, 0), (88, .aload_n 0, 0), (89, .getfield 29, 0), (92, .if_icmp .eq 8, 100), (95, .aload_n 0, 0), (96, .invokevirtual 149, 0), (99, .ireturn, 0), (100, .aload_n 0, 0), (101, .getfield 16, 0), (104, .aload_n 0, 0), (105, .getfield 25, 0), (108, .bipush 30, 0), (110, .imul, 0), (111, .aload_n 0, 0), (112, .getfield 29, 0), (115, .iadd, 0), (116, .iload_n 3, 0), (117, .iastore, 0), (118, .aload_n 0, 0), (119, .iload_n 2, 0), (120, .invokevirtual 156, 0), (123, .ireturn, 0)] := rfl
theorem at_X5_cursorSet_35 : mm_at 35 kdX5_cursorSet = [(35, .aload_n 0, 0), (36, .aload_n 0, 0), (37, .getfield 25, 0), (40, .aload_n 0, 0), (41, .getfield 29, 0), (44, .invokevirtual 98, 0), (47, .istore_n 2, 0), (48, .aload_n 0, 0), (49, .iload_n 1, 0), (50, .aload_n 0, 0), (51, .iload_n 2, 0), (52, .invokevirtual 187, 0), (55, .aload_n 0, 0), (56, .iload_n 2, 0), (57, .invokevirtual 102, 0), (60, .invokevirtual 248, 0), (63, .istore_n 3, 0), (64, .aload_n 0, 0), (65, .aload_n 0, 0), (66, .getfield 25, 0), (69, .iload_n 1, 0), (70, .invokevirtual 165, 0), (73, .istore 4, 0), (75, .iload_n 3, 0), (76, .iconst (-1), 0), (77, .if_icmp .eq 18, 95), (80, .iload 4, 0), (82, .iconst (-1), 0), (83, .if_icmp .eq 17, 100), (86, .iload 4, 0), (88, .aload_n 0, 0), (89, .getfield 29, 0), (92, .if_icmp .eq 8, 100), (95, .aload_n 0, 0), (96, .invokevirtual 149, 0), (99, .ireturn, 0), (100, .aload_n 0, 0), (101, .getfield 16, 0), (104, .aload_n 0, 0), (105, .getfield 25, 0), (108, .bipush 30, 0), (110, .imul, 0), (111, .aload_n 0, 0), (112, .getfield 29, 0), (115, .iadd, 0), (116, .iload_n 3, 0), (117, .iastore, 0), (118, .aload_n 0, 0), (119, .iload_n 2, 0), (120, .invokevirtual 156, 0), (123, .ireturn, 0)] := rfl
theorem at_X5_cursorSet_95 : mm_at 95 kdX5_cursorSet = [(95, .aload_n 0, 0), (96, .invokevirtual 149, 0), (99, .ireturn, 0), (100, .aload_n 0, 0), (101, .getfield 16, 0), (104, .aload_n 0, 0), (105, .getfield 25, 0), (108, .bipush 30, 0), (110, .imul, 0), (111, .aload_n 0, 0), (112, .getfield 29, 0), (115, .iadd, 0), (116, .iload_n 3, 0), (117, .iastore, 0), (118, .aload_n 0, 0), (119, .iload_n 2, 0), (120, .invokevirtual 156, 0), (123, .ireturn, 0)] := rfl
theorem at_X5_cursorSet_100 : mm_at 100 kdX5_cursorSet = [(100, .aload_n 0, 0), (101, .getfield 16, 0), (104, .aload_n 0, 0), (105, .getfield 25, 0), (108, .bipush 30, 0), (110, .imul, 0), (111, .aload_n 0, 0), (112, .getfield 29, 0), (115, .iadd, 0), (116, .iload_n 3, 0), (117, .iastore, 0), (118, .aload_n 0, 0), (119, .iload_n 2, 0), (120, .invokevirtual 156, 0), (123, .ireturn, 0)] := rfl
def sp_X5_cursorSet : mm_S := fun av M d Q => match av with
  | [.inr (.inr (.inl o)), .inl s] =>  o = 17 ∧ xA M ∧ InI s ∧ ∀ M' r, xP M M' → Q (.inl (some (mm_I r))) M' d
  | _ => False
def ct_X5_cursorSet : List (Nat × mm_Ca) := [(162, (0, 2, 14, sp_X5_isNoStreet, 0)), (146, (0, 3, 14, sp_X5_start, 0)), (240, (0, 1, 14, sp_X5_isThere, 0)), (149, (0, 1, 14, sp_X5_cannot, 0)), (98, (0, 3, 14, sp_X5_stepOf, 0)), (187, (0, 2, 14, sp_X5_goesFrom, 0)), (102, (0, 2, 14, sp_X5_comesTo, 0)), (248, (0, 4, 14, sp_X5_between, 0)), (165, (0, 3, 14, sp_X5_placeOf, 0)), (156, (0, 2, 14, sp_X5_act, 0))]
abbrev rr_X5_cursorSet (Q : mm_Q) := mm_run (mm_look flX5) (mm_look ct_X5_cursorSet) mm_x0 (mm_look ([] : List (Nat × Int))) (fun _ => none) 1 0 (fun _ _ => none) Q kdX5_cursorSet
set_option maxRecDepth 20000 in
theorem rn_X5_cursorSet : mm_RN flX5 ct_X5_cursorSet mm_x0 [] 1 0 5 kdX5_cursorSet sp_X5_cursorSet := by
  intro av M d Q h
  unfold sp_X5_cursorSet at h
  split at h
  · rename_i o s
    obtain ⟨rfl, ha, hs, hq⟩ := h
    have ht0 := ha.t
    obtain ⟨K, hK, hK2⟩ : ∃ K : Nat → mm_K, (∀ t ls st M d u, K t ls st M d u → rr_X5_cursorSet Q t ls st M d u) ∧ (∀ t ls st M d u, rr_X5_cursorSet Q t ls st M d u → K t ls st M d u) := ⟨rr_X5_cursorSet Q, fun _ _ _ _ _ _ h => h, fun _ _ _ _ _ _ h => h⟩
    have k15 : ∀ v, (0 ≤ s ∧ s < M 17 1) → K 15 [some (mm_R 17), some (mm_I s), none, none, none] [] (mm_up M 17 0 v) d 0 := by
      intro v cs
      obtain ⟨M1, e0, ha1, hP1, e17, eo⟩ := xS (v := v) ha
      rw [e0]
      rw [← e17 1 (by omega)] at cs
      have ht := ha1.t
      have t1 := ht.1
      have hl := ha1.l
      have h10 := ha1.2
      have q9 := hq _ (-9) (hP1.tr (xA_u (x := M1 17 15 + 1) ha1))
      have k35 : (M1 17 10 ≠ -1 ∧ M1 17 13 = 0) → M1 17 12 ≠ -1 → K 35 [some (mm_R 17), some (mm_I s), none, none, none] [] M1 d 0 := by
        intro hc hc2
        have hp := ha1.p hc.1 hc.2
        obtain ⟨w, hw⟩ : ∃ w, w = (M1 17 10).toNat := ⟨_, rfl⟩
        obtain ⟨p, hpp⟩ : ∃ p, p = (M1 17 12).toNat := ⟨_, rfl⟩
        have hk : w < 3 := by omega
        have mv := ha1.v hk
        have hD := ha1.d hk
        have v1 := mv.1
        rw [← hw] at hp
        have w1 := mv.2.2 p (by omega)
        have i12 : 0 ≤ M1 17 12 ∧ M1 17 12 < 30 := by omega
        have en := vX_n (M := M1) (show w < 4 by omega)
        obtain ⟨st, est⟩ : ∃ st, st = M1 20 (30 * w + p) := ⟨_, rfl⟩
        rw [← est] at w1
        have k100 : ∀ x3 x4, (0 ≤ x3 ∧ x3 < 2 * M1 17 1 ∧ x3 / 2 = s) → (∀ i : Nat, i < M1 21 w → i ≠ p → M1 20 (30 * w + i) / 2 ≠ s) → K 100 [some (mm_R 17), some (mm_I s), some (mm_I st), some (mm_I x3), some (mm_I x4)] [] M1 d 0 := by
          intro x3 x4 h3 hN
          obtain ⟨M2, e2⟩ : ∃ M2, M2 = mm_up M1 20 (30 * w + p) x3 := ⟨_, rfl⟩
          have ev : vX M2 = mm_up (vX M1) (8 + 2 * w + 1) p x3 := by rw [e2, vX_u20 (by omega) (by omega)]
          have h17 : M2 17 = M1 17 := by rw [e2, mm_up_o _ (by omega)]
          have h21 : M2 21 = M1 21 := by rw [e2, mm_up_o _ (by omega)]
          have h22 : M2 22 = M1 22 := by rw [e2, mm_up_o _ (by omega)]
          have hD2 : wD (vX M2) (8 + 2 * w) := by
            rw [ev]
            exact set_wD hD (fun i hi hne => by rw [en] at hi; rw [vX_i (by omega) (by omega)]; exact hN i hi hne) h3.2.2
          have mv2 : mV M2 w := by
            refine ⟨by rw [h21]; exact mv.1, by rw [h22]; exact mv.2.1, fun i hi => ?_⟩
            rw [h21] at hi
            rw [h17, e2]
            by_cases e : i = p
            · rw [e, mm_up_sm]; omega
            · rw [mm_up_ob2 (by omega)]
              exact mv.2.2 i hi
          have hP2 := (xP_q ha1 hk (by rw [e2]; exact fX.rf.up (by omega)) h17 (by rw [ev]; exact fr.rf.up (by simp)) mv2 hD2).1 (by rw [h21]; exact Int.le_refl _)
          have q0 : ∀ x, Q (.inl (some (mm_I st))) (mm_up M2 17 14 x) d := fun x => hq _ _ (xP_ac (hP1.tr hP2))
          have k118 : K 118 [some (mm_R 17), some (mm_I s), some (mm_I st), some (mm_I x3), some (mm_I x4)] [] M2 d 0 := by
            refine hK2 _ _ _ _ _ _ ?_
            refine mm_run_at (stop := []) (S := K) kkX5_cursorSet 90 ?_ (fun _ _ _ _ _ _ _ h => hK _ _ _ _ _ _ h)
            repeat' (first | with_reducible assumption | with_reducible exact True.intro | with_reducible exact mm_i17 | with_reducible exact mm_i18 | with_reducible exact mm_i19 | with_reducible exact mm_i20 | with_reducible exact mm_i21 | with_reducible exact mm_i22 | ((with_reducible show mm_rv _ _ _ _ _); first | exact True.intro | exact mm_i17 | exact mm_i18 | exact mm_i19 | exact mm_i20 | exact mm_i21 | exact mm_i22) | ((with_reducible show mm_bool _ _); first | exact True.intro | exact Or.inl rfl | exact Or.inr rfl | (show (_ : Int) = 0 ∨ _ = 1)) | rfl | with_reducible exact Or.inl rfl | with_reducible exact Or.inr rfl | exact Nat.le_of_ble_eq_true rfl | refine And.intro ?_ ?_ | intro _)
            all_goals (try simp (disch := omega) only [InI, Int.toNat_natCast, Int.tmod_eq_emod_of_nonneg, Int.tdiv_eq_ediv_of_nonneg, true_implies, true_or, or_true, mm_l18, mm_l19, mm_l20, mm_l21, mm_l22] at *)
            all_goals first | omega | exact q0 _ | skip
          rw [e2, show 30 * w + p = (M1 17 10 * 30 + M1 17 12).toNat by omega] at k118
          refine hK2 _ _ _ _ _ _ ?_
          refine mm_run_at (stop := [118]) (S := K) kkX5_cursorSet 90 ?_ (fun _ _ _ _ _ _ _ h => hK _ _ _ _ _ _ h)
          repeat' (first | with_reducible assumption | with_reducible exact True.intro | with_reducible exact mm_i17 | with_reducible exact mm_i18 | with_reducible exact mm_i19 | with_reducible exact mm_i20 | with_reducible exact mm_i21 | with_reducible exact mm_i22 | ((with_reducible show mm_rv _ _ _ _ _); first | exact True.intro | exact mm_i17 | exact mm_i18 | exact mm_i19 | exact mm_i20 | exact mm_i21 | exact mm_i22) | ((with_reducible show mm_bool _ _); first | exact True.intro | exact Or.inl rfl | exact Or.inr rfl | (show (_ : Int) = 0 ∨ _ = 1)) | rfl | with_reducible exact Or.inl rfl | with_reducible exact Or.inr rfl | exact Nat.le_of_ble_eq_true rfl | refine And.intro ?_ ?_ | intro _)
          all_goals (try simp (disch := omega) only [InI, Int.toNat_natCast, Int.tmod_eq_emod_of_nonneg, Int.tdiv_eq_ediv_of_nonneg, true_implies, true_or, or_true, mm_l18, mm_l19, mm_l20, mm_l21, mm_l22] at *)
          all_goals first | omega | exact k118 | skip
        have k75 : ∀ x3 x4 ga gb, (-1 ≤ x3 ∧ x3 < 2 * M1 17 1 ∧ (0 ≤ x3 → x3 / 2 = s ∧ srX M1 x3 = ga ∧ glX M1 x3 = gb)) → ((x4 = -1 ∧ ∀ i : Nat, i < M1 21 w → M1 20 (30 * w + i) / 2 ≠ s) ∨ (0 ≤ x4 ∧ x4 < M1 21 w ∧ M1 20 (30 * w + x4.toNat) / 2 = s ∧ ∀ i : Nat, i < x4 → M1 20 (30 * w + i) / 2 ≠ s)) → K 75 [some (mm_R 17), some (mm_I s), some (mm_I st), some (mm_I x3), some (mm_I x4)] [] M1 d 0 := by
          intro x3 x4 ga gb h3 h4
          have i3 : -1 ≤ x3 ∧ x3 < 60 := by omega
          have i4 : -1 ≤ x4 ∧ x4 < 30 := by omega
          have kA : x3 ≠ -1 → x4 = -1 → K 100 [some (mm_R 17), some (mm_I s), some (mm_I st), some (mm_I x3), some (mm_I x4)] [] M1 d 0 := fun h h2 => k100 x3 x4 ⟨by omega, h3.2.1, (h3.2.2 (by omega)).1⟩ (fun i hi _ => (h4.resolve_right (by omega)).2 i hi)
          have kB : x3 ≠ -1 → x4 ≠ -1 → x4 = M1 17 12 → K 100 [some (mm_R 17), some (mm_I s), some (mm_I st), some (mm_I x3), some (mm_I x4)] [] M1 d 0 := fun h h2 h5 => k100 x3 x4 ⟨by omega, h3.2.1, (h3.2.2 (by omega)).1⟩ (fun i hi hne e => by
            have h6 := h4.resolve_left (by omega)
            refine hne (hD i p (by rw [en]; exact hi) (by rw [en]; omega) ?_)
            rw [vX_i (by omega) (by omega), vX_i (by omega) (by omega), e, show p = x4.toNat by omega]
            exact h6.2.2.1.symm)
          clear h3 h4 k100
          refine hK2 _ _ _ _ _ _ ?_
          refine mm_run_at (stop := [100]) (S := K) kkX5_cursorSet 90 ?_ (fun _ _ _ _ _ _ _ h => hK _ _ _ _ _ _ h)
          repeat' (first | with_reducible assumption | with_reducible exact True.intro | with_reducible exact mm_i17 | with_reducible exact mm_i18 | with_reducible exact mm_i19 | with_reducible exact mm_i20 | with_reducible exact mm_i21 | with_reducible exact mm_i22 | ((with_reducible show mm_rv _ _ _ _ _); first | exact True.intro | exact mm_i17 | exact mm_i18 | exact mm_i19 | exact mm_i20 | exact mm_i21 | exact mm_i22) | ((with_reducible show mm_bool _ _); first | exact True.intro | exact Or.inl rfl | exact Or.inr rfl | (show (_ : Int) = 0 ∨ _ = 1)) | rfl | with_reducible exact Or.inl rfl | with_reducible exact Or.inr rfl | exact Nat.le_of_ble_eq_true rfl | refine And.intro ?_ ?_ | intro _)
          all_goals (try simp (disch := omega) only [InI, Int.toNat_natCast, Int.tmod_eq_emod_of_nonneg, Int.tdiv_eq_ediv_of_nonneg, true_implies, true_or, or_true, mm_l18, mm_l19, mm_l20, mm_l21, mm_l22] at *)
          all_goals first | omega | exact q9 | exact kA (by omega) (by omega) | exact kB (by omega) (by omega) (by omega) | skip
        clear k100
        rw [hw] at k75 mv v1
        rw [est, hw, hpp] at k75 w1
        refine hK2 _ _ _ _ _ _ ?_
        refine mm_run_at (stop := [75]) (S := K) kkX5_cursorSet 90 ?_ (fun _ _ _ _ _ _ _ h => hK _ _ _ _ _ _ h)
        repeat' (first | with_reducible assumption | with_reducible exact True.intro | with_reducible exact mm_i17 | with_reducible exact mm_i18 | with_reducible exact mm_i19 | with_reducible exact mm_i20 | with_reducible exact mm_i21 | with_reducible exact mm_i22 | ((with_reducible show mm_rv _ _ _ _ _); first | exact True.intro | exact mm_i17 | exact mm_i18 | exact mm_i19 | exact mm_i20 | exact mm_i21 | exact mm_i22) | ((with_reducible show mm_bool _ _); first | exact True.intro | exact Or.inl rfl | exact Or.inr rfl | (show (_ : Int) = 0 ∨ _ = 1)) | rfl | with_reducible exact Or.inl rfl | with_reducible exact Or.inr rfl | exact Nat.le_of_ble_eq_true rfl | refine And.intro ?_ ?_ | intro _)
        all_goals (try simp (disch := omega) only [InI, Int.toNat_natCast, Int.tmod_eq_emod_of_nonneg, Int.tdiv_eq_ediv_of_nonneg, true_implies, true_or, or_true, mm_l18, mm_l19, mm_l20, mm_l21, mm_l22] at *)
        all_goals first | omega | exact k75 _ _ _ _ (by assumption) (by assumption) | skip
      have k19 : ∀ r, ((M1 17 10 ≠ -1 ∧ M1 17 13 = 0) → r = 1) ∧ (¬ (M1 17 10 ≠ -1 ∧ M1 17 13 = 0) → r = 0) → K 19 [some (mm_R 17), some (mm_I s), none, none, none] [mm_I r] M1 d 0 := by
        intro r hr
        by_cases hc : M1 17 10 ≠ -1 ∧ M1 17 13 = 0
        · rw [hr.1 hc]
          have k35 := k35 hc
          have hp := ha1.p hc.1 hc.2
          have v1 := (ha1.v (k := (M1 17 10).toNat) (by omega)).1
          clear hr
          refine hK2 _ _ _ _ _ _ ?_
          refine mm_run_at (stop := [35]) (S := K) kkX5_cursorSet 90 ?_ (fun _ _ _ _ _ _ _ h => hK _ _ _ _ _ _ h)
          repeat' (first | with_reducible assumption | with_reducible exact True.intro | with_reducible exact mm_i17 | with_reducible exact mm_i18 | with_reducible exact mm_i19 | with_reducible exact mm_i20 | with_reducible exact mm_i21 | with_reducible exact mm_i22 | ((with_reducible show mm_rv _ _ _ _ _); first | exact True.intro | exact mm_i17 | exact mm_i18 | exact mm_i19 | exact mm_i20 | exact mm_i21 | exact mm_i22) | ((with_reducible show mm_bool _ _); first | exact True.intro | exact Or.inl rfl | exact Or.inr rfl | (show (_ : Int) = 0 ∨ _ = 1)) | rfl | with_reducible exact Or.inl rfl | with_reducible exact Or.inr rfl | exact Nat.le_of_ble_eq_true rfl | refine And.intro ?_ ?_ | intro _)
          all_goals (try simp (disch := omega) only [InI, Int.toNat_natCast, Int.tmod_eq_emod_of_nonneg, Int.tdiv_eq_ediv_of_nonneg, true_implies, true_or, or_true, mm_l18, mm_l19, mm_l20, mm_l21, mm_l22] at *)
          all_goals first | omega | exact q9 | exact k35 (by omega) | skip
        · rw [hr.2 hc]
          clear hr k35
          refine hK2 _ _ _ _ _ _ ?_
          refine mm_run_at (stop := [22]) (S := K) kkX5_cursorSet 90 ?_ (fun _ _ _ _ _ _ _ h => hK _ _ _ _ _ _ h)
          repeat' (first | with_reducible assumption | with_reducible exact True.intro | with_reducible exact mm_i17 | with_reducible exact mm_i18 | with_reducible exact mm_i19 | with_reducible exact mm_i20 | with_reducible exact mm_i21 | with_reducible exact mm_i22 | ((with_reducible show mm_rv _ _ _ _ _); first | exact True.intro | exact mm_i17 | exact mm_i18 | exact mm_i19 | exact mm_i20 | exact mm_i21 | exact mm_i22) | ((with_reducible show mm_bool _ _); first | exact True.intro | exact Or.inl rfl | exact Or.inr rfl | (show (_ : Int) = 0 ∨ _ = 1)) | rfl | with_reducible exact Or.inl rfl | with_reducible exact Or.inr rfl | exact Nat.le_of_ble_eq_true rfl | refine And.intro ?_ ?_ | intro _)
          all_goals (try simp (disch := omega) only [InI, Int.toNat_natCast, Int.tmod_eq_emod_of_nonneg, Int.tdiv_eq_ediv_of_nonneg, true_implies, true_or, or_true, mm_l18, mm_l19, mm_l20, mm_l21, mm_l22] at *)
          all_goals first | omega | exact q9 | skip
      clear k35
      have i10 : InI (M1 17 10) := ⟨by omega, by omega⟩
      refine hK2 _ _ _ _ _ _ ?_
      refine mm_run_at (stop := [19]) (S := K) kkX5_cursorSet 90 ?_ (fun _ _ _ _ _ _ _ h => hK _ _ _ _ _ _ h)
      repeat' (first | with_reducible assumption | with_reducible exact True.intro | with_reducible exact mm_i17 | with_reducible exact mm_i18 | with_reducible exact mm_i19 | with_reducible exact mm_i20 | with_reducible exact mm_i21 | with_reducible exact mm_i22 | ((with_reducible show mm_rv _ _ _ _ _); first | exact True.intro | exact mm_i17 | exact mm_i18 | exact mm_i19 | exact mm_i20 | exact mm_i21 | exact mm_i22) | ((with_reducible show mm_bool _ _); first | exact True.intro | exact Or.inl rfl | exact Or.inr rfl | (show (_ : Int) = 0 ∨ _ = 1)) | rfl | with_reducible exact Or.inl rfl | with_reducible exact Or.inr rfl | exact Nat.le_of_ble_eq_true rfl | refine And.intro ?_ ?_ | intro _)
      exact k19 _ (by assumption)
    refine ⟨Nat.le_of_ble_eq_true rfl, ?_⟩
    refine mm_run_at (stop := [15]) (S := K) kkX5_cursorSet 90 ?_ (fun _ _ _ _ _ _ _ h => hK _ _ _ _ _ _ h)
    repeat' (first | with_reducible assumption | with_reducible exact True.intro | with_reducible exact mm_i17 | with_reducible exact mm_i18 | with_reducible exact mm_i19 | with_reducible exact mm_i20 | with_reducible exact mm_i21 | with_reducible exact mm_i22 | ((with_reducible show mm_rv _ _ _ _ _); first | exact True.intro | exact mm_i17 | exact mm_i18 | exact mm_i19 | exact mm_i20 | exact mm_i21 | exact mm_i22) | ((with_reducible show mm_bool _ _); first | exact True.intro | exact Or.inl rfl | exact Or.inr rfl | (show (_ : Int) = 0 ∨ _ = 1)) | rfl | with_reducible exact Or.inl rfl | with_reducible exact Or.inr rfl | exact Nat.le_of_ble_eq_true rfl | refine And.intro ?_ ?_ | intro _)
    all_goals (try simp (disch := omega) only [InI, Int.toNat_natCast, Int.tmod_eq_emod_of_nonneg, Int.tdiv_eq_ediv_of_nonneg, true_implies, true_or, or_true, mm_l18, mm_l19, mm_l20, mm_l21, mm_l22] at *)
    all_goals first | omega | exact hq _ _ (xP_s ha) | exact k15 _ (by omega) | skip
  · exact h.elim
theorem me_X5_cursorSet {l : Launch} (hl : l.stackTraces = false) : mm_Met l yX5_cursorSet cX5_cursorSet 5 (some .int) [] 8 145 0 sp_X5_cursorSet := mm_mt hl rn_X5_cursorSet ⟨by decide, rfl⟩ kkX5_cursorSet rfl ⟨by decide, by decide⟩ flkX5 (fun _ h => nomatch h) (⟨mm_pe (me_X5_isNoStreet hl) mwX5_isNoStreet (mm_t6 150 rfl rfl) (Nat.le_of_ble_eq_true rfl) (Nat.le_of_ble_eq_true rfl), mm_pe (me_X5_start hl) mwX5_start (mm_t6 110 rfl rfl) (Nat.le_of_ble_eq_true rfl) (Nat.le_of_ble_eq_true rfl), mm_pe (me_X5_isThere hl) mwX5_isThere (mm_t7 219 rfl rfl) (Nat.le_of_ble_eq_true rfl) (Nat.le_of_ble_eq_true rfl), mm_pe (me_X5_cannot hl) mwX5_cannot (mm_t6 118 rfl rfl) (Nat.le_of_ble_eq_true rfl) (Nat.le_of_ble_eq_true rfl), mm_pe (me_X5_stepOf hl) mwX5_stepOf (mm_t6 158 rfl rfl) (Nat.le_of_ble_eq_true rfl) (Nat.le_of_ble_eq_true rfl), mm_pe (me_X5_goesFrom hl) mwX5_goesFrom (mm_t7 56 rfl rfl) (Nat.le_of_ble_eq_true rfl) (Nat.le_of_ble_eq_true rfl), mm_pe (me_X5_comesTo hl) mwX5_comesTo (mm_t6 189 rfl rfl) (Nat.le_of_ble_eq_true rfl) (Nat.le_of_ble_eq_true rfl), mm_pe (me_X5_between hl) mwX5_between (mm_t7 227 rfl rfl) (Nat.le_of_ble_eq_true rfl) (Nat.le_of_ble_eq_true rfl), mm_pe (me_X5_placeOf hl) mwX5_placeOf (mm_t6 154 rfl rfl) (Nat.le_of_ble_eq_true rfl) (Nat.le_of_ble_eq_true rfl), mm_pe (me_X5_act hl) mwX5_act (mm_t6 130 rfl rfl) (Nat.le_of_ble_eq_true rfl) (Nat.le_of_ble_eq_true rfl), trivial⟩) (mm_xe0 _)

