/-! the model: walks turned, the town turned -/
theorem at_X5_turnRound_0 : mm_at 0 kdX5_turnRound = [(0, .aload_n 0, 0), (1, .aload_n 0, 0), (2, .iload_n 1, 0), (3, .invokevirtual 178, 0), (6, .iconst 1, 0), (7, .invokevirtual 146, 0), (10, .ifCond .eq 5, 15), (13, .iconst 0, 0), (14, .ireturn, 0), (15, .aload_n 0, 0), (16, .getfield 60, 0), (19, .ifCond .eq 8, 27), (22, .aload_n 0, 0), (23, .invokevirtual 149, 0), (26, .ireturn, 0), (27, .aload_n 0, 0), (28, .iload_n 1, 0), (29, .invokevirtual 168, 0), (32, .iconst 0, 0), (33, .istore_n 2, 0), (34, .iload_n 2, 0), (35, .aload_n 0, 0), (36, .getfield 19, 0), (39, .iload_n 1, 0), (40, .iaload, 0), (41, .if_icmp .ge 55, 96), (44, .aload_n 0, 0), (45, .iload_n 1, 0), (46, .iload_n 2, 0), (47, .invokevirtual 98, 0), (50, .istore_n 3, 0), (51, .aload_n 0, 0), (52, .iload_n 3, 0), (53, .invokevirtual 187, 0), (56, .aload_n 0, 0), (57, .iload_n 3, 0), (58, .invokevirtual 102, 0), (61, .if_icmp .eq 29, 90), (64, .aload_n 0, 0), (65, .getfield 16, 0), (68, .iload_n 1, 0), (69, .bipush 30, 0), (71, .imul, 0), (72, .iload_n 2, 0), (73, .iadd, 0), (74, .iload_n 3, 0), (75, .iconst 2, 0), (76, .irem, 0), (77, .ifCond .ne 9, 86), (80, .iload_n 3, 0), (81, .iconst 1, 0), (82, .iadd, 0), (83, .goto 6, 89), (86, .iload_n 3, 0), (87, .iconst 1, 0), (88, .isub, 0), (89, .iastore, 0), (90, .iinc 2 1, 0), (93, .goto (-59), 34), (96, .aload_n 0, 0), (97, .aload_n 0, 0), (98, .getfield 22, 0), (101, .iload_n 1, 0), (102, .iaload, 0), (103, .invokevirtual 156, 0), (106, .ireturn, 0)] := rfl
theorem at_X5_turnRound_15 : mm_at 15 kdX5_turnRound = [(15, .aload_n 0, 0), (16, .getfield 60, 0), (19, .ifCond .eq 8, 27), (22, .aload_n 0, 0), (23, .invokevirtual 149, 0), (26, .ireturn, 0), (27, .aload_n 0, 0), (28, .iload_n 1, 0), (29, .invokevirtual 168, 0), (32, .iconst 0, 0), (33, .istore_n 2, 0), (34, .iload_n 2, 0), (35, .aload_n 0, 0), (36, .getfield 19, 0), (39, .iload_n 1, 0), (40, .iaload, 0), (41, .if_icmp .ge 55, 96), (44, .aload_n 0, 0), (45, .iload_n 1, 0), (46, .iload_n 2, 0), (47, .invokevirtual 98, 0), (50, .istore_n 3, 0), (51, .aload_n 0, 0), (52, .iload_n 3, 0), (53, .invokevirtual 187, 0), (56, .aload_n 0, 0), (57, .iload_n 3, 0), (58, .invokevirtual 102, 0), (61, .if_icmp .eq 29, 90), (64, .aload_n 0, 0), (65, .getfield 16, 0), (68, .iload_n 1, 0), (69, .bipush 30, 0), (71, .imul, 0), (72, .iload_n 2, 0), (73, .iadd, 0), (74, .iload_n 3, 0), (75, .iconst 2, 0), (76, .irem, 0), (77, .ifCond .ne 9, 86), (80, .iload_n 3, 0), (81, .iconst 1, 0), (82, .iadd, 0), (83, .goto 6, 89), (86, .iload_n 3, 0), (87, .iconst 1, 0), (88, .isub, 0), (89, .iastore, 0), (90, .iinc 2 1, 0), (93, .goto (-59), 34), (96, .aload_n 0, 0), (97, .aload_n 0, 0), (98, .getfield 22, 0), (101, .iload_n 1, 0), (102, .iaload, 0), (103, .invokevirtual 156, 0), (106, .ireturn, 0)] := rfl
theorem at_X5_turnRound_27 : mm_at 27 kdX5_turnRound = [(27, .aload_n 0, 0), (28, .iload_n 1, 0), (29, .invokevirtual 168, 0), (32, .iconst 0, 0), (33, .istore_n 2, 0), (34, .iload_n 2, 0), (35, .aload_n 0, 0), (36, .getfield 19, 0), (39, .iload_n 1, 0), (40, .iaload, 0), (41, .if_icmp .ge 55, 96), (44, .aload_n 0, 0), (45, .iload_n 1, 0), (46, .iload_n 2, 0), (47, .invokevirtual 98, 0), (50, .istore_n 3, 0), (51, .aload_n 0, 0), (52, .iload_n 3, 0), (53, .invokevirtual 187, 0), (56, .aload_n 0, 0), (57, .iload_n 3, 0), (58, .invokevirtual 102, 0), (61, .if_icmp .eq 29, 90), (64, .aload_n 0, 0), (65, .getfield 16, 0), (68, .iload_n 1, 0), (69, .bipush 30, 0), (71, .imul, 0), (72, .iload_n 2, 0), (73, .iadd, 0), (74, .iload_n 3, 0), (75, .iconst 2, 0), (76, .irem, 0), (77, .ifCond .ne 9, 86), (80, .iload_n 3, 0), (81, .iconst 1, 0), (82, .iadd, 0), (83, .goto 6, 89), (86, .iload_n 3, 0), (87, .iconst 1, 0), (88, .isub, 0), (89, .iastore, 0), (90, .iinc 2 1, 0), (93, .goto (-59), 34), (96, .aload_n 0, 0), (97, .aload_n 0, 0), (98, .getfield 22, 0), (101, .iload_n 1, 0), (102, .iaload, 0), (103, .invokevirtual 156, 0), (106, .ireturn, 0)] := rfl
theorem at_X5_turnRound_34 : mm_at 34 kdX5_turnRound = [(34, .iload_n 2, 0), (35, .aload_n 0, 0), (36, .getfield 19, 0), (39, .iload_n 1, 0), (40, .iaload, 0), (41, .if_icmp .ge 55, 96), (44, .aload_n 0, 0), (45, .iload_n 1, 0), (46, .iload_n 2, 0), (47, .invokevirtual 98, 0), (50, .istore_n 3, 0), (51, .aload_n 0, 0), (52, .iload_n 3, 0), (53, .invokevirtual 187, 0), (56, .aload_n 0, 0), (57, .iload_n 3, 0), (58, .invokevirtual 102, 0), (61, .if_icmp .eq 29, 90), (64, .aload_n 0, 0), (65, .getfield 16, 0), (68, .iload_n 1, 0), (69, .bipush 30, 0), (71, .imul, 0), (72, .iload_n 2, 0), (73, .iadd, 0), (74, .iload_n 3, 0), (75, .iconst 2, 0), (76, .irem, 0), (77, .ifCond .ne 9, 86), (80, .iload_n 3, 0), (81, .iconst 1, 0), (82, .iadd, 0), (83, .goto 6, 89), (86, .iload_n 3, 0), (87, .iconst 1, 0), (88, .isub, 0), (89, .iastore, 0), (90, .iinc 2 1, 0), (93, .goto (-59), 34), (96, .aload_n 0, 0), (97, .aload_n 0, 0), (98, .getfield 22, 0), (101, .iload_n 1, 0), (102, .iaload, 0), (103, .invokevirtual 156, 0), (106, .ireturn, 0)] := rfl
theorem at_X5_turnRound_86 : mm_at 86 kdX5_turnRound = [(86, .iload_n 3, 0), (87, .iconst 1, 0), (88, .isub, 0), (89, .iastore, 0), (90, .iinc 2 1, 0), (93, .goto (-59), 34), (96, .aload_n 0, 0), (97, .aload_n 0, 0), (98, .getfield 22, 0), (101, .iload_n 1, 0), (102, .iaload, 0), (103, .invokevirtual 156, 0), (106, .ireturn, 0)] := rfl
theorem at_X5_turnRound_89 : mm_at 89 kdX5_turnRound = [(89, .iastore, 0), (90, .iinc 2 1, 0), (93, .goto (-59), 34), (96, .aload_n 0, 0), (97, .aload_n 0, 0), (98, .getfield 22, 0), (101, .iload_n 1, 0), (102, .iaload, 0), (103, .invokevirtual 156, 0), (106, .ireturn, 0)] := rfl
theorem at_X5_turnRound_90 : mm_at 90 kdX5_turnRound = [(90, .iinc 2 1, 0), (93, .goto (-59), 34), (96, .aload_n 0, 0), (97, .aload_n 0, 0), (98, .getfield 22, 0), (101, .iload_n 1, 0), (102, .iaload, 0), (103, .invokevirtual 156, 0), (106, .ireturn, 0)] := rfl
theorem at_X5_turnRound_96 : mm_at 96 kdX5_turnRound = [(96, .aload_n 0, 0), (97, .aload_n 0, 0), (98, .getfield 22, 0), (101, .iload_n 1, 0), (102, .iaload, 0), (103, .invokevirtual 156, 0), (106, .ireturn, 0)] := rfl
def sp_X5_turnRound : mm_S := fun av M d Q => match av with
  | [.inr (.inr (.inl o)), .inl a] =>  o = 17 ∧ xA M ∧ InI a ∧ ∀ M' r, xP M M' → C_turnRound a (vX M) (vX M') (M' 17 0) r → Q (.inl (some (mm_I r))) M' d
  | _ => False
def ct_X5_turnRound : List (Nat × mm_Ca) := [(178, (0, 2, 14, sp_X5_isNoWalk, 0)), (146, (0, 3, 14, sp_X5_start, 0)), (149, (0, 1, 14, sp_X5_cannot, 0)), (168, (0, 2, 14, sp_X5_turned, 0)), (98, (0, 3, 14, sp_X5_stepOf, 0)), (187, (0, 2, 14, sp_X5_goesFrom, 0)), (102, (0, 2, 14, sp_X5_comesTo, 0)), (156, (0, 2, 14, sp_X5_act, 0))]
abbrev rr_X5_turnRound (Q : mm_Q) := mm_run (mm_look flX5) (mm_look ct_X5_turnRound) mm_x0 (mm_look ([] : List (Nat × Int))) (fun _ => none) 1 0 (fun _ _ => none) Q kdX5_turnRound
def tsI (M0 M : mm_M) (k n i : Nat) : Prop := M 22 = M0 22 ∧ ∀ j : Nat, j < n → (j < i → M 20 (30 * k + j) = flp (vX M0) (M0 20 (30 * k + j))) ∧ (i ≤ j → M 20 (30 * k + j) = M0 20 (30 * k + j))
set_option maxRecDepth 20000 in
theorem lp_X5_turnRound {M0 : mm_M} {d : List Nat} {Q : mm_Q} {k n : Nat} (hk : k < 3) (hn : M0 21 k = n) (h30 : n ≤ 30) (ht : tX M0) (hq : ∀ M' x3, fX M0 M' → M' 17 = M0 17 → fr [8 + 2 * k, 8 + 2 * k + 1] (vX M0) (vX M') → mV M' k → M' 21 k = M0 21 k → (∀ j : Nat, j < n → M' 20 (30 * k + j) / 2 = M0 20 (30 * k + j) / 2) → tsI M0 M' k n n → rr_X5_turnRound Q 96 [some (mm_R 17), some (mm_I k), some (mm_I n), x3] [] M' d 0) : ∀ (j i : Nat) (M : mm_M) (x3 : Option mm_V), i + j = n → fX M0 M → M 17 = M0 17 → fr [8 + 2 * k, 8 + 2 * k + 1] (vX M0) (vX M) → mV M k → M 21 k = M0 21 k → (∀ j : Nat, j < n → M 20 (30 * k + j) / 2 = M0 20 (30 * k + j) / 2) → tsI M0 M k n i → rr_X5_turnRound Q 34 [some (mm_R 17), some (mm_I k), some (mm_I i), x3] [] M d 0 := by
  intro j
  induction j with
  | zero =>
    intro i M x3 hi hx h17 hf hv h21 hs hT
    have e : i = n := by omega
    subst e
    have e1 : M 21 k = i := by rw [h21]; exact hn
    obtain ⟨K, hK, hK2⟩ : ∃ K : Nat → mm_K, (∀ t ls st M d u, K t ls st M d u → rr_X5_turnRound Q t ls st M d u) ∧ (∀ t ls st M d u, rr_X5_turnRound Q t ls st M d u → K t ls st M d u) := ⟨rr_X5_turnRound Q, fun _ _ _ _ _ _ h => h, fun _ _ _ _ _ _ h => h⟩
    have h9 := hK2 _ _ _ _ _ _ (hq M x3 hx h17 hf hv h21 hs hT)
    refine mm_run_at (stop := [44, 96]) (S := K) kkX5_turnRound 90 ?_ (fun _ _ _ _ _ _ _ h => hK _ _ _ _ _ _ h)
    repeat' (first | with_reducible assumption | with_reducible exact mm_i17 | with_reducible exact mm_i18 | with_reducible exact mm_i19 | with_reducible exact mm_i20 | with_reducible exact mm_i21 | with_reducible exact mm_i22 | ((with_reducible show mm_rv _ _ _ _ _); first | exact True.intro | exact mm_i17 | exact mm_i18 | exact mm_i19 | exact mm_i20 | exact mm_i21 | exact mm_i22) | ((with_reducible show mm_bool _ _); first | exact True.intro | exact Or.inl rfl | exact Or.inr rfl | (show (_ : Int) = 0 ∨ _ = 1)) | refine And.intro ?_ ?_ | intro _ | with_reducible exact True.intro | exact rfl | with_reducible exact Or.inl rfl | with_reducible exact Or.inr rfl | exact Nat.le_of_ble_eq_true rfl)
    all_goals (try simp (disch := omega) only [InI, Int.toNat_natCast, Int.tmod_eq_emod_of_nonneg, Int.tdiv_eq_ediv_of_nonneg, true_implies, true_or, or_true, mm_l18, mm_l19, mm_l20, mm_l21, mm_l22] at *)
    all_goals first | omega | exact h9 | skip
  | succ j ih =>
    intro i M x3 hi hx h17 hf hv h21 hs hT
    have e1 : M 21 k = n := by rw [h21]; exact hn
    have ht2 : tX M := tX_to ht hf (isKk (show k < 4 by omega))
    have w1 := hv.2.2 i (by omega)
    have t1 := ht2.1
    have v1 := hv.1
    have v2 := hv.2.1
    have e5 : ((k : Int) * 30 + i).toNat = 30 * k + i := by omega
    have e6 : (30 * (k : Int).toNat + (i : Int).toNat) = 30 * k + i := by omega
    obtain ⟨K, hK, hK2⟩ : ∃ K : Nat → mm_K, (∀ t ls st M d u, K t ls st M d u → rr_X5_turnRound Q t ls st M d u) ∧ (∀ t ls st M d u, rr_X5_turnRound Q t ls st M d u → K t ls st M d u) := ⟨rr_X5_turnRound Q, fun _ _ _ _ _ _ h => h, fun _ _ _ _ _ _ h => h⟩
    have e34 := fr_34 (isKk (show k < 4 by omega)) hf
    have hz := (hT.2 i (by omega)).2 (Nat.le_refl _)
    have hlp : srX M (M 20 (30 * k + i)) = glX M (M 20 (30 * k + i)) ↔ vX M0 3 (M0 20 (30 * k + i) / 2).toNat = vX M0 4 (M0 20 (30 * k + i) / 2).toNat := by
      rw [sr_v, gl_v, loop_sr, e34.1, e34.2.1, hz]
    have st0 : srX M (M 20 (30 * k + i)) = glX M (M 20 (30 * k + i)) → K 34 [some (mm_R 17), some (mm_I k), some (mm_I ((i : Int) + 1)), some (mm_I (M 20 (30 * k + i)))] [] M d 0 := fun h => hK2 _ _ _ _ _ _ (ih (i + 1) M _ (by omega) hx h17 hf hv h21 hs ⟨hT.1, fun j hj => ⟨fun hj2 => by
      by_cases e : j = i
      · subst e
        rw [hz]
        unfold flp
        rw [if_pos (hlp.mp h)]
      · exact (hT.2 j hj).1 (by omega), fun hj2 => (hT.2 j hj).2 (by omega)⟩⟩)
    have st1 : ∀ y, srX M (M 20 (30 * k + i)) ≠ glX M (M 20 (30 * k + i)) → y = (if M 20 (30 * k + i) % 2 = 0 then M 20 (30 * k + i) + 1 else M 20 (30 * k + i) - 1) → K 34 [some (mm_R 17), some (mm_I k), some (mm_I ((i : Int) + 1)), some (mm_I (M 20 (30 * k + i)))] [] (mm_up M 20 (30 * k + i) y) d 0 := by
      intro y hne hyy
      have hy : y / 2 = M 20 (30 * k + i) / 2 := by rw [hyy]; split <;> omega
      have hy2 : 0 ≤ y ∧ y < 2 * M 17 1 := by rw [hyy]; split <;> omega
      refine hK2 _ _ _ _ _ _ (ih (i + 1) _ _ (by omega) (hx.tr (fX.rf.up (by omega))) (by rw [mm_up_o _ (by omega)]; exact h17) (hf.tr (by rw [vX_u20 (by omega) (by omega)]; exact fr.rf.up (by simp))) ⟨by rw [mm_up_ob (by omega)]; exact v1, by rw [mm_up_ob (by omega)]; exact v2, fun x hx2 => ?_⟩ (by rw [mm_up_ob (by omega)]; exact h21) (fun x hx2 => ?_) ⟨by rw [mm_up_o _ (by omega)]; exact hT.1, fun j hj => ⟨fun hj2 => ?_, fun hj2 => ?_⟩⟩)
      · rw [mm_up_ob (by omega)] at hx2
        rw [show mm_up M 20 (30 * k + i) y 17 1 = M 17 1 from mm_up_ob (by decide)]
        by_cases e : x = i
        · subst e
          simp only [mm_up, and_self, if_true]
          exact hy2
        · rw [mm_up_ob2 (by omega)]
          exact hv.2.2 x hx2
      · by_cases e : x = i
        · subst e
          simp only [mm_up, and_self, if_true]
          rw [hy]
          exact hs x hx2
        · rw [mm_up_ob2 (by omega)]
          exact hs x hx2
      · by_cases e : j = i
        · subst e
          rw [mm_up_sm, hyy, hz]
          unfold flp
          rw [if_neg (fun h => hne (hlp.mpr h))]
        · rw [mm_up_ob2 (by omega)]
          exact (hT.2 j hj).1 (by omega)
      · rw [mm_up_ob2 (by omega)]
        exact (hT.2 j hj).2 (by omega)
    have st2 : srX M (M 20 (30 * k + i)) ≠ glX M (M 20 (30 * k + i)) → M 20 (30 * k + i) % 2 = 0 → K 34 [some (mm_R 17), some (mm_I k), some (mm_I ((i : Int) + 1)), some (mm_I (M 20 (30 * k + i)))] [] (mm_up M 20 (30 * k + i) (M 20 (30 * k + i) + 1)) d 0 := fun h h2 => st1 _ h (by rw [if_pos h2])
    have st3 : srX M (M 20 (30 * k + i)) ≠ glX M (M 20 (30 * k + i)) → ¬ M 20 (30 * k + i) % 2 = 0 → K 34 [some (mm_R 17), some (mm_I k), some (mm_I ((i : Int) + 1)), some (mm_I (M 20 (30 * k + i)))] [] (mm_up M 20 (30 * k + i) (M 20 (30 * k + i) - 1)) d 0 := fun h h2 => st1 _ h (by rw [if_neg h2])
    clear st1 hT hlp hz ih hs hq e34
    refine mm_run_at (stop := [34, 96]) (S := K) kkX5_turnRound 90 ?_ (fun _ _ _ _ _ _ _ h => hK _ _ _ _ _ _ h)
    refine mm_a2 (by exact mm_i17) ?_
    repeat' (first | with_reducible assumption | with_reducible exact mm_i17 | with_reducible exact mm_i18 | with_reducible exact mm_i19 | with_reducible exact mm_i20 | with_reducible exact mm_i21 | with_reducible exact mm_i22 | ((with_reducible show mm_rv _ _ _ _ _); first | exact True.intro | exact mm_i17 | exact mm_i18 | exact mm_i19 | exact mm_i20 | exact mm_i21 | exact mm_i22) | ((with_reducible show mm_bool _ _); first | exact True.intro | exact Or.inl rfl | exact Or.inr rfl | (show (_ : Int) = 0 ∨ _ = 1)) | refine And.intro ?_ ?_ | intro _ | with_reducible exact True.intro | exact rfl | with_reducible exact Or.inl rfl | with_reducible exact Or.inr rfl | exact Nat.le_of_ble_eq_true rfl)
    all_goals (try simp (disch := omega) only [e5, e6, InI, Int.toNat_natCast, Int.tmod_eq_emod_of_nonneg, Int.tdiv_eq_ediv_of_nonneg, true_implies, true_or, or_true, mm_l18, mm_l19, mm_l20, mm_l21, mm_l22] at *)
    all_goals first | omega | exact st0 (by omega) | exact st2 (by omega) (by omega) | exact st3 (by omega) (by omega) | skip
set_option maxRecDepth 20000 in
theorem rn_X5_turnRound : mm_RN flX5 ct_X5_turnRound mm_x0 [] 1 0 4 kdX5_turnRound sp_X5_turnRound := by
  intro av M d Q h
  unfold sp_X5_turnRound at h
  split at h
  · rename_i o a
    obtain ⟨rfl, ha, h1, hq⟩ := h
    obtain ⟨K, hK, hK2⟩ : ∃ K : Nat → mm_K, (∀ t ls st M d u, K t ls st M d u → rr_X5_turnRound Q t ls st M d u) ∧ (∀ t ls st M d u, rr_X5_turnRound Q t ls st M d u → K t ls st M d u) := ⟨rr_X5_turnRound Q, fun _ _ _ _ _ _ h => h, fun _ _ _ _ _ _ h => h⟩
    have q1 : ∀ v, v = 1 → ¬ (0 ≤ a ∧ a ≤ 2) → Q (.inl (some (mm_I 0))) (mm_up M 17 0 v) d := fun v hv hn => hq _ _ (xP_s ha) (xq1 (fun h => by unfold iw at h; omega) hv)
    have k15 : ∀ v, v = 0 → (0 ≤ a ∧ a ≤ 2) → K 15 [some (mm_R 17), some (mm_I a), none, none] [] (mm_up M 17 0 v) d 0 := by
      intro v hv0 ca
      obtain ⟨M1, e0, ha1, hP1, e17, eo⟩ := xS (v := v) ha
      have e00 : M1 17 0 = 0 := by rw [← e0, hv0]; exact x00
      have eV : vX M1 = vX M := by rw [← e0, vX_u0]
      rw [e0]
      obtain ⟨k, rfl⟩ := Int.eq_ofNat_of_zero_le ca.1
      have hk : k < 3 := by omega
      have hv := ha1.v hk
      have hD := ha1.d hk
      have ht := ha1.t
      have hb := xA_b ha1
      have q9 : M1 17 4 ≠ 0 → Q (.inl (some (mm_I (-9)))) (mm_up M1 17 15 (M1 17 15 + 1)) d := fun h => hq _ (-9) (hP1.tr (xA_u (x := M1 17 15 + 1) ha1)) (Or.inr ⟨(wk_in ca).1, by rw [mm_up_ob2 (by omega)]; exact e00, by rw [← eV]; exact no9.n h cX_9⟩)
      have k32 : M1 17 4 = 0 → ∀ M2, fX M1 M2 ∧ M2 17 = M1 17 ∧ fr [8 + 2 * k, 8 + 2 * k + 1] (vX M1) (vX M2) ∧ revR (vX M1) (vX M2) (8 + 2 * k) ∧ mV M2 k → K 32 [some (mm_R 17), some (mm_I k), none, none] [] M2 d 0 := by
        intro h40 M2 ⟨g1, g2, g3, g4, g5⟩
        have ht2 := tX_to ht g3 (isKk (show k < 4 by omega))
        have hD2 := rev_wD hD g4
        have v1 := g5.1
        obtain ⟨n, hn⟩ := Int.eq_ofNat_of_zero_le v1.1
        have el : M2 21 k = M1 21 k := by
          have := g4.1
          rw [vX_n (by omega), vX_n (by omega)] at this
          exact this
        have k96 : ∀ M' x3, fX M2 M' → M' 17 = M2 17 → fr [8 + 2 * k, 8 + 2 * k + 1] (vX M2) (vX M') → mV M' k → M' 21 k = M2 21 k → (∀ j : Nat, j < n → M' 20 (30 * k + j) / 2 = M2 20 (30 * k + j) / 2) → tsI M2 M' k n n → rr_X5_turnRound Q 96 [some (mm_R 17), some (mm_I k), some (mm_I n), x3] [] M' d 0 := by
          intro M' x3 f1 f2 f3 f4 f5 f6 f8
          have hD3 : wD (vX M') (8 + 2 * k) := hD2.sa (by rw [vX_n (by omega), vX_n (by omega)]; exact f5) (fun j hj => by rw [vX_n (by omega)] at hj; rw [vX_i (by omega) (by omega), vX_i (by omega) (by omega)]; exact f6 j (by omega))
          have hP := (xP_q ha1 hk (g1.tr f1) (by rw [f2, g2]) (g3.tr f3) f4 hD3).1 (by omega)
          have f7 := f4.2.1
          have hts : tsR (vX M2) (vX M') (8 + 2 * k) := by
            refine ⟨by rw [vX_n (by omega), vX_n (by omega)]; exact f5, by rw [vX_b (by omega), vX_b (by omega), f8.1], fun i hi => ?_⟩
            rw [vX_n (by omega)] at hi
            rw [vX_i (by omega) (by omega), vX_i (by omega) (by omega)]
            exact (f8.2 i (by omega)).1 (by omega)
          have h00 : M' 17 0 = 0 := by rw [f2, g2]; exact e00
          have q0 : Q (.inl (some (mm_I (M' 22 k)))) (mm_up M' 17 14 (M' 17 14 + 1)) d := hq _ _ (xP_ac (hP1.tr hP)) (Or.inr ⟨(wk_in ca).1, by rw [mm_up_ob2 (by omega)]; exact h00, by
            rw [← eV]
            exact no9.y h40 ⟨vX M2, vX M', g4, g3, hts, f3, (vX_b (by omega)).symm, SE.eq (cX_n (by omega))⟩⟩)
          clear hts hq q1 q9 g4 f8
          refine mm_run_at (stop := []) (S := K) kkX5_turnRound 90 ?_ (fun _ _ _ _ _ _ _ h => hK _ _ _ _ _ _ h)
          repeat' (first | with_reducible assumption | with_reducible exact mm_i17 | with_reducible exact mm_i18 | with_reducible exact mm_i19 | with_reducible exact mm_i20 | with_reducible exact mm_i21 | with_reducible exact mm_i22 | ((with_reducible show mm_rv _ _ _ _ _); first | exact True.intro | exact mm_i17 | exact mm_i18 | exact mm_i19 | exact mm_i20 | exact mm_i21 | exact mm_i22) | ((with_reducible show mm_bool _ _); first | exact True.intro | exact Or.inl rfl | exact Or.inr rfl | (show (_ : Int) = 0 ∨ _ = 1)) | refine And.intro ?_ ?_ | intro _ | with_reducible exact True.intro | exact rfl | with_reducible exact Or.inl rfl | with_reducible exact Or.inr rfl | exact Nat.le_of_ble_eq_true rfl)
          all_goals (try simp (disch := omega) only [InI, Int.toNat_natCast, Int.tmod_eq_emod_of_nonneg, Int.tdiv_eq_ediv_of_nonneg, true_implies, true_or, or_true, mm_l18, mm_l19, mm_l20, mm_l21, mm_l22] at *)
          all_goals first | omega | exact q0 | skip
        have k34 := hK2 _ _ _ _ _ _ (lp_X5_turnRound (d := d) (Q := Q) hk hn (by omega) ht2 k96 n 0 M2 none (by omega) fX.rf rfl fr.rf g5 rfl (fun _ _ => rfl) ⟨rfl, fun j hj => ⟨fun h => by omega, fun _ => rfl⟩⟩)
        clear k96 hq q1 q9 g4
        refine hK2 _ _ _ _ _ _ ?_
        refine mm_run_at (stop := [34]) (S := K) kkX5_turnRound 90 ?_ (fun _ _ _ _ _ _ _ h => hK _ _ _ _ _ _ h)
        repeat' (first | with_reducible assumption | with_reducible exact mm_i17 | with_reducible exact mm_i18 | with_reducible exact mm_i19 | with_reducible exact mm_i20 | with_reducible exact mm_i21 | with_reducible exact mm_i22 | ((with_reducible show mm_rv _ _ _ _ _); first | exact True.intro | exact mm_i17 | exact mm_i18 | exact mm_i19 | exact mm_i20 | exact mm_i21 | exact mm_i22) | ((with_reducible show mm_bool _ _); first | exact True.intro | exact Or.inl rfl | exact Or.inr rfl | (show (_ : Int) = 0 ∨ _ = 1)) | refine And.intro ?_ ?_ | intro _ | with_reducible exact True.intro | exact rfl | with_reducible exact Or.inl rfl | with_reducible exact Or.inr rfl | exact Nat.le_of_ble_eq_true rfl)
        all_goals (try simp (disch := omega) only [InI, Int.toNat_natCast, Int.tmod_eq_emod_of_nonneg, Int.tdiv_eq_ediv_of_nonneg, true_implies, true_or, or_true, mm_l18, mm_l19, mm_l20, mm_l21, mm_l22] at *)
        all_goals first | omega | exact k34 | skip
      clear hq q1
      refine hK2 _ _ _ _ _ _ ?_
      refine mm_run_at (stop := [32]) (S := K) kkX5_turnRound 90 ?_ (fun _ _ _ _ _ _ _ h => hK _ _ _ _ _ _ h)
      repeat' (first | with_reducible assumption | with_reducible exact mm_i17 | with_reducible exact mm_i18 | with_reducible exact mm_i19 | with_reducible exact mm_i20 | with_reducible exact mm_i21 | with_reducible exact mm_i22 | ((with_reducible show mm_rv _ _ _ _ _); first | exact True.intro | exact mm_i17 | exact mm_i18 | exact mm_i19 | exact mm_i20 | exact mm_i21 | exact mm_i22 | ((with_reducible show mV _ _); exact hv)) | ((with_reducible show mV _ _); exact hv) | ((with_reducible show mm_bool _ _); first | exact True.intro | exact Or.inl rfl | exact Or.inr rfl | (show (_ : Int) = 0 ∨ _ = 1)) | refine And.intro ?_ ?_ | intro _ | with_reducible exact True.intro | exact rfl | with_reducible exact Or.inl rfl | with_reducible exact Or.inr rfl | exact Nat.le_of_ble_eq_true rfl)
      all_goals (try simp (disch := omega) only [InI, Int.toNat_natCast, Int.tmod_eq_emod_of_nonneg, Int.tdiv_eq_ediv_of_nonneg, true_implies, true_or, or_true, mm_l18, mm_l19, mm_l20, mm_l21, mm_l22] at *)
      all_goals first | omega | exact q9 (by omega) | exact k32 (by omega) _ (by assumption) | skip
    clear hq
    refine ⟨Nat.le_of_ble_eq_true rfl, ?_⟩
    refine mm_run_at (stop := [15]) (S := K) kkX5_turnRound 90 ?_ (fun _ _ _ _ _ _ _ h => hK _ _ _ _ _ _ h)
    repeat' (first | with_reducible assumption | with_reducible exact mm_i17 | with_reducible exact mm_i18 | with_reducible exact mm_i19 | with_reducible exact mm_i20 | with_reducible exact mm_i21 | with_reducible exact mm_i22 | ((with_reducible show mm_rv _ _ _ _ _); first | exact True.intro | exact mm_i17 | exact mm_i18 | exact mm_i19 | exact mm_i20 | exact mm_i21 | exact mm_i22) | ((with_reducible show mm_bool _ _); first | exact True.intro | exact Or.inl rfl | exact Or.inr rfl | (show (_ : Int) = 0 ∨ _ = 1)) | refine And.intro ?_ ?_ | intro _ | with_reducible exact True.intro | exact rfl | with_reducible exact Or.inl rfl | with_reducible exact Or.inr rfl | exact Nat.le_of_ble_eq_true rfl)
    all_goals (try simp (disch := omega) only [InI, Int.toNat_natCast, Int.tmod_eq_emod_of_nonneg, Int.tdiv_eq_ediv_of_nonneg, true_implies, true_or, or_true, mm_l18, mm_l19, mm_l20, mm_l21, mm_l22] at *)
    all_goals first | omega | exact q1 _ (by omega) (by omega) | exact k15 _ (by omega) (by omega) | skip
  · exact h.elim
theorem me_X5_turnRound {l : Launch} (hl : l.stackTraces = false) : mm_Met l yX5_turnRound cX5_turnRound 4 (some .int) [] 10 188 0 sp_X5_turnRound := mm_mt hl rn_X5_turnRound ⟨plX5, rfl⟩ kkX5_turnRound rfl ⟨Nat.le_of_ble_eq_true rfl, Nat.le_of_ble_eq_true rfl⟩ flkX5 (fun _ h => nomatch h) (⟨mm_pe (me_X5_isNoWalk hl) mwX5_isNoWalk (mm_t7 36 rfl rfl) (Nat.le_of_ble_eq_true rfl) (Nat.le_of_ble_eq_true rfl), mm_pe (me_X5_start hl) mwX5_start (mm_t6 110 rfl rfl) (Nat.le_of_ble_eq_true rfl) (Nat.le_of_ble_eq_true rfl), mm_pe (me_X5_cannot hl) mwX5_cannot (mm_t6 118 rfl rfl) (Nat.le_of_ble_eq_true rfl) (Nat.le_of_ble_eq_true rfl), mm_pe (me_X5_turned hl) mwX5_turned (mm_t6 177 rfl rfl) (Nat.le_of_ble_eq_true rfl) (Nat.le_of_ble_eq_true rfl), mm_pe (me_X5_stepOf hl) mwX5_stepOf (mm_t6 158 rfl rfl) (Nat.le_of_ble_eq_true rfl) (Nat.le_of_ble_eq_true rfl), mm_pe (me_X5_goesFrom hl) mwX5_goesFrom (mm_t7 56 rfl rfl) (Nat.le_of_ble_eq_true rfl) (Nat.le_of_ble_eq_true rfl), mm_pe (me_X5_comesTo hl) mwX5_comesTo (mm_t6 189 rfl rfl) (Nat.le_of_ble_eq_true rfl) (Nat.le_of_ble_eq_true rfl), mm_pe (me_X5_act hl) mwX5_act (mm_t6 130 rfl rfl) (Nat.le_of_ble_eq_true rfl) (Nat.le_of_ble_eq_true rfl), trivial⟩) (mm_xe0 _) n9X5
theorem rot_mod {V V' : mm_M} {w t n : Nat} (hn : V w 2 = n) (h0 : 0 < n) (hm : hmP V w) (h : rotR V V' w t) : rotR V V' w (t % n) := by
  obtain ⟨a1, a2, a3, a4⟩ := h
  have e1 : (V w 2).toNat = n := by omega
  rw [e1] at a2 a4
  refine ⟨a1, fun x hx => ?_, fun hz => ?_, fun hz hz2 => ?_⟩
  · rw [a2 x hx, e1, Nat.add_mod_mod]
  · rcases hz with hz | hz
    · by_cases e : t = 0
      · exact a3 (Or.inl e)
      · rw [a4 (by omega) (by omega)]
        unfold hmP cor at hm
        rw [if_pos ⟨by omega, Int.le_refl _⟩] at hm
        rw [← hm]
        congr 2
        have h1 := Nat.div_add_mod t n
        rw [hz, Nat.add_zero] at h1
        have h2 : 0 < t / n := Nat.pos_of_ne_zero (fun e2 => by rw [e2, Nat.mul_zero] at h1; omega)
        obtain ⟨q, hq⟩ : ∃ q, t / n = q + 1 := ⟨t / n - 1, by omega⟩
        rw [hq, Nat.mul_succ] at h1
        rw [show t - 1 = (n - 1) + n * q by omega, Nat.add_mul_mod_self_left, Nat.mod_eq_of_lt (by omega)]
        omega
    · exact a3 (Or.inr hz)
  · have e : 0 < t := Nat.pos_of_ne_zero (fun e => by rw [e, Nat.zero_mod] at hz; omega)
    rw [a4 e hz2, e1]
    congr 2
    have h1 := Nat.div_add_mod t n
    have h2 := Nat.mod_lt t h0
    rw [show t - 1 = (t % n - 1) + n * (t / n) by omega, Nat.add_mul_mod_self_left]
theorem at_X5_rotate_0 : mm_at 0 kdX5_rotate = [(0, .aload_n 0, 0), (1, .aload_n 0, 0), (2, .iload_n 1, 0), (3, .invokevirtual 178, 0), (6, .iconst 1, 0), (7, .invokevirtual 146, 0), (10, .ifCond .ne 26, 36), (13, .aload_n 0, 0), (14, .iload_n 2, 0), (15, .iconst 0, 0), (16, .bipush 30, 0), (18, .invokestatic 45, 0), (21, .ifCond .ne 7, 28), (24, .iconst 1, 0), (25, .goto 4, 29), (28, .iconst 0, 0), (29, .iconst 2, 0), (30, .invokevirtual 35, 0), (33, .ifCond .eq 5, 38), (36, .iconst 0, 0), (37, .ireturn, 0), (38, .aload_n 0, 0), (39, .iload_n 1, 0), (40, .invokevirtual 137, 0), (43, .ifCond .ne 8, 51), (46, .aload_n 0, 0), (47, .invokevirtual 149, 0), (50, .ireturn, 0), (51, .aload_n 0, 0), (52, .iload_n 1, 0), (53, .iload_n 2, 0), (54, .invokevirtual 200, 0), (57, .iload_n 2, 0), (58, .ifCond .le 17, 75), (61, .aload_n 0, 0), (62, .getfield 19, 0), (65, .iload_n 1, 0), (66, .iaload, 0), (67, .ifCond .le 8, 75), (70, .aload_n 0, 0), (71, .iload_n 1, 0), (72, .invokevirtual 181, 0), (75, .aload_n 0, 0), (76, .aload_n 0, 0), (77, .getfield 22, 0), (80, .iload_n 1, 0), (81, .iaload, 0), (82, .invokevirtual 156, 0), (85, .ireturn, 0)] := rfl
theorem at_X5_rotate_28 : mm_at 28 kdX5_rotate = [(28, .iconst 0, 0), (29, .iconst 2, 0), (30, .invokevirtual 35, 0), (33, .ifCond .eq 5, 38), (36, .iconst 0, 0), (37, .ireturn, 0), (38, .aload_n 0, 0), (39, .iload_n 1, 0), (40, .invokevirtual 137, 0), (43, .ifCond .ne 8, 51), (46, .aload_n 0, 0), (47, .invokevirtual 149, 0), (50, .ireturn, 0), (51, .aload_n 0, 0), (52, .iload_n 1, 0), (53, .iload_n 2, 0), (54, .invokevirtual 200, 0), (57, .iload_n 2, 0), (58, .ifCond .le 17, 75), (61, .aload_n 0, 0), (62, .getfield 19, 0), (65, .iload_n 1, 0), (66, .iaload, 0), (67, .ifCond .le 8, 75), (70, .aload_n 0, 0), (71, .iload_n 1, 0), (72, .invokevirtual 181, 0), (75, .aload_n 0, 0), (76, .aload_n 0, 0), (77, .getfield 22, 0), (80, .iload_n 1, 0), (81, .iaload, 0), (82, .invokevirtual 156, 0), (85, .ireturn, 0)] := rfl
theorem at_X5_rotate_29 : mm_at 29 kdX5_rotate = [(29, .iconst 2, 0), (30, .invokevirtual 35, 0), (33, .ifCond .eq 5, 38), (36, .iconst 0, 0), (37, .ireturn, 0), (38, .aload_n 0, 0), (39, .iload_n 1, 0), (40, .invokevirtual 137, 0), (43, .ifCond .ne 8, 51), (46, .aload_n 0, 0), (47, .invokevirtual 149, 0), (50, .ireturn, 0), (51, .aload_n 0, 0), (52, .iload_n 1, 0), (53, .iload_n 2, 0), (54, .invokevirtual 200, 0), (57, .iload_n 2, 0), (58, .ifCond .le 17, 75), (61, .aload_n 0, 0), (62, .getfield 19, 0), (65, .iload_n 1, 0), (66, .iaload, 0), (67, .ifCond .le 8, 75), (70, .aload_n 0, 0), (71, .iload_n 1, 0), (72, .invokevirtual 181, 0), (75, .aload_n 0, 0), (76, .aload_n 0, 0), (77, .getfield 22, 0), (80, .iload_n 1, 0), (81, .iaload, 0), (82, .invokevirtual 156, 0), (85, .ireturn, 0)] := rfl
theorem at_X5_rotate_36 : mm_at 36 kdX5_rotate = [(36, .iconst 0, 0), (37, .ireturn, 0), (38, .aload_n 0, 0), (39, .iload_n 1, 0), (40, .invokevirtual 137, 0), (43, .ifCond .ne 8, 51), (46, .aload_n 0, 0), (47, .invokevirtual 149, 0), (50, .ireturn, 0), (51, .aload_n 0, 0), (52, .iload_n 1, 0), (53, .iload_n 2, 0), (54, .invokevirtual 200, 0), (57, .iload_n 2, 0), (58, .ifCond .le 17, 75), (61, .aload_n 0, 0), (62, .getfield 19, 0), (65, .iload_n 1, 0), (66, .iaload, 0), (67, .ifCond .le 8, 75), (70, .aload_n 0, 0), (71, .iload_n 1, 0), (72, .invokevirtual 181, 0), (75, .aload_n 0, 0), (76, .aload_n 0, 0), (77, .getfield 22, 0), (80, .iload_n 1, 0), (81, .iaload, 0), (82, .invokevirtual 156, 0), (85, .ireturn, 0)] := rfl
theorem at_X5_rotate_38 : mm_at 38 kdX5_rotate = [(38, .aload_n 0, 0), (39, .iload_n 1, 0), (40, .invokevirtual 137, 0), (43, .ifCond .ne 8, 51), (46, .aload_n 0, 0), (47, .invokevirtual 149, 0), (50, .ireturn, 0), (51, .aload_n 0, 0), (52, .iload_n 1, 0), (53, .iload_n 2, 0), (54, .invokevirtual 200, 0), (57, .iload_n 2, 0), (58, .ifCond .le 17, 75), (61, .aload_n 0, 0), (62, .getfield 19, 0), (65, .iload_n 1, 0), (66, .iaload, 0), (67, .ifCond .le 8, 75), (70, .aload_n 0, 0), (71, .iload_n 1, 0), (72, .invokevirtual 181, 0), (75, .aload_n 0, 0), (76, .aload_n 0, 0), (77, .getfield 22, 0), (80, .iload_n 1, 0), (81, .iaload, 0), (82, .invokevirtual 156, 0), (85, .ireturn, 0)] := rfl
theorem at_X5_rotate_51 : mm_at 51 kdX5_rotate = [(51, .aload_n 0, 0), (52, .iload_n 1, 0), (53, .iload_n 2, 0), (54, .invokevirtual 200, 0), (57, .iload_n 2, 0), (58, .ifCond .le 17, 75), (61, .aload_n 0, 0), (62, .getfield 19, 0), (65, .iload_n 1, 0), (66, .iaload, 0), (67, .ifCond .le 8, 75), (70, .aload_n 0, 0), (71, .iload_n 1, 0), (72, .invokevirtual 181, 0), (75, .aload_n 0, 0), (76, .aload_n 0, 0), (77, .getfield 22, 0), (80, .iload_n 1, 0), (81, .iaload, 0), (82, .invokevirtual 156, 0), (85, .ireturn, 0)] := rfl
theorem at_X5_rotate_75 : mm_at 75 kdX5_rotate = [(75, .aload_n 0, 0), (76, .aload_n 0, 0), (77, .getfield 22, 0), (80, .iload_n 1, 0), (81, .iaload, 0), (82, .invokevirtual 156, 0), (85, .ireturn, 0)] := rfl
def sp_X5_rotate : mm_S := fun av M d Q => match av with
  | [.inr (.inr (.inl o)), .inl a, .inl b] =>  o = 17 ∧ xA M ∧ InI a ∧ InI b ∧ ∀ M' r, xP M M' → C_rotate a b (vX M) (vX M') (M' 17 0) r → Q (.inl (some (mm_I r))) M' d
  | _ => False
def ct_X5_rotate : List (Nat × mm_Ca) := [(178, (0, 2, 14, sp_X5_isNoWalk, 0)), (146, (0, 3, 14, sp_X5_start, 0)), (45, (1, 3, 0, sp_X5_isIn, 0)), (35, (0, 3, 14, sp_X5_refuse, 0)), (137, (0, 2, 14, sp_X5_isHome, 0)), (149, (0, 1, 14, sp_X5_cannot, 0)), (200, (0, 3, 14, sp_X5_rotated, 0)), (181, (0, 2, 14, sp_X5_lose, 0)), (156, (0, 2, 14, sp_X5_act, 0))]
abbrev rr_X5_rotate (Q : mm_Q) := mm_run (mm_look flX5) (mm_look ct_X5_rotate) mm_x0 (mm_look ([] : List (Nat × Int))) (fun _ => none) 1 0 (fun _ _ => none) Q kdX5_rotate
set_option maxRecDepth 20000 in
theorem rn_X5_rotate : mm_RN flX5 ct_X5_rotate mm_x0 [] 1 0 3 kdX5_rotate sp_X5_rotate := by
  intro av M d Q h
  unfold sp_X5_rotate at h
  split at h
  · rename_i o a b
    obtain ⟨rfl, ha, h1, h2, hq⟩ := h
    obtain ⟨K, hK, hK2⟩ : ∃ K : Nat → mm_K, (∀ t ls st M d u, K t ls st M d u → rr_X5_rotate Q t ls st M d u) ∧ (∀ t ls st M d u, rr_X5_rotate Q t ls st M d u → K t ls st M d u) := ⟨rr_X5_rotate Q, fun _ _ _ _ _ _ h => h, fun _ _ _ _ _ _ h => h⟩
    have q1 : ∀ v, v = 1 → ¬ (0 ≤ a ∧ a ≤ 2) → Q (.inl (some (mm_I 0))) (mm_up M 17 0 v) d := fun v hv hn => hq _ _ (xP_s ha) (Or.inl ⟨fun h => by unfold iw at h; omega, by simp [mm_up, hv], xse⟩)
    have q2 : (0 ≤ a ∧ a ≤ 2) → ¬ (0 ≤ b ∧ b ≤ 30) → Q (.inl (some (mm_I 0))) (mm_up (mm_up M 17 0 0) 17 0 2) d := fun hc hn => hq _ _ ((xP_s ha).tr (xP_s ha.s)) (Or.inr (Or.inl ⟨(wk_in hc).1, hn, by simp [mm_up], SE.eq (by rw [vX_u0, vX_u0])⟩))
    have k38 : (0 ≤ a ∧ a ≤ 2) → (0 ≤ b ∧ b ≤ 30) → K 38 [some (mm_R 17), some (mm_I a), some (mm_I b)] [] (mm_up M 17 0 0) d 0 := by
      intro ca cb
      obtain ⟨M1, e0, ha1, hP1, e17, eo⟩ := xS (v := 0) ha
      have e00 : M1 17 0 = 0 := by rw [← e0]; exact x00
      have eV : vX M1 = vX M := by rw [← e0, vX_u0]
      rw [e0]
      obtain ⟨k, rfl⟩ := Int.eq_ofNat_of_zero_le ca.1
      have hk : k < 3 := by omega
      have hv := ha1.v hk
      have hD := ha1.d hk
      have ht := ha1.t
      have hl := ha1.l
      have h10 := ha1.2
      have v1 := hv.1
      have en := vX_n (M := M1) (show k < 4 by omega)
      obtain ⟨PS, ePS⟩ : ∃ PS : Prop, PS ↔ hmP (vX M1) (8 + 2 * k) := ⟨_, Iff.rfl⟩
      have q9 : ¬ PS → Q (.inl (some (mm_I (-9)))) (mm_up M1 17 15 (M1 17 15 + 1)) d := fun h => hq _ (-9) (hP1.tr (xA_u (x := M1 17 15 + 1) ha1)) (Or.inr (Or.inr ⟨(wk_in ca).1, cb, by rw [mm_up_ob2 (by omega)]; exact e00, by rw [← eV]; exact no9.n (fun h2 => h (ePS.mpr h2)) cX_9⟩))
      have k57 : PS → ∀ M2, fX M1 M2 ∧ M2 17 = M1 17 ∧ fr [8 + 2 * k, 8 + 2 * k + 1] (vX M1) (vX M2) ∧ rotR (vX M1) (vX M2) (8 + 2 * k) (if M1 21 k = 0 then 0 else b.toNat) ∧ mV M2 k → K 57 [some (mm_R 17), some (mm_I k), some (mm_I b)] [] M2 d 0 := by
        intro hPS M2 ⟨g1, g2, g3, g4, g5⟩
        have hP := xP_q ha1 hk g1 g2 g3 g5 (rot_wD hD g4)
        have el : M2 21 k = M1 21 k := by
          have := g4.1
          rw [vX_n (by omega), vX_n (by omega)] at this
          exact this
        have h10' : M2 17 10 = M1 17 10 := by rw [g2]
        have h13' : M2 17 13 = M1 17 13 := by rw [g2]
        have h00 : M2 17 0 = 0 := by rw [g2]; exact e00
        have gr : rotR (vX M1) (vX M2) (8 + 2 * k) (if vX M1 (8 + 2 * k) 2 = 0 then 0 else (b % vX M1 (8 + 2 * k) 2).toNat) := by
          rw [en]
          by_cases e : M1 21 k = 0
          · rw [if_pos e] at g4 ⊢
            exact g4
          · rw [if_neg e] at g4 ⊢
            obtain ⟨n, hn⟩ := Int.eq_ofNat_of_zero_le v1.1
            rw [Int.toNat_emod cb.1 v1.1]
            have := rot_mod (n := n) (by rw [en]; exact hn) (by omega) (ePS.mp hPS) g4
            rw [show (M1 21 k).toNat = n by omega]
            exact this
        have v2 := g5.2.1
        have key : ∀ V', V' = cnF (losI (0 < b ∧ 0 < vX M1 (8 + 2 * k) 2) (vX M2) (8 + 2 * k)) (M2 22 k) → no9 (hmP (vX M) (wk (k : Int))) (vX M) V' (M2 22 k) (∃ V1, rotR (vX M) V1 (wk (k : Int)) (if vX M (wk (k : Int)) 2 = 0 then 0 else (b % vX M (wk (k : Int)) 2).toNat) ∧ fr [wk (k : Int), wk (k : Int) + 1] (vX M) V1 ∧ M2 22 k = V1 (wk (k : Int)) 3 ∧ SE (cnF (losI (0 < b ∧ 0 < vX M (wk (k : Int)) 2) V1 (wk (k : Int))) (M2 22 k)) V') := fun V' e => by
          rw [← eV]
          exact no9.y (ePS.mp hPS) ⟨vX M2, gr, g3, (vX_b (by omega)).symm, SE.eq e⟩
        have q0 : ¬ (0 < b ∧ 0 < M1 21 k) → Q (.inl (some (mm_I (M2 22 k)))) (mm_up M2 17 14 (M2 17 14 + 1)) d := fun h => hq _ _ (xP_ac (hP1.tr (hP.1 (by omega)))) (Or.inr (Or.inr ⟨(wk_in ca).1, cb, by rw [mm_up_ob2 (by omega)]; exact h00, key _ (cX_nl (by rw [en]; exact h) (by omega))⟩))
        have q3 : (0 < b ∧ 0 < M1 21 k) → ∀ M3, M3 = mm_up M2 17 13 (if M2 17 10 = k then 1 else M2 17 13) → Q (.inl (some (mm_I (M3 22 k)))) (mm_up M3 17 14 (M3 17 14 + 1)) d := fun h M3 e3 => by
          have e22 : M3 22 k = M2 22 k := by rw [e3, mm_up_ob (by omega)]
          rw [e22]
          exact hq _ _ (by rw [e3]; exact xP_ac (hP1.tr hP.2)) (Or.inr (Or.inr ⟨(wk_in ca).1, cb, by rw [mm_up_ob2 (by omega), e3, mm_up_ob2 (by omega)]; exact h00, key _ (cX_l (by rw [h10']; exact h10) (by rw [en]; exact h) (by omega) e3)⟩))
        have v12 := g5.1
        clear hP g4 gr key hq q1 q2 q9 ePS
        refine hK2 _ _ _ _ _ _ ?_
        refine mm_run_at (stop := []) (S := K) kkX5_rotate 90 ?_ (fun _ _ _ _ _ _ _ h => hK _ _ _ _ _ _ h)
        repeat' (first | with_reducible assumption | with_reducible exact mm_i17 | with_reducible exact mm_i18 | with_reducible exact mm_i19 | with_reducible exact mm_i20 | with_reducible exact mm_i21 | with_reducible exact mm_i22 | ((with_reducible show mm_rv _ _ _ _ _); first | exact True.intro | exact mm_i17 | exact mm_i18 | exact mm_i19 | exact mm_i20 | exact mm_i21 | exact mm_i22) | ((with_reducible show mm_bool _ _); first | exact True.intro | exact Or.inl rfl | exact Or.inr rfl | (show (_ : Int) = 0 ∨ _ = 1)) | refine And.intro ?_ ?_ | intro _ | with_reducible exact True.intro | exact rfl | with_reducible exact Or.inl rfl | with_reducible exact Or.inr rfl | exact Nat.le_of_ble_eq_true rfl)
        all_goals (try simp (disch := omega) only [InI, Int.toNat_natCast, Int.tmod_eq_emod_of_nonneg, Int.tdiv_eq_ediv_of_nonneg, true_implies, true_or, or_true, mm_l18, mm_l19, mm_l20, mm_l21, mm_l22] at *)
        all_goals first | omega | exact q0 (by omega) | exact q3 ⟨by omega, by omega⟩ _ rfl | skip
      have k43 : ∀ r, (r = 0 ∨ r = 1) ∧ (r = 1 ↔ hmP (vX M1) (8 + 2 * k)) → K 43 [some (mm_R 17), some (mm_I k), some (mm_I b)] [mm_I r] M1 d 0 := by
        intro r ⟨hr, hr2⟩
        rw [← ePS] at hr2
        have q99 : r = 0 → Q (.inl (some (mm_I (-9)))) (mm_up M1 17 15 (M1 17 15 + 1)) d := fun h => q9 (fun h2 => by have := hr2.mpr h2; omega)
        have k577 : r = 1 → _ := fun h => k57 (hr2.mp h)
        clear hr2 k57 q9 hq q1 q2 ePS
        refine hK2 _ _ _ _ _ _ ?_
        refine mm_run_at (stop := [57]) (S := K) kkX5_rotate 90 ?_ (fun _ _ _ _ _ _ _ h => hK _ _ _ _ _ _ h)
        repeat' (first | with_reducible assumption | with_reducible exact mm_i17 | with_reducible exact mm_i18 | with_reducible exact mm_i19 | with_reducible exact mm_i20 | with_reducible exact mm_i21 | with_reducible exact mm_i22 | ((with_reducible show mm_rv _ _ _ _ _); first | exact True.intro | exact mm_i17 | exact mm_i18 | exact mm_i19 | exact mm_i20 | exact mm_i21 | exact mm_i22 | ((with_reducible show mV _ _); exact hv)) | ((with_reducible show mV _ _); exact hv) | ((with_reducible show mm_bool _ _); first | exact True.intro | exact Or.inl rfl | exact Or.inr rfl | (show (_ : Int) = 0 ∨ _ = 1)) | refine And.intro ?_ ?_ | intro _ | with_reducible exact True.intro | exact rfl | with_reducible exact Or.inl rfl | with_reducible exact Or.inr rfl | exact Nat.le_of_ble_eq_true rfl)
        all_goals (try simp (disch := omega) only [InI, Int.toNat_natCast, Int.tmod_eq_emod_of_nonneg, Int.tdiv_eq_ediv_of_nonneg, true_implies, true_or, or_true, mm_l18, mm_l19, mm_l20, mm_l21, mm_l22] at *)
        all_goals first | omega | exact q99 (by omega) | exact k577 (by omega) _ (by assumption) | skip
      refine hK2 _ _ _ _ _ _ ?_
      refine mm_run_at (stop := [43]) (S := K) kkX5_rotate 90 ?_ (fun _ _ _ _ _ _ _ h => hK _ _ _ _ _ _ h)
      exact mm_c5 rfl (Nat.le_of_ble_eq_true rfl) (by exact mm_i17) (Nat.le_of_ble_eq_true rfl) (Nat.le_of_ble_eq_true rfl) (mm_a5 rfl ht ⟨by omega, by omega⟩ (by rw [Int.toNat_natCast]; exact hv) (fun r hr => k43 r hr))
    clear hq
    have k33 : ∀ (v : Int) M' r, (v = 0 ∨ v = 1) → (v = 0 → 0 ≤ a ∧ a ≤ 2) → v = 0 → ∀ f : Int, (f = 0 ∨ f = 1) → (f = 0 → (0 ≤ b ∧ b ≤ 30)) → (f = 1 → ¬ (0 ≤ b ∧ b ≤ 30)) → (M' = if f = 1 ∧ mm_up M 17 0 v 17 0 = 0 then mm_up (mm_up M 17 0 v) 17 0 2 else mm_up M 17 0 v) ∧ (0 < M' 17 0 → r = 1) ∧ (M' 17 0 ≤ 0 → r = 0) → K 33 [some (mm_R 17), some (mm_I a), some (mm_I b)] [mm_I r] M' d 0 := by
      intro v M' r hv hc hv0 f hf hf0 hf1 ⟨g1, g2, g3⟩
      subst hv0
      have hcc := hc rfl
      by_cases e : f = 1
      · rw [if_pos ⟨e, x00⟩] at g1
        have q22 := q2 hcc (hf1 e)
        have hr : r = 1 := g2 (by rw [g1]; simp [mm_up])
        subst g1
        subst hr
        clear q2 k38
        refine hK2 _ _ _ _ _ _ ?_
        refine mm_run_at (stop := [38]) (S := K) kkX5_rotate 90 ?_ (fun _ _ _ _ _ _ _ h => hK _ _ _ _ _ _ h)
        repeat' (first | with_reducible assumption | with_reducible exact mm_i17 | with_reducible exact mm_i18 | with_reducible exact mm_i19 | with_reducible exact mm_i20 | with_reducible exact mm_i21 | with_reducible exact mm_i22 | ((with_reducible show mm_rv _ _ _ _ _); first | exact True.intro | exact mm_i17 | exact mm_i18 | exact mm_i19 | exact mm_i20 | exact mm_i21 | exact mm_i22) | ((with_reducible show mm_bool _ _); first | exact True.intro | exact Or.inl rfl | exact Or.inr rfl | (show (_ : Int) = 0 ∨ _ = 1)) | refine And.intro ?_ ?_ | intro _ | with_reducible exact True.intro | exact rfl | with_reducible exact Or.inl rfl | with_reducible exact Or.inr rfl | exact Nat.le_of_ble_eq_true rfl)
        all_goals (try simp (disch := omega) only [InI, Int.toNat_natCast, Int.tmod_eq_emod_of_nonneg, Int.tdiv_eq_ediv_of_nonneg, true_implies, true_or, or_true, mm_l18, mm_l19, mm_l20, mm_l21, mm_l22] at *)
        all_goals first | omega | exact q22 | skip
      · rw [if_neg (fun h => e h.1)] at g1
        have k388 := k38 hcc (hf0 (by omega))
        have hr : r = 0 := g3 (by rw [g1, x00]; exact Int.le_refl _)
        subst g1
        subst hr
        clear q2 k38
        refine hK2 _ _ _ _ _ _ ?_
        refine mm_run_at (stop := [38]) (S := K) kkX5_rotate 90 ?_ (fun _ _ _ _ _ _ _ h => hK _ _ _ _ _ _ h)
        repeat' (first | with_reducible assumption | with_reducible exact mm_i17 | with_reducible exact mm_i18 | with_reducible exact mm_i19 | with_reducible exact mm_i20 | with_reducible exact mm_i21 | with_reducible exact mm_i22 | ((with_reducible show mm_rv _ _ _ _ _); first | exact True.intro | exact mm_i17 | exact mm_i18 | exact mm_i19 | exact mm_i20 | exact mm_i21 | exact mm_i22) | ((with_reducible show mm_bool _ _); first | exact True.intro | exact Or.inl rfl | exact Or.inr rfl | (show (_ : Int) = 0 ∨ _ = 1)) | refine And.intro ?_ ?_ | intro _ | with_reducible exact True.intro | exact rfl | with_reducible exact Or.inl rfl | with_reducible exact Or.inr rfl | exact Nat.le_of_ble_eq_true rfl)
        all_goals (try simp (disch := omega) only [InI, Int.toNat_natCast, Int.tmod_eq_emod_of_nonneg, Int.tdiv_eq_ediv_of_nonneg, true_implies, true_or, or_true, mm_l18, mm_l19, mm_l20, mm_l21, mm_l22] at *)
        all_goals first | omega | exact k388 | skip
    have k29 : ∀ v : Int, (v = 0 ∨ v = 1) → (v = 0 → 0 ≤ a ∧ a ≤ 2) → v = 0 → ∀ f : Int, (f = 0 ∨ f = 1) → (f = 0 → (0 ≤ b ∧ b ≤ 30)) → (f = 1 → ¬ (0 ≤ b ∧ b ≤ 30)) → K 29 [some (mm_R 17), some (mm_I a), some (mm_I b)] [mm_I f, mm_R 17] (mm_up M 17 0 v) d 0 := by
      intro v hv hc hv0 f hf hf0 hf1
      have e0 : mm_up M 17 0 v 17 0 = v := by simp [mm_up]
      refine hK2 _ _ _ _ _ _ ?_
      refine mm_run_at (stop := [33]) (S := K) kkX5_rotate 90 ?_ (fun _ _ _ _ _ _ _ h => hK _ _ _ _ _ _ h)
      exact mm_c5 rfl (Nat.le_of_ble_eq_true rfl) (by exact mm_i17) (Nat.le_of_ble_eq_true rfl) (Nat.le_of_ble_eq_true rfl) (mm_a5 rfl hf (by rw [e0]; exact ⟨by omega, by omega⟩) ⟨by omega, by omega⟩ (fun M' r hr => k33 v M' r hv hc hv0 f hf hf0 hf1 hr))
    clear k33 k38 q2
    refine ⟨Nat.le_of_ble_eq_true rfl, ?_⟩
    refine mm_run_at (stop := [29]) (S := K) kkX5_rotate 90 ?_ (fun _ _ _ _ _ _ _ h => hK _ _ _ _ _ _ h)
    repeat' (first | with_reducible assumption | with_reducible exact mm_i17 | with_reducible exact mm_i18 | with_reducible exact mm_i19 | with_reducible exact mm_i20 | with_reducible exact mm_i21 | with_reducible exact mm_i22 | ((with_reducible show mm_rv _ _ _ _ _); first | exact True.intro | exact mm_i17 | exact mm_i18 | exact mm_i19 | exact mm_i20 | exact mm_i21 | exact mm_i22) | ((with_reducible show mm_bool _ _); first | exact True.intro | exact Or.inl rfl | exact Or.inr rfl | (show (_ : Int) = 0 ∨ _ = 1)) | refine And.intro ?_ ?_ | intro _ | with_reducible exact True.intro | exact rfl | with_reducible exact Or.inl rfl | with_reducible exact Or.inr rfl | exact Nat.le_of_ble_eq_true rfl)
    all_goals (try simp (disch := omega) only [InI, Int.toNat_natCast, Int.tmod_eq_emod_of_nonneg, Int.tdiv_eq_ediv_of_nonneg, true_implies, true_or, or_true, mm_l18, mm_l19, mm_l20, mm_l21, mm_l22] at *)
    all_goals first | omega | exact q1 _ (by omega) (by omega) | exact k29 _ (by omega) (by omega) (by omega) _ (by omega) (by omega) (by omega) | skip
  · exact h.elim
theorem me_X5_rotate {l : Launch} (hl : l.stackTraces = false) : mm_Met l yX5_rotate cX5_rotate 3 (some .int) [] 10 186 0 sp_X5_rotate := mm_mt hl rn_X5_rotate ⟨plX5, rfl⟩ kkX5_rotate rfl ⟨Nat.le_of_ble_eq_true rfl, Nat.le_of_ble_eq_true rfl⟩ flkX5 (fun _ h => nomatch h) (⟨mm_pe (me_X5_isNoWalk hl) mwX5_isNoWalk (mm_t7 36 rfl rfl) (Nat.le_of_ble_eq_true rfl) (Nat.le_of_ble_eq_true rfl), mm_pe (me_X5_start hl) mwX5_start (mm_t6 110 rfl rfl) (Nat.le_of_ble_eq_true rfl) (Nat.le_of_ble_eq_true rfl), mm_pe (me_X5_isIn hl) mwX5_isIn (mm_t6 107 rfl rfl) (Nat.le_of_ble_eq_true rfl) (Nat.le_of_ble_eq_true rfl), mm_pe (me_X5_refuse hl) mwX5_refuse (mm_t6 114 rfl rfl) (Nat.le_of_ble_eq_true rfl) (Nat.le_of_ble_eq_true rfl), mm_pe (me_X5_isHome hl) mwX5_isHome (mm_t7 92 rfl rfl) (Nat.le_of_ble_eq_true rfl) (Nat.le_of_ble_eq_true rfl), mm_pe (me_X5_cannot hl) mwX5_cannot (mm_t6 118 rfl rfl) (Nat.le_of_ble_eq_true rfl) (Nat.le_of_ble_eq_true rfl), mm_pe (me_X5_rotated hl) mwX5_rotated (mm_t7 104 rfl rfl) (Nat.le_of_ble_eq_true rfl) (Nat.le_of_ble_eq_true rfl), mm_pe (me_X5_lose hl) mwX5_lose (mm_t7 40 rfl rfl) (Nat.le_of_ble_eq_true rfl) (Nat.le_of_ble_eq_true rfl), mm_pe (me_X5_act hl) mwX5_act (mm_t6 130 rfl rfl) (Nat.le_of_ble_eq_true rfl) (Nat.le_of_ble_eq_true rfl), trivial⟩) (mm_xe0 _) n9X5
/-- the town's streets are others: within bounds -/
theorem xP_st {M M' : mm_M} (ha : xA M) (hx : fX M M') (hf : fr [3, 4] (vX M) (vX M')) (h17 : M' 17 = M 17) (hb : ∀ i : Nat, i < 30 → (0 ≤ M' 18 i ∧ M' 18 i < 10) ∧ (0 ≤ M' 19 i ∧ M' 19 i < 10)) : xP M M' := by
  have ht := ha.t
  refine xP_t ha hx ?_ (hf.mono (by simp)) (by rw [h17]; exact Int.le_refl _) (by rw [h17])
  unfold tX at *
  rw [h17]
  exact ⟨ht.1, hb, ht.2.2⟩
theorem at_X5_turnTown_0 : mm_at 0 kdX5_turnTown = [(0, .aload_n 0, 0), (1, .iconst 0, 0), (2, .putfield 32, 0), (5, .iconst 0, 0), (6, .istore_n 1, 0), (7, .iload_n 1, 0), (8, .iconst 3, 0), (9, .if_icmp .ge 14, 23), (12, .aload_n 0, 0), (13, .iload_n 1, 0), (14, .invokevirtual 168, 0), (17, .iinc 1 1, 0), (20, .goto (-13), 7), (23, .iconst 0, 0), (24, .istore_n 1, 0), (25, .iload_n 1, 0), (26, .aload_n 0, 0), (27, .getfield 49, 0), (30, .if_icmp .ge 35, 65), (33, .aload_n 0, 0), (34, .getfield 9, 0), (37, .iload_n 1, 0), (38, .iaload, 0), (39, .istore_n 2, 0), (40, .aload_n 0, 0), (41, .getfield 9, 0), (44, .iload_n 1, 0), (45, .aload_n 0, 0), (46, .getfield 13, 0), (49, .iload_n 1, 0), (50, .iaload, 0), (51, .iastore, 0), (52, .aload_n 0, 0), (53, .getfield 13, 0), (56, .iload_n 1, 0), (57, .iload_n 2, 0), (58, .iastore, 0), (59, .iinc 1 1, 0), (62, .goto (-37), 25), (65, .aload_n 0, 0), (66, .invokevirtual 95, 0), (69, .aload_n 0, 0), (70, .aload_n 0, 0), (71, .getfield 49, 0), (74, .invokevirtual 156, 0), (77, .ireturn, 0)] := rfl
theorem at_X5_turnTown_7 : mm_at 7 kdX5_turnTown = [(7, .iload_n 1, 0), (8, .iconst 3, 0), (9, .if_icmp .ge 14, 23), (12, .aload_n 0, 0), (13, .iload_n 1, 0), (14, .invokevirtual 168, 0), (17, .iinc 1 1, 0), (20, .goto (-13), 7), (23, .iconst 0, 0), (24, .istore_n 1, 0), (25, .iload_n 1, 0), (26, .aload_n 0, 0), (27, .getfield 49, 0), (30, .if_icmp .ge 35, 65), (33, .aload_n 0, 0), (34, .getfield 9, 0), (37, .iload_n 1, 0), (38, .iaload, 0), (39, .istore_n 2, 0), (40, .aload_n 0, 0), (41, .getfield 9, 0), (44, .iload_n 1, 0), (45, .aload_n 0, 0), (46, .getfield 13, 0), (49, .iload_n 1, 0), (50, .iaload, 0), (51, .iastore, 0), (52, .aload_n 0, 0), (53, .getfield 13, 0), (56, .iload_n 1, 0), (57, .iload_n 2, 0), (58, .iastore, 0), (59, .iinc 1 1, 0), (62, .goto (-37), 25), (65, .aload_n 0, 0), (66, .invokevirtual 95, 0), (69, .aload_n 0, 0), (70, .aload_n 0, 0), (71, .getfield 49, 0), (74, .invokevirtual 156, 0), (77, .ireturn, 0)] := rfl
theorem at_X5_turnTown_23 : mm_at 23 kdX5_turnTown = [(23, .iconst 0, 0), (24, .istore_n 1, 0), (25, .iload_n 1, 0), (26, .aload_n 0, 0), (27, .getfield 49, 0), (30, .if_icmp .ge 35, 65), (33, .aload_n 0, 0), (34, .getfield 9, 0), (37, .iload_n 1, 0), (38, .iaload, 0), (39, .istore_n 2, 0), (40, .aload_n 0, 0), (41, .getfield 9, 0), (44, .iload_n 1, 0), (45, .aload_n 0, 0), (46, .getfield 13, 0), (49, .iload_n 1, 0), (50, .iaload, 0), (51, .iastore, 0), (52, .aload_n 0, 0), (53, .getfield 13, 0), (56, .iload_n 1, 0), (57, .iload_n 2, 0), (58, .iastore, 0), (59, .iinc 1 1, 0), (62, .goto (-37), 25), (65, .aload_n 0, 0), (66, .invokevirtual 95, 0), (69, .aload_n 0, 0), (70, .aload_n 0, 0), (71, .getfield 49, 0), (74, .invokevirtual 156, 0), (77, .ireturn, 0)] := rfl
theorem at_X5_turnTown_25 : mm_at 25 kdX5_turnTown = [(25, .iload_n 1, 0), (26, .aload_n 0, 0), (27, .getfield 49, 0), (30, .if_icmp .ge 35, 65), (33, .aload_n 0, 0), (34, .getfield 9, 0), (37, .iload_n 1, 0), (38, .iaload, 0), (39, .istore_n 2, 0), (40, .aload_n 0, 0), (41, .getfield 9, 0), (44, .iload_n 1, 0), (45, .aload_n 0, 0), (46, .getfield 13, 0), (49, .iload_n 1, 0), (50, .iaload, 0), (51, .iastore, 0), (52, .aload_n 0, 0), (53, .getfield 13, 0), (56, .iload_n 1, 0), (57, .iload_n 2, 0), (58, .iastore, 0), (59, .iinc 1 1, 0), (62, .goto (-37), 25), (65, .aload_n 0, 0), (66, .invokevirtual 95, 0), (69, .aload_n 0, 0), (70, .aload_n 0, 0), (71, .getfield 49, 0), (74, .invokevirtual 156, 0), (77, .ireturn, 0)] := rfl
theorem at_X5_turnTown_65 : mm_at 65 kdX5_turnTown = [(65, .aload_n 0, 0), (66, .invokevirtual 95, 0), (69, .aload_n 0, 0), (70, .aload_n 0, 0), (71, .getfield 49, 0), (74, .invokevirtual 156, 0), (77, .ireturn, 0)] := rfl
def sp_X5_turnTown : mm_S := fun av M d Q => match av with
  | [.inr (.inr (.inl o))] =>  o = 17 ∧ xA M ∧ ∀ M' r, xP M M' → C_turnTown (vX M) (vX M') (M' 17 0) r → Q (.inl (some (mm_I r))) M' d
  | _ => False
def ct_X5_turnTown : List (Nat × mm_Ca) := [(168, (0, 2, 14, sp_X5_turned, 0)), (95, (0, 1, 14, sp_X5_endWords, 0)), (156, (0, 2, 14, sp_X5_act, 0))]
abbrev rr_X5_turnTown (Q : mm_Q) := mm_run (mm_look flX5) (mm_look ct_X5_turnTown) mm_x0 (mm_look ([] : List (Nat × Int))) (fun _ => none) 1 0 (fun _ _ => none) Q kdX5_turnTown
def swI (M0 M : mm_M) (i : Nat) : Prop := (∀ x : Nat, x < i → M 18 x = M0 19 x ∧ M 19 x = M0 18 x) ∧ (∀ x : Nat, i ≤ x → M 18 x = M0 18 x ∧ M 19 x = M0 19 x)
set_option maxRecDepth 20000 in
theorem lp2_X5_turnTown {M0 : mm_M} {d : List Nat} {Q : mm_Q} {n : Nat} (hn : M0 17 1 = n) (h30 : n ≤ 30) (hq : ∀ M' x2, fX M0 M' → fr [3, 4] (vX M0) (vX M') → M' 17 = M0 17 → (∀ i : Nat, i < 30 → (0 ≤ M' 18 i ∧ M' 18 i < 10) ∧ (0 ≤ M' 19 i ∧ M' 19 i < 10)) → swI M0 M' n → rr_X5_turnTown Q 65 [some (mm_R 17), some (mm_I n), x2] [] M' d 0) : ∀ (j i : Nat) (M : mm_M) (x2 : Option mm_V), i + j = n → fX M0 M → fr [3, 4] (vX M0) (vX M) → M 17 = M0 17 → (∀ i : Nat, i < 30 → (0 ≤ M 18 i ∧ M 18 i < 10) ∧ (0 ≤ M 19 i ∧ M 19 i < 10)) → swI M0 M i → rr_X5_turnTown Q 25 [some (mm_R 17), some (mm_I i), x2] [] M d 0 := by
  intro j
  induction j with
  | zero =>
    intro i M x2 hi hx hf h17 hb hS
    have e : i = n := by omega
    subst e
    have e1 : M 17 1 = i := by rw [h17]; exact hn
    obtain ⟨K, hK, hK2⟩ : ∃ K : Nat → mm_K, (∀ t ls st M d u, K t ls st M d u → rr_X5_turnTown Q t ls st M d u) ∧ (∀ t ls st M d u, rr_X5_turnTown Q t ls st M d u → K t ls st M d u) := ⟨rr_X5_turnTown Q, fun _ _ _ _ _ _ h => h, fun _ _ _ _ _ _ h => h⟩
    have h9 := hK2 _ _ _ _ _ _ (hq M x2 hx hf h17 hb hS)
    clear hS hq
    refine mm_run_at (stop := [33, 65]) (S := K) kkX5_turnTown 90 ?_ (fun _ _ _ _ _ _ _ h => hK _ _ _ _ _ _ h)
    repeat' (first | with_reducible assumption | with_reducible exact mm_i17 | with_reducible exact mm_i18 | with_reducible exact mm_i19 | with_reducible exact mm_i20 | with_reducible exact mm_i21 | with_reducible exact mm_i22 | ((with_reducible show mm_rv _ _ _ _ _); first | exact True.intro | exact mm_i17 | exact mm_i18 | exact mm_i19 | exact mm_i20 | exact mm_i21 | exact mm_i22) | ((with_reducible show mm_bool _ _); first | exact True.intro | exact Or.inl rfl | exact Or.inr rfl | (show (_ : Int) = 0 ∨ _ = 1)) | refine And.intro ?_ ?_ | intro _ | with_reducible exact True.intro | exact rfl | with_reducible exact Or.inl rfl | with_reducible exact Or.inr rfl | exact Nat.le_of_ble_eq_true rfl)
    all_goals (try simp (disch := omega) only [InI, Int.toNat_natCast, Int.tmod_eq_emod_of_nonneg, Int.tdiv_eq_ediv_of_nonneg, true_implies, true_or, or_true, mm_l18, mm_l19, mm_l20, mm_l21, mm_l22] at *)
    all_goals first | omega | exact h9 | skip
  | succ j ih =>
    intro i M x2 hi hx hf h17 hb hS
    have e1 : M 17 1 = n := by rw [h17]; exact hn
    have b1 := hb i (by omega)
    obtain ⟨K, hK, hK2⟩ : ∃ K : Nat → mm_K, (∀ t ls st M d u, K t ls st M d u → rr_X5_turnTown Q t ls st M d u) ∧ (∀ t ls st M d u, rr_X5_turnTown Q t ls st M d u → K t ls st M d u) := ⟨rr_X5_turnTown Q, fun _ _ _ _ _ _ h => h, fun _ _ _ _ _ _ h => h⟩
    have st : ∀ M' x2, M' = mm_up (mm_up M 18 i (M 19 i)) 19 i (M 18 i) → K 25 [some (mm_R 17), some (mm_I ((i : Int) + 1)), some (mm_I x2)] [] M' d 0 := by
      intro M' x2 e
      refine hK2 _ _ _ _ _ _ (ih (i + 1) M' _ (by omega) (hx.tr (by rw [e]; exact (fX.rf.up (by omega)).up (by omega))) (hf.tr (by rw [e, vX_u19, vX_u18]; exact (fr.rf.up (by simp)).up (by simp))) (by rw [e, mm_up_o _ (by omega), mm_up_o _ (by omega)]; exact h17) (fun x hx2 => ?_) ⟨fun x hx2 => ?_, fun x hx2 => ?_⟩)
      · have b2 := hb x hx2
        rw [e]
        by_cases e : x = i
        · subst e
          simp [mm_up]
          omega
        · simp [mm_up, e]
          omega
      · have hz := hS.2 i (Nat.le_refl _)
        rw [e]
        by_cases e : x = i
        · subst e
          simp [mm_up]
          omega
        · have := hS.1 x (by omega)
          simp [mm_up, e]
          omega
      · have := hS.2 x (by omega)
        have e9 : x ≠ i := by omega
        rw [e]
        simp [mm_up, e9]
        omega
    clear hS hq
    refine mm_run_at (stop := [25, 65]) (S := K) kkX5_turnTown 90 ?_ (fun _ _ _ _ _ _ _ h => hK _ _ _ _ _ _ h)
    repeat' (first | with_reducible assumption | with_reducible exact mm_i17 | with_reducible exact mm_i18 | with_reducible exact mm_i19 | with_reducible exact mm_i20 | with_reducible exact mm_i21 | with_reducible exact mm_i22 | ((with_reducible show mm_rv _ _ _ _ _); first | exact True.intro | exact mm_i17 | exact mm_i18 | exact mm_i19 | exact mm_i20 | exact mm_i21 | exact mm_i22) | ((with_reducible show mm_bool _ _); first | exact True.intro | exact Or.inl rfl | exact Or.inr rfl | (show (_ : Int) = 0 ∨ _ = 1)) | refine And.intro ?_ ?_ | intro _ | with_reducible exact True.intro | exact rfl | with_reducible exact Or.inl rfl | with_reducible exact Or.inr rfl | exact Nat.le_of_ble_eq_true rfl)
    all_goals (try simp (disch := omega) only [mm_up_19_18, InI, Int.toNat_natCast, Int.tmod_eq_emod_of_nonneg, Int.tdiv_eq_ediv_of_nonneg, true_implies, true_or, or_true, mm_l18, mm_l19, mm_l20, mm_l21, mm_l22] at *)
    all_goals first | omega | exact st _ _ rfl | skip
def rvI (M0 M : mm_M) (i : Nat) : Prop := fr [8, 9, 10, 11, 12, 13] (vX M0) (vX M) ∧ M 17 = M0 17 ∧ (∀ k, k < i → revR (vX M0) (vX M) (8 + 2 * k)) ∧ ∀ k, i ≤ k → k < 3 → vX M (8 + 2 * k) = vX M0 (8 + 2 * k) ∧ vX M (8 + 2 * k + 1) = vX M0 (8 + 2 * k + 1)
set_option maxRecDepth 20000 in
theorem rev_e {A B A' B' : mm_M} {w : Nat} (h3 : A 3 = B 3) (h4 : A 4 = B 4) (h5 : A w = B w) (h6 : A (w + 1) = B (w + 1)) (h7 : A' w = B' w) (h8 : A' (w + 1) = B' (w + 1)) (h : revR A A' w) : revR B B' w := by
  unfold revR at h ⊢
  rw [← h5, ← h6, ← h7, ← h8, ← cor_e h3 h4 h5 h6]
  exact h
set_option maxRecDepth 20000 in
theorem rvI_s {M0 M M2 : mm_M} {i : Nat} (hi : i < 3) (h : rvI M0 M i) (h17 : M2 17 = M 17) (hf : fr [8 + 2 * i, 8 + 2 * i + 1] (vX M) (vX M2)) (hr : revR (vX M) (vX M2) (8 + 2 * i)) : rvI M0 M2 (i + 1) := by
  obtain ⟨r1, r2, r3, r4⟩ := h
  refine ⟨r1.tr (hf.mono (by simp; omega)), by rw [h17, r2], fun k hk => ?_, fun k hk hk2 => ?_⟩
  · by_cases e : k = i
    · subst e
      have := r4 k (Nat.le_refl _) hi
      exact rev_e (r1 3 (by simp)) (r1 4 (by simp)) this.1 this.2 rfl rfl hr
    · exact rev_e rfl rfl rfl rfl (hf _ (by simp; omega)).symm (hf _ (by simp; omega)).symm (r3 k (by omega))
  · rw [hf _ (by simp; omega), hf _ (by simp; omega)]
    exact r4 k (by omega) hk2
set_option maxRecDepth 20000 in
theorem lp_X5_turnTown {M0 : mm_M} {d : List Nat} {Q : mm_Q} (hq : ∀ M', xP M0 M' → rvI M0 M' 3 → rr_X5_turnTown Q 23 [some (mm_R 17), some (mm_I 3), none] [] M' d 0) : ∀ (j i : Nat) (M : mm_M), i + j = 3 → xP M0 M → rvI M0 M i → rr_X5_turnTown Q 7 [some (mm_R 17), some (mm_I i), none] [] M d 0 := by
  intro j
  induction j with
  | zero =>
    intro i M hi hP hR
    have e : i = 3 := by omega
    subst e
    obtain ⟨K, hK, hK2⟩ : ∃ K : Nat → mm_K, (∀ t ls st M d u, K t ls st M d u → rr_X5_turnTown Q t ls st M d u) ∧ (∀ t ls st M d u, rr_X5_turnTown Q t ls st M d u → K t ls st M d u) := ⟨rr_X5_turnTown Q, fun _ _ _ _ _ _ h => h, fun _ _ _ _ _ _ h => h⟩
    have h9 := hK2 _ _ _ _ _ _ (hq M hP hR)
    clear hR hq
    refine mm_run_at (stop := [12, 23]) (S := K) kkX5_turnTown 90 ?_ (fun _ _ _ _ _ _ _ h => hK _ _ _ _ _ _ h)
    repeat' (first | with_reducible assumption | with_reducible exact mm_i17 | with_reducible exact mm_i18 | with_reducible exact mm_i19 | with_reducible exact mm_i20 | with_reducible exact mm_i21 | with_reducible exact mm_i22 | ((with_reducible show mm_rv _ _ _ _ _); first | exact True.intro | exact mm_i17 | exact mm_i18 | exact mm_i19 | exact mm_i20 | exact mm_i21 | exact mm_i22) | ((with_reducible show mm_bool _ _); first | exact True.intro | exact Or.inl rfl | exact Or.inr rfl | (show (_ : Int) = 0 ∨ _ = 1)) | refine And.intro ?_ ?_ | intro _ | with_reducible exact True.intro | exact rfl | with_reducible exact Or.inl rfl | with_reducible exact Or.inr rfl | exact Nat.le_of_ble_eq_true rfl)
    all_goals (try simp (disch := omega) only [InI, Int.toNat_natCast, Int.tmod_eq_emod_of_nonneg, Int.tdiv_eq_ediv_of_nonneg, true_implies, true_or, or_true, mm_l18, mm_l19, mm_l20, mm_l21, mm_l22] at *)
    all_goals first | omega | exact h9 | skip
  | succ j ih =>
    intro i M hi hP hR
    have hk : i < 3 := by omega
    have ht := hP.a.t
    have hv := hP.a.v hk
    have hD := hP.a.d hk
    obtain ⟨K, hK, hK2⟩ : ∃ K : Nat → mm_K, (∀ t ls st M d u, K t ls st M d u → rr_X5_turnTown Q t ls st M d u) ∧ (∀ t ls st M d u, rr_X5_turnTown Q t ls st M d u → K t ls st M d u) := ⟨rr_X5_turnTown Q, fun _ _ _ _ _ _ h => h, fun _ _ _ _ _ _ h => h⟩
    have st : ∀ M2, fX M M2 ∧ M2 17 = M 17 ∧ fr [8 + 2 * i, 8 + 2 * i + 1] (vX M) (vX M2) ∧ revR (vX M) (vX M2) (8 + 2 * i) ∧ mV M2 i → K 7 [some (mm_R 17), some (mm_I ((i : Int) + 1)), none] [] M2 d 0 := by
      intro M2 ⟨g1, g2, g3, g4, g5⟩
      refine hK2 _ _ _ _ _ _ (ih (i + 1) M2 (by omega) (hP.tr ((xP_q hP.a hk g1 g2 g3 g5 (rev_wD hD g4)).1 ?_)) (rvI_s hk hR g2 g3 g4))
      have := g4.1
      rw [vX_n (by omega), vX_n (by omega)] at this
      omega
    clear hR hq
    refine mm_run_at (stop := [7, 23]) (S := K) kkX5_turnTown 90 ?_ (fun _ _ _ _ _ _ _ h => hK _ _ _ _ _ _ h)
    repeat' (first | with_reducible assumption | with_reducible exact mm_i17 | with_reducible exact mm_i18 | with_reducible exact mm_i19 | with_reducible exact mm_i20 | with_reducible exact mm_i21 | with_reducible exact mm_i22 | ((with_reducible show mm_rv _ _ _ _ _); first | exact True.intro | exact mm_i17 | exact mm_i18 | exact mm_i19 | exact mm_i20 | exact mm_i21 | exact mm_i22 | ((with_reducible show mV _ _); exact hv)) | ((with_reducible show mV _ _); exact hv) | ((with_reducible show mm_bool _ _); first | exact True.intro | exact Or.inl rfl | exact Or.inr rfl | (show (_ : Int) = 0 ∨ _ = 1)) | refine And.intro ?_ ?_ | intro _ | with_reducible exact True.intro | exact rfl | with_reducible exact Or.inl rfl | with_reducible exact Or.inr rfl | exact Nat.le_of_ble_eq_true rfl)
    all_goals (try simp (disch := omega) only [InI, Int.toNat_natCast, Int.tmod_eq_emod_of_nonneg, Int.tdiv_eq_ediv_of_nonneg, true_implies, true_or, or_true, mm_l18, mm_l19, mm_l20, mm_l21, mm_l22] at *)
    all_goals first | omega | exact st _ (by assumption) | skip
set_option maxRecDepth 20000 in
theorem rn_X5_turnTown : mm_RN flX5 ct_X5_turnTown mm_x0 [] 1 0 3 kdX5_turnTown sp_X5_turnTown := by
  intro av M d Q h
  unfold sp_X5_turnTown at h
  split at h
  · rename_i o
    obtain ⟨rfl, ha, hq⟩ := h
    have e00 : mm_up M 17 0 0 17 0 = 0 := x00
    have eV : vX (mm_up M 17 0 0) = vX M := vX_u0
    have hP0 := xP_s (v := 0) ha
    obtain ⟨M0, eM0⟩ : ∃ M0, mm_up M 17 0 0 = M0 := ⟨_, rfl⟩
    rw [eM0] at e00 eV hP0
    have k23 : ∀ M', xP M0 M' → rvI M0 M' 3 → rr_X5_turnTown Q 23 [some (mm_R 17), some (mm_I 3), none] [] M' d 0 := by
      intro M1 hP1 hR
      have ha1 := hP1.a
      have t1 := ha1.t.1
      obtain ⟨n, hn⟩ := Int.eq_ofNat_of_zero_le t1.1
      have k65 : ∀ M' x2, fX M1 M' → fr [3, 4] (vX M1) (vX M') → M' 17 = M1 17 → (∀ i : Nat, i < 30 → (0 ≤ M' 18 i ∧ M' 18 i < 10) ∧ (0 ≤ M' 19 i ∧ M' 19 i < 10)) → swI M1 M' n → rr_X5_turnTown Q 65 [some (mm_R 17), some (mm_I n), x2] [] M' d 0 := by
        intro M2 x2 f1 f2 f3 f4 f5
        have hP2 := xP_st ha1 f1 f2 f3 f4
        have q0 : ∀ N, N = mm_up (mm_up M2 17 5 0) 17 6 0 → Q (.inl (some (mm_I (N 17 1)))) (mm_up N 17 14 (N 17 14 + 1)) d := fun N eN => by
          have e17 : ∀ j, j ≠ 5 → j ≠ 6 → N 17 j = M0 17 j := fun j h5 h6 => by rw [eN, mm_up_ob2 h6, mm_up_ob2 h5, f3, hR.2.1]
          have ev : vX N = endM (vX M2) := by rw [eN, vX_end]
          have eo : ∀ o, o ≠ 2 → vX N o = vX M2 o := fun o ho => by rw [ev]; unfold endM; rw [mm_up_o _ ho, mm_up_o _ ho]
          have en9 : N 17 1 = M0 17 1 := e17 1 (by omega) (by omega)
          have e01 : M1 17 = M0 17 := hR.2.1
          refine hq _ _ (by rw [eN]; exact xP_ac (((hP0.tr hP1).tr hP2).tr (endX hP2.a))) ⟨by rw [mm_up_ob2 (by omega), e17 0 (by omega) (by omega)]; exact e00, by rw [en9, ← eV]; rfl, vX N, ?_, SE.eq (cX_n (by rw [en9, ← e01]; omega))⟩
          rw [← eV]
          have e34 : ∀ o, o = 3 ∨ o = 4 ∨ o = 1 ∨ o = 2 ∨ o = 16 → vX M1 o = vX M0 o := fun o ho => hR.1 o (by simp; omega)
          refine ⟨.of ?_, .of ?_, ?_, ?_, by rw [ev]; simp [endM, mm_up], by rw [ev]; simp [endM, mm_up], fun i hi => ?_, fun w hw => ?_⟩
          · rw [eo 1 (by omega), f2 1 (by simp), e34 1 (by omega)]
          · rw [eo 16 (by omega), f2 16 (by simp), e34 16 (by omega)]
          · exact en9
          · exact e17 4 (by omega) (by omega)
          · have h5 := f5.1 i (by rw [vX_24, ← e01, hn] at hi; omega)
            rw [eo 3 (by omega), eo 4 (by omega), ← e34 3 (by omega), ← e34 4 (by omega)]
            exact h5
          · have hl := isK_le hw.k
            obtain ⟨k, hk3, rfl⟩ : ∃ k, k < 3 ∧ w = 8 + 2 * k := by
              rcases hw with rfl | rfl | rfl
              · exact ⟨0, by omega, rfl⟩
              · exact ⟨1, by omega, rfl⟩
              · exact ⟨2, by omega, rfl⟩
            exact rev_e rfl rfl rfl rfl (by rw [eo _ (by omega), f2 _ (by simp; omega)]) (by rw [eo _ (by omega), f2 _ (by simp; omega)]) (hR.2.2.1 k hk3)
        clear f5 hR hq
        obtain ⟨K, hK, hK2⟩ : ∃ K : Nat → mm_K, (∀ t ls st M d u, K t ls st M d u → rr_X5_turnTown Q t ls st M d u) ∧ (∀ t ls st M d u, rr_X5_turnTown Q t ls st M d u → K t ls st M d u) := ⟨rr_X5_turnTown Q, fun _ _ _ _ _ _ h => h, fun _ _ _ _ _ _ h => h⟩
        refine mm_run_at (stop := []) (S := K) kkX5_turnTown 90 ?_ (fun _ _ _ _ _ _ _ h => hK _ _ _ _ _ _ h)
        repeat' (first | with_reducible assumption | with_reducible exact mm_i17 | with_reducible exact mm_i18 | with_reducible exact mm_i19 | with_reducible exact mm_i20 | with_reducible exact mm_i21 | with_reducible exact mm_i22 | ((with_reducible show mm_rv _ _ _ _ _); first | exact True.intro | exact mm_i17 | exact mm_i18 | exact mm_i19 | exact mm_i20 | exact mm_i21 | exact mm_i22) | ((with_reducible show mm_bool _ _); first | exact True.intro | exact Or.inl rfl | exact Or.inr rfl | (show (_ : Int) = 0 ∨ _ = 1)) | refine And.intro ?_ ?_ | intro _ | with_reducible exact True.intro | exact rfl | with_reducible exact Or.inl rfl | with_reducible exact Or.inr rfl | exact Nat.le_of_ble_eq_true rfl)
        all_goals (try simp (disch := omega) only [InI, Int.toNat_natCast, Int.tmod_eq_emod_of_nonneg, Int.tdiv_eq_ediv_of_nonneg, true_implies, true_or, or_true, mm_l18, mm_l19, mm_l20, mm_l21, mm_l22] at *)
        all_goals first | omega | exact q0 _ rfl | skip
      have k25 := lp2_X5_turnTown (d := d) (Q := Q) hn (by omega) k65 n 0 M1 none (by omega) fX.rf fr.rf rfl ha1.t.2.1 ⟨fun x hx => by omega, fun x _ => ⟨rfl, rfl⟩⟩
      clear k65 hR hq
      obtain ⟨K, hK, hK2⟩ : ∃ K : Nat → mm_K, (∀ t ls st M d u, K t ls st M d u → rr_X5_turnTown Q t ls st M d u) ∧ (∀ t ls st M d u, rr_X5_turnTown Q t ls st M d u → K t ls st M d u) := ⟨rr_X5_turnTown Q, fun _ _ _ _ _ _ h => h, fun _ _ _ _ _ _ h => h⟩
      have k25' := hK2 _ _ _ _ _ _ k25
      clear k25
      refine mm_run_at (stop := [25]) (S := K) kkX5_turnTown 90 ?_ (fun _ _ _ _ _ _ _ h => hK _ _ _ _ _ _ h)
      repeat' (first | with_reducible assumption | with_reducible exact mm_i17 | with_reducible exact mm_i18 | with_reducible exact mm_i19 | with_reducible exact mm_i20 | with_reducible exact mm_i21 | with_reducible exact mm_i22 | ((with_reducible show mm_rv _ _ _ _ _); first | exact True.intro | exact mm_i17 | exact mm_i18 | exact mm_i19 | exact mm_i20 | exact mm_i21 | exact mm_i22) | ((with_reducible show mm_bool _ _); first | exact True.intro | exact Or.inl rfl | exact Or.inr rfl | (show (_ : Int) = 0 ∨ _ = 1)) | refine And.intro ?_ ?_ | intro _ | with_reducible exact True.intro | exact rfl | with_reducible exact Or.inl rfl | with_reducible exact Or.inr rfl | exact Nat.le_of_ble_eq_true rfl)
      all_goals (try simp (disch := omega) only [InI, Int.toNat_natCast, Int.tmod_eq_emod_of_nonneg, Int.tdiv_eq_ediv_of_nonneg, true_implies, true_or, or_true, mm_l18, mm_l19, mm_l20, mm_l21, mm_l22] at *)
      all_goals first | omega | exact k25' | skip
    have k7 := lp_X5_turnTown (d := d) (Q := Q) (M0 := M0) (fun M' h h2 => k23 M' h h2) 3 0 M0 (by omega) hP0.a.rf ⟨fr.rf, rfl, fun k hk => by omega, fun k _ _ => ⟨rfl, rfl⟩⟩
    clear k23 hq
    rw [← eM0] at k7
    obtain ⟨K, hK, hK2⟩ : ∃ K : Nat → mm_K, (∀ t ls st M d u, K t ls st M d u → rr_X5_turnTown Q t ls st M d u) ∧ (∀ t ls st M d u, rr_X5_turnTown Q t ls st M d u → K t ls st M d u) := ⟨rr_X5_turnTown Q, fun _ _ _ _ _ _ h => h, fun _ _ _ _ _ _ h => h⟩
    refine ⟨Nat.le_of_ble_eq_true rfl, mm_run_at (stop := [7]) (S := K) kkX5_turnTown 90 ?_ (fun _ _ _ _ _ _ _ h => hK _ _ _ _ _ _ h)⟩
    have k77 := hK2 _ _ _ _ _ _ k7
    clear k7
    repeat' (first | with_reducible assumption | with_reducible exact mm_i17 | with_reducible exact mm_i18 | with_reducible exact mm_i19 | with_reducible exact mm_i20 | with_reducible exact mm_i21 | with_reducible exact mm_i22 | ((with_reducible show mm_rv _ _ _ _ _); first | exact True.intro | exact mm_i17 | exact mm_i18 | exact mm_i19 | exact mm_i20 | exact mm_i21 | exact mm_i22) | ((with_reducible show mm_bool _ _); first | exact True.intro | exact Or.inl rfl | exact Or.inr rfl | (show (_ : Int) = 0 ∨ _ = 1)) | refine And.intro ?_ ?_ | intro _ | with_reducible exact True.intro | exact rfl | with_reducible exact Or.inl rfl | with_reducible exact Or.inr rfl | exact Nat.le_of_ble_eq_true rfl)
    all_goals (try simp (disch := omega) only [InI, Int.toNat_natCast, Int.tmod_eq_emod_of_nonneg, Int.tdiv_eq_ediv_of_nonneg, true_implies, true_or, or_true, mm_l18, mm_l19, mm_l20, mm_l21, mm_l22] at *)
    all_goals first | omega | exact k77 | skip
  · exact h.elim
theorem me_X5_turnTown {l : Launch} (hl : l.stackTraces = false) : mm_Met l yX5_turnTown cX5_turnTown 3 (some .int) [] 10 188 0 sp_X5_turnTown := mm_mt hl rn_X5_turnTown ⟨plX5, rfl⟩ kkX5_turnTown rfl ⟨Nat.le_of_ble_eq_true rfl, Nat.le_of_ble_eq_true rfl⟩ flkX5 (fun _ h => nomatch h) (⟨mm_pe (me_X5_turned hl) mwX5_turned (mm_t6 177 rfl rfl) (Nat.le_of_ble_eq_true rfl) (Nat.le_of_ble_eq_true rfl), mm_pe (me_X5_endWords hl) mwX5_endWords (mm_t6 126 rfl rfl) (Nat.le_of_ble_eq_true rfl) (Nat.le_of_ble_eq_true rfl), mm_pe (me_X5_act hl) mwX5_act (mm_t6 130 rfl rfl) (Nat.le_of_ble_eq_true rfl) (Nat.le_of_ble_eq_true rfl), trivial⟩) (mm_xe0 _) n9X5
theorem at_X5_oneWay_0 : mm_at 0 kdX5_oneWay = [(0, .aload_n 0, 0), (1, .iconst 0, 0), (2, .putfield 32, 0), (5, .iconst 0, 0), (6, .istore_n 2, 0), (7, .iload_n 2, 0), (8, .iconst 3, 0), (9, .if_icmp .ge 48, 57), (12, .iconst 0, 0), (13, .istore_n 3, 0), (14, .iload_n 3, 0), (15, .aload_n 0, 0), (16, .getfield 19, 0), (19, .iload_n 2, 0), (20, .iaload, 0), (21, .if_icmp .ge 30, 51), (24, .iload_n 1, 0), (25, .ifCond .eq 20, 45), (28, .aload_n 0, 0), (29, .iload_n 2, 0), (30, .iload_n 3, 0), (31, .invokevirtual 98, 0), (34, .iconst 2, 0), (35, .irem, 0), (36, .iconst 1, 0), (37, .if_icmp .ne 8, 45), (40, .aload_n 0, 0), (41, .invokevirtual 149, 0), (44, .ireturn, 0), (45, .iinc 3 1, 0), (48, .goto (-34), 14), (51, .iinc 2 1, 0), (54, .goto (-47), 7), (57, .aload_n 0, 0), (58, .getfield 60, 0), (61, .istore_n 2, 0), (62, .aload_n 0, 0), (63, .iload_n 1, 0), (64, .putfield 60, 0), (67, .aload_n 0, 0), (68, .iload_n 2, 0), (69, .iload_n 1, 0), (70, .if_icmp .eq 7, 77), (73, .iconst 1, 0), (74, .goto 4, 78), (77, .iconst 0, 0), (78, .invokestatic 56, 0), (81, .invokevirtual 156, 0), (84, .ireturn, 0)] := rfl
theorem at_X5_oneWay_7 : mm_at 7 kdX5_oneWay = [(7, .iload_n 2, 0), (8, .iconst 3, 0), (9, .if_icmp .ge 48, 57), (12, .iconst 0, 0), (13, .istore_n 3, 0), (14, .iload_n 3, 0), (15, .aload_n 0, 0), (16, .getfield 19, 0), (19, .iload_n 2, 0), (20, .iaload, 0), (21, .if_icmp .ge 30, 51), (24, .iload_n 1, 0), (25, .ifCond .eq 20, 45), (28, .aload_n 0, 0), (29, .iload_n 2, 0), (30, .iload_n 3, 0), (31, .invokevirtual 98, 0), (34, .iconst 2, 0), (35, .irem, 0), (36, .iconst 1, 0), (37, .if_icmp .ne 8, 45), (40, .aload_n 0, 0), (41, .invokevirtual 149, 0), (44, .ireturn, 0), (45, .iinc 3 1, 0), (48, .goto (-34), 14), (51, .iinc 2 1, 0), (54, .goto (-47), 7), (57, .aload_n 0, 0), (58, .getfield 60, 0), (61, .istore_n 2, 0), (62, .aload_n 0, 0), (63, .iload_n 1, 0), (64, .putfield 60, 0), (67, .aload_n 0, 0), (68, .iload_n 2, 0), (69, .iload_n 1, 0), (70, .if_icmp .eq 7, 77), (73, .iconst 1, 0), (74, .goto 4, 78), (77, .iconst 0, 0), (78, .invokestatic 56, 0), (81, .invokevirtual 156, 0), (84, .ireturn, 0)] := rfl
theorem at_X5_oneWay_14 : mm_at 14 kdX5_oneWay = [(14, .iload_n 3, 0), (15, .aload_n 0, 0), (16, .getfield 19, 0), (19, .iload_n 2, 0), (20, .iaload, 0), (21, .if_icmp .ge 30, 51), (24, .iload_n 1, 0), (25, .ifCond .eq 20, 45), (28, .aload_n 0, 0), (29, .iload_n 2, 0), (30, .iload_n 3, 0), (31, .invokevirtual 98, 0), (34, .iconst 2, 0), (35, .irem, 0), (36, .iconst 1, 0), (37, .if_icmp .ne 8, 45), (40, .aload_n 0, 0), (41, .invokevirtual 149, 0), (44, .ireturn, 0), (45, .iinc 3 1, 0), (48, .goto (-34), 14), (51, .iinc 2 1, 0), (54, .goto (-47), 7), (57, .aload_n 0, 0), (58, .getfield 60, 0), (61, .istore_n 2, 0), (62, .aload_n 0, 0), (63, .iload_n 1, 0), (64, .putfield 60, 0), (67, .aload_n 0, 0), (68, .iload_n 2, 0), (69, .iload_n 1, 0), (70, .if_icmp .eq 7, 77), (73, .iconst 1, 0), (74, .goto 4, 78), (77, .iconst 0, 0), (78, .invokestatic 56, 0), (81, .invokevirtual 156, 0), (84, .ireturn, 0)] := rfl
theorem at_X5_oneWay_45 : mm_at 45 kdX5_oneWay = [(45, .iinc 3 1, 0), (48, .goto (-34), 14), (51, .iinc 2 1, 0), (54, .goto (-47), 7), (57, .aload_n 0, 0), (58, .getfield 60, 0), (61, .istore_n 2, 0), (62, .aload_n 0, 0), (63, .iload_n 1, 0), (64, .putfield 60, 0), (67, .aload_n 0, 0), (68, .iload_n 2, 0), (69, .iload_n 1, 0), (70, .if_icmp .eq 7, 77), (73, .iconst 1, 0), (74, .goto 4, 78), (77, .iconst 0, 0), (78, .invokestatic 56, 0), (81, .invokevirtual 156, 0), (84, .ireturn, 0)] := rfl
theorem at_X5_oneWay_51 : mm_at 51 kdX5_oneWay = [(51, .iinc 2 1, 0), (54, .goto (-47), 7), (57, .aload_n 0, 0), (58, .getfield 60, 0), (61, .istore_n 2, 0), (62, .aload_n 0, 0), (63, .iload_n 1, 0), (64, .putfield 60, 0), (67, .aload_n 0, 0), (68, .iload_n 2, 0), (69, .iload_n 1, 0), (70, .if_icmp .eq 7, 77), (73, .iconst 1, 0), (74, .goto 4, 78), (77, .iconst 0, 0), (78, .invokestatic 56, 0), (81, .invokevirtual 156, 0), (84, .ireturn, 0)] := rfl
theorem at_X5_oneWay_57 : mm_at 57 kdX5_oneWay = [(57, .aload_n 0, 0), (58, .getfield 60, 0), (61, .istore_n 2, 0), (62, .aload_n 0, 0), (63, .iload_n 1, 0), (64, .putfield 60, 0), (67, .aload_n 0, 0), (68, .iload_n 2, 0), (69, .iload_n 1, 0), (70, .if_icmp .eq 7, 77), (73, .iconst 1, 0), (74, .goto 4, 78), (77, .iconst 0, 0), (78, .invokestatic 56, 0), (81, .invokevirtual 156, 0), (84, .ireturn, 0)] := rfl
theorem at_X5_oneWay_77 : mm_at 77 kdX5_oneWay = [(77, .iconst 0, 0), (78, .invokestatic 56, 0), (81, .invokevirtual 156, 0), (84, .ireturn, 0)] := rfl
theorem at_X5_oneWay_78 : mm_at 78 kdX5_oneWay = [(78, .invokestatic 56, 0), (81, .invokevirtual 156, 0), (84, .ireturn, 0)] := rfl
def sp_X5_oneWay : mm_S := fun av M d Q => match av with
  | [.inr (.inr (.inl o)), .inl f] =>  o = 17 ∧ xA M ∧ (f = 0 ∨ f = 1) ∧ ∀ M' r, xP M M' → C_oneWay f (vX M) (vX M') (M' 17 0) r → Q (.inl (some (mm_I r))) M' d
  | _ => False
def ct_X5_oneWay : List (Nat × mm_Ca) := [(98, (0, 3, 14, sp_X5_stepOf, 0)), (149, (0, 1, 14, sp_X5_cannot, 0)), (56, (1, 1, 0, sp_X5_one, 0)), (156, (0, 2, 14, sp_X5_act, 0))]
abbrev rr_X5_oneWay (Q : mm_Q) := mm_run (mm_look flX5) (mm_look ct_X5_oneWay) mm_x0 (mm_look ([] : List (Nat × Int))) (fun _ => none) 1 0 (fun _ _ => none) Q kdX5_oneWay
set_option maxRecDepth 20000 in
theorem lp2_X5_oneWay {M : mm_M} {d : List Nat} {Q : mm_Q} {f : Int} {k n : Nat} (hk : k < 3) (hn : M 21 k = n) (h30 : n ≤ 30) (hf : f = 0 ∨ f = 1) (hw : ∀ i : Nat, i < n → 0 ≤ M 20 (30 * k + i) ∧ M 20 (30 * k + i) < 100) (q9 : f ≠ 0 → (∃ i : Nat, i < n ∧ M 20 (30 * k + i) % 2 = 1) → Q (.inl (some (mm_I (-9)))) (mm_up M 17 15 (M 17 15 + 1)) d) (hq : (f ≠ 0 → ∀ i : Nat, i < n → M 20 (30 * k + i) % 2 ≠ 1) → ∀ x3, rr_X5_oneWay Q 51 [some (mm_R 17), some (mm_I f), some (mm_I k), x3] [] M d 0) : ∀ (j i : Nat), i + j = n → (f ≠ 0 → ∀ x : Nat, x < i → M 20 (30 * k + x) % 2 ≠ 1) → rr_X5_oneWay Q 14 [some (mm_R 17), some (mm_I f), some (mm_I k), some (mm_I i)] [] M d 0 := by
  intro j
  induction j with
  | zero =>
    intro i hi hN
    have e : i = n := by omega
    subst e
    obtain ⟨K, hK, hK2⟩ : ∃ K : Nat → mm_K, (∀ t ls st M d u, K t ls st M d u → rr_X5_oneWay Q t ls st M d u) ∧ (∀ t ls st M d u, rr_X5_oneWay Q t ls st M d u → K t ls st M d u) := ⟨rr_X5_oneWay Q, fun _ _ _ _ _ _ h => h, fun _ _ _ _ _ _ h => h⟩
    have h9 := hK2 _ _ _ _ _ _ (hq hN (some (mm_I i)))
    clear hq hN q9
    refine mm_run_at (stop := [24, 51]) (S := K) kkX5_oneWay 90 ?_ (fun _ _ _ _ _ _ _ h => hK _ _ _ _ _ _ h)
    repeat' (first | with_reducible assumption | with_reducible exact mm_i17 | with_reducible exact mm_i18 | with_reducible exact mm_i19 | with_reducible exact mm_i20 | with_reducible exact mm_i21 | with_reducible exact mm_i22 | ((with_reducible show mm_rv _ _ _ _ _); first | exact True.intro | exact mm_i17 | exact mm_i18 | exact mm_i19 | exact mm_i20 | exact mm_i21 | exact mm_i22) | ((with_reducible show mm_bool _ _); first | exact True.intro | exact Or.inl rfl | exact Or.inr rfl | (show (_ : Int) = 0 ∨ _ = 1)) | refine And.intro ?_ ?_ | intro _ | with_reducible exact True.intro | exact rfl | with_reducible exact Or.inl rfl | with_reducible exact Or.inr rfl | exact Nat.le_of_ble_eq_true rfl)
    all_goals (try simp (disch := omega) only [InI, Int.toNat_natCast, Int.tmod_eq_emod_of_nonneg, Int.tdiv_eq_ediv_of_nonneg, true_implies, true_or, or_true, mm_l18, mm_l19, mm_l20, mm_l21, mm_l22] at *)
    all_goals first | omega | exact h9 | skip
  | succ j ih =>
    intro i hi hN
    have w1 := hw i (by omega)
    have e6 : (30 * (k : Int).toNat + (i : Int).toNat) = 30 * k + i := by omega
    have e7 : (k : Int).toNat = k := by omega
    obtain ⟨K, hK, hK2⟩ : ∃ K : Nat → mm_K, (∀ t ls st M d u, K t ls st M d u → rr_X5_oneWay Q t ls st M d u) ∧ (∀ t ls st M d u, rr_X5_oneWay Q t ls st M d u → K t ls st M d u) := ⟨rr_X5_oneWay Q, fun _ _ _ _ _ _ h => h, fun _ _ _ _ _ _ h => h⟩
    have st : (f ≠ 0 → M 20 (30 * k + i) % 2 ≠ 1) → _ := fun h => hK2 _ _ _ _ _ _ (ih (i + 1) (by omega) (fun h0 x hx => by
      by_cases e : x = i
      · rw [e]
        exact h h0
      · exact hN h0 x (by omega)))
    have q99 : f ≠ 0 → M 20 (30 * k + i) % 2 = 1 → Q (.inl (some (mm_I (-9)))) (mm_up M 17 15 (M 17 15 + 1)) d := fun h0 h => q9 h0 ⟨i, by omega, h⟩
    clear hN ih q9 hq
    refine mm_run_at (stop := [14, 51]) (S := K) kkX5_oneWay 90 ?_ (fun _ _ _ _ _ _ _ h => hK _ _ _ _ _ _ h)
    repeat' (first | with_reducible assumption | with_reducible exact mm_i17 | with_reducible exact mm_i18 | with_reducible exact mm_i19 | with_reducible exact mm_i20 | with_reducible exact mm_i21 | with_reducible exact mm_i22 | ((with_reducible show mm_rv _ _ _ _ _); first | exact True.intro | exact mm_i17 | exact mm_i18 | exact mm_i19 | exact mm_i20 | exact mm_i21 | exact mm_i22) | ((with_reducible show mm_bool _ _); first | exact True.intro | exact Or.inl rfl | exact Or.inr rfl | (show (_ : Int) = 0 ∨ _ = 1)) | refine And.intro ?_ ?_ | intro _ | with_reducible exact True.intro | exact rfl | with_reducible exact Or.inl rfl | with_reducible exact Or.inr rfl | exact Nat.le_of_ble_eq_true rfl)
    all_goals (try simp (disch := omega) only [e6, InI, Int.toNat_natCast, Int.tmod_eq_emod_of_nonneg, Int.tdiv_eq_ediv_of_nonneg, true_implies, true_or, or_true, mm_l18, mm_l19, mm_l20, mm_l21, mm_l22] at *)
    all_goals first | omega | exact st (by omega) | exact q99 (by omega) (by omega) | skip
set_option maxRecDepth 20000 in
theorem lp_X5_oneWay {M : mm_M} {d : List Nat} {Q : mm_Q} {f : Int} (hf : f = 0 ∨ f = 1) (hl : ∀ k, k < 3 → 0 ≤ M 21 k ∧ M 21 k ≤ 30) (hw : ∀ k, k < 3 → ∀ i : Nat, i < M 21 k → 0 ≤ M 20 (30 * k + i) ∧ M 20 (30 * k + i) < 100) (q9 : f ≠ 0 → (∃ k, k < 3 ∧ ∃ i : Nat, i < M 21 k ∧ M 20 (30 * k + i) % 2 = 1) → Q (.inl (some (mm_I (-9)))) (mm_up M 17 15 (M 17 15 + 1)) d) (hq : (f ≠ 0 → ∀ k, k < 3 → ∀ i : Nat, i < M 21 k → M 20 (30 * k + i) % 2 ≠ 1) → ∀ x3, rr_X5_oneWay Q 57 [some (mm_R 17), some (mm_I f), some (mm_I 3), x3] [] M d 0) : ∀ (j k : Nat) (x3 : Option mm_V), k + j = 3 → (f ≠ 0 → ∀ k', k' < k → ∀ i : Nat, i < M 21 k' → M 20 (30 * k' + i) % 2 ≠ 1) → rr_X5_oneWay Q 7 [some (mm_R 17), some (mm_I f), some (mm_I k), x3] [] M d 0 := by
  intro j
  induction j with
  | zero =>
    intro k x3 hk hN
    have e : k = 3 := by omega
    subst e
    obtain ⟨K, hK, hK2⟩ : ∃ K : Nat → mm_K, (∀ t ls st M d u, K t ls st M d u → rr_X5_oneWay Q t ls st M d u) ∧ (∀ t ls st M d u, rr_X5_oneWay Q t ls st M d u → K t ls st M d u) := ⟨rr_X5_oneWay Q, fun _ _ _ _ _ _ h => h, fun _ _ _ _ _ _ h => h⟩
    have h9 := hK2 _ _ _ _ _ _ (hq hN x3)
    clear hq hN q9
    refine mm_run_at (stop := [12, 57]) (S := K) kkX5_oneWay 90 ?_ (fun _ _ _ _ _ _ _ h => hK _ _ _ _ _ _ h)
    repeat' (first | with_reducible assumption | with_reducible exact mm_i17 | with_reducible exact mm_i18 | with_reducible exact mm_i19 | with_reducible exact mm_i20 | with_reducible exact mm_i21 | with_reducible exact mm_i22 | ((with_reducible show mm_rv _ _ _ _ _); first | exact True.intro | exact mm_i17 | exact mm_i18 | exact mm_i19 | exact mm_i20 | exact mm_i21 | exact mm_i22) | ((with_reducible show mm_bool _ _); first | exact True.intro | exact Or.inl rfl | exact Or.inr rfl | (show (_ : Int) = 0 ∨ _ = 1)) | refine And.intro ?_ ?_ | intro _ | with_reducible exact True.intro | exact rfl | with_reducible exact Or.inl rfl | with_reducible exact Or.inr rfl | exact Nat.le_of_ble_eq_true rfl)
    all_goals (try simp (disch := omega) only [InI, Int.toNat_natCast, Int.tmod_eq_emod_of_nonneg, Int.tdiv_eq_ediv_of_nonneg, true_implies, true_or, or_true, mm_l18, mm_l19, mm_l20, mm_l21, mm_l22] at *)
    all_goals first | omega | exact h9 | skip
  | succ j ih =>
    intro k x3 hk hN
    have hk3 : k < 3 := by omega
    obtain ⟨n, hn⟩ := Int.eq_ofNat_of_zero_le (hl k hk3).1
    have hlk := hl k hk3
    have k51 : (f ≠ 0 → ∀ i : Nat, i < n → M 20 (30 * k + i) % 2 ≠ 1) → ∀ x3, rr_X5_oneWay Q 51 [some (mm_R 17), some (mm_I f), some (mm_I k), x3] [] M d 0 := by
      intro hz x3
      obtain ⟨K, hK, hK2⟩ : ∃ K : Nat → mm_K, (∀ t ls st M d u, K t ls st M d u → rr_X5_oneWay Q t ls st M d u) ∧ (∀ t ls st M d u, rr_X5_oneWay Q t ls st M d u → K t ls st M d u) := ⟨rr_X5_oneWay Q, fun _ _ _ _ _ _ h => h, fun _ _ _ _ _ _ h => h⟩
      have st := hK2 _ _ _ _ _ _ (ih (k + 1) x3 (by omega) (fun h0 k' hk' i hi => by
        by_cases e : k' = k
        · rw [e] at hi ⊢
          exact hz h0 i (by omega)
        · exact hN h0 k' (by omega) i hi))
      clear hz hN ih q9 hq
      refine mm_run_at (stop := [7]) (S := K) kkX5_oneWay 90 ?_ (fun _ _ _ _ _ _ _ h => hK _ _ _ _ _ _ h)
      repeat' (first | with_reducible assumption | with_reducible exact mm_i17 | with_reducible exact mm_i18 | with_reducible exact mm_i19 | with_reducible exact mm_i20 | with_reducible exact mm_i21 | with_reducible exact mm_i22 | ((with_reducible show mm_rv _ _ _ _ _); first | exact True.intro | exact mm_i17 | exact mm_i18 | exact mm_i19 | exact mm_i20 | exact mm_i21 | exact mm_i22) | ((with_reducible show mm_bool _ _); first | exact True.intro | exact Or.inl rfl | exact Or.inr rfl | (show (_ : Int) = 0 ∨ _ = 1)) | refine And.intro ?_ ?_ | intro _ | with_reducible exact True.intro | exact rfl | with_reducible exact Or.inl rfl | with_reducible exact Or.inr rfl | exact Nat.le_of_ble_eq_true rfl)
      all_goals (try simp (disch := omega) only [InI, Int.toNat_natCast, Int.tmod_eq_emod_of_nonneg, Int.tdiv_eq_ediv_of_nonneg, true_implies, true_or, or_true, mm_l18, mm_l19, mm_l20, mm_l21, mm_l22] at *)
      all_goals first | omega | exact st | skip
    have k14 := lp2_X5_oneWay (d := d) (Q := Q) hk3 hn (by omega) hf (fun i hi => hw k hk3 i (by omega)) (fun h0 h => q9 h0 (by obtain ⟨i, h1, h2⟩ := h; exact ⟨k, hk3, i, by omega, h2⟩)) k51 n 0 (by omega) (fun _ x hx => by omega)
    clear k51 hN ih q9 hq
    obtain ⟨K, hK, hK2⟩ : ∃ K : Nat → mm_K, (∀ t ls st M d u, K t ls st M d u → rr_X5_oneWay Q t ls st M d u) ∧ (∀ t ls st M d u, rr_X5_oneWay Q t ls st M d u → K t ls st M d u) := ⟨rr_X5_oneWay Q, fun _ _ _ _ _ _ h => h, fun _ _ _ _ _ _ h => h⟩
    have k144 := hK2 _ _ _ _ _ _ k14
    clear k14
    refine mm_run_at (stop := [14, 57]) (S := K) kkX5_oneWay 90 ?_ (fun _ _ _ _ _ _ _ h => hK _ _ _ _ _ _ h)
    repeat' (first | with_reducible assumption | with_reducible exact mm_i17 | with_reducible exact mm_i18 | with_reducible exact mm_i19 | with_reducible exact mm_i20 | with_reducible exact mm_i21 | with_reducible exact mm_i22 | ((with_reducible show mm_rv _ _ _ _ _); first | exact True.intro | exact mm_i17 | exact mm_i18 | exact mm_i19 | exact mm_i20 | exact mm_i21 | exact mm_i22) | ((with_reducible show mm_bool _ _); first | exact True.intro | exact Or.inl rfl | exact Or.inr rfl | (show (_ : Int) = 0 ∨ _ = 1)) | refine And.intro ?_ ?_ | intro _ | with_reducible exact True.intro | exact rfl | with_reducible exact Or.inl rfl | with_reducible exact Or.inr rfl | exact Nat.le_of_ble_eq_true rfl)
    all_goals (try simp (disch := omega) only [InI, Int.toNat_natCast, Int.tmod_eq_emod_of_nonneg, Int.tdiv_eq_ediv_of_nonneg, true_implies, true_or, or_true, mm_l18, mm_l19, mm_l20, mm_l21, mm_l22] at *)
    all_goals first | omega | exact k144 | skip
set_option maxRecDepth 20000 in
theorem rn_X5_oneWay : mm_RN flX5 ct_X5_oneWay mm_x0 [] 1 0 4 kdX5_oneWay sp_X5_oneWay := by
  intro av M d Q h
  unfold sp_X5_oneWay at h
  split at h
  · rename_i o f
    obtain ⟨rfl, ha, hf, hq⟩ := h
    obtain ⟨M1, e0, ha1, hP1, e17, eo⟩ := xS (v := 0) ha
    have e00 : M1 17 0 = 0 := by rw [← e0]; exact x00
    have eV : vX M1 = vX M := by rw [← e0, vX_u0]
    have t1 := ha1.t.1
    have hb := xA_b ha1
    have hbk : bkP (vX M1) ↔ ∃ k, k < 3 ∧ ∃ i : Nat, i < M1 21 k ∧ M1 20 (30 * k + i) % 2 = 1 := by
      constructor
      · rintro ⟨w, hw, i, hi, h⟩
        obtain ⟨k, hk3, rfl⟩ : ∃ k, k < 3 ∧ w = 8 + 2 * k := by
          rcases hw with rfl | rfl | rfl
          · exact ⟨0, by omega, rfl⟩
          · exact ⟨1, by omega, rfl⟩
          · exact ⟨2, by omega, rfl⟩
        have v1 := (ha1.v hk3).1
        rw [vX_n (by omega)] at hi
        rw [vX_i (by omega) (by omega)] at h
        exact ⟨k, hk3, i, hi, h⟩
      · rintro ⟨k, hk3, i, hi, h⟩
        have v1 := (ha1.v hk3).1
        exact ⟨8 + 2 * k, isW3k hk3, i, by rw [vX_n (by omega)]; exact hi, by rw [vX_i (by omega) (by omega)]; exact h⟩
    have k57 : (f ≠ 0 → ∀ k, k < 3 → ∀ i : Nat, i < M1 21 k → M1 20 (30 * k + i) % 2 ≠ 1) → ∀ x3, rr_X5_oneWay Q 57 [some (mm_R 17), some (mm_I f), some (mm_I 3), x3] [] M1 d 0 := by
      intro hN x3
      have hP2 : xP M1 (mm_up M1 17 4 f) := by
        refine xP_t ha1 (fX.rf.up (by omega)) ?_ (by rw [vX_u4]; exact fr.rf.up (by simp)) (by simp [mm_up]) (by simp [mm_up])
        have ht := ha1.t
        unfold tX at *
        simp only [mm_up, Nat.reduceEqDiff, and_false, false_and, and_true, if_false, if_true]
        exact ⟨ht.1, ht.2.1, hf, ht.2.2.2⟩
      have hnb : ¬ (f ≠ 0 ∧ bkP (vX M)) := fun h => by
        rw [← eV] at h
        obtain ⟨k, hk, i, hi, h3⟩ := hbk.mp h.2
        exact hN h.1 k hk i hi h3
      have q0 : ∀ r, (r = if M1 17 4 = f then 0 else 1) → ∀ N, N = mm_up M1 17 4 f → Q (.inl (some (mm_I r))) (mm_up N 17 14 (N 17 14 + 1)) d := fun r hr N eN => by
        refine hq _ _ (by rw [eN]; exact xP_ac (hP1.tr hP2)) ⟨by rw [mm_up_ob2 (by omega), eN, mm_up_ob2 (by omega)]; exact e00, no9.y hnb ⟨by rw [← eV]; exact hr, SE.eq ?_⟩⟩
        rw [cX_n (r := r) (by rw [hr]; split <;> omega), eN, vX_u4, eV]
      have qa : M1 17 4 = f → ∀ N, N = mm_up M1 17 4 f → Q (.inl (some (mm_I 0))) (mm_up N 17 14 (N 17 14 + 1)) d := fun h => q0 0 (by rw [if_pos h])
      have qb : M1 17 4 ≠ f → ∀ N, N = mm_up M1 17 4 f → Q (.inl (some (mm_I 1))) (mm_up N 17 14 (N 17 14 + 1)) d := fun h => q0 1 (by rw [if_neg h])
      clear q0 hnb hN hq hbk
      obtain ⟨K, hK, hK2⟩ : ∃ K : Nat → mm_K, (∀ t ls st M d u, K t ls st M d u → rr_X5_oneWay Q t ls st M d u) ∧ (∀ t ls st M d u, rr_X5_oneWay Q t ls st M d u → K t ls st M d u) := ⟨rr_X5_oneWay Q, fun _ _ _ _ _ _ h => h, fun _ _ _ _ _ _ h => h⟩
      refine mm_run_at (stop := []) (S := K) kkX5_oneWay 90 ?_ (fun _ _ _ _ _ _ _ h => hK _ _ _ _ _ _ h)
      repeat' (first | with_reducible assumption | with_reducible exact mm_i17 | with_reducible exact mm_i18 | with_reducible exact mm_i19 | with_reducible exact mm_i20 | with_reducible exact mm_i21 | with_reducible exact mm_i22 | ((with_reducible show mm_rv _ _ _ _ _); first | exact True.intro | exact mm_i17 | exact mm_i18 | exact mm_i19 | exact mm_i20 | exact mm_i21 | exact mm_i22) | ((with_reducible show mm_bool _ _); first | exact True.intro | exact Or.inl rfl | exact Or.inr rfl | (show (_ : Int) = 0 ∨ _ = 1)) | refine And.intro ?_ ?_ | intro _ | with_reducible exact True.intro | exact rfl | with_reducible exact Or.inl rfl | with_reducible exact Or.inr rfl | exact Nat.le_of_ble_eq_true rfl)
      all_goals (try simp (disch := omega) only [InI, Int.toNat_natCast, Int.tmod_eq_emod_of_nonneg, Int.tdiv_eq_ediv_of_nonneg, true_implies, true_or, or_true, mm_l18, mm_l19, mm_l20, mm_l21, mm_l22] at *)
      all_goals first | omega | exact qa (by omega) _ rfl | exact qb (by omega) _ rfl | skip
    have k7 := lp_X5_oneWay (M := M1) (d := d) (Q := Q) hf (fun k hk => (ha1.v hk).1) (fun k hk i hi => by have := (ha1.v hk).2.2 i hi; omega) (fun h0 h => hq _ (-9) (hP1.tr (xA_u (x := M1 17 15 + 1) ha1)) ⟨by rw [mm_up_ob2 (by omega)]; exact e00, by rw [← eV]; exact no9.n (fun h3 => h3 ⟨h0, hbk.mpr h⟩) cX_9⟩) k57 3 0 none (by omega) (fun _ k hk => by omega)
    clear k57 hq hbk
    subst e0
    obtain ⟨K, hK, hK2⟩ : ∃ K : Nat → mm_K, (∀ t ls st M d u, K t ls st M d u → rr_X5_oneWay Q t ls st M d u) ∧ (∀ t ls st M d u, rr_X5_oneWay Q t ls st M d u → K t ls st M d u) := ⟨rr_X5_oneWay Q, fun _ _ _ _ _ _ h => h, fun _ _ _ _ _ _ h => h⟩
    refine ⟨Nat.le_of_ble_eq_true rfl, mm_run_at (stop := [7]) (S := K) kkX5_oneWay 90 ?_ (fun _ _ _ _ _ _ _ h => hK _ _ _ _ _ _ h)⟩
    have k77 := hK2 _ _ _ _ _ _ k7
    clear k7
    repeat' (first | with_reducible assumption | with_reducible exact mm_i17 | with_reducible exact mm_i18 | with_reducible exact mm_i19 | with_reducible exact mm_i20 | with_reducible exact mm_i21 | with_reducible exact mm_i22 | ((with_reducible show mm_rv _ _ _ _ _); first | exact True.intro | exact mm_i17 | exact mm_i18 | exact mm_i19 | exact mm_i20 | exact mm_i21 | exact mm_i22) | ((with_reducible show mm_bool _ _); first | exact True.intro | exact Or.inl rfl | exact Or.inr rfl | (show (_ : Int) = 0 ∨ _ = 1)) | refine And.intro ?_ ?_ | intro _ | with_reducible exact True.intro | exact rfl | with_reducible exact Or.inl rfl | with_reducible exact Or.inr rfl | exact Nat.le_of_ble_eq_true rfl)
    all_goals (try simp (disch := omega) only [InI, Int.toNat_natCast, Int.tmod_eq_emod_of_nonneg, Int.tdiv_eq_ediv_of_nonneg, true_implies, true_or, or_true, mm_l18, mm_l19, mm_l20, mm_l21, mm_l22] at *)
    all_goals first | omega | exact k77 | skip
  · exact h.elim
theorem me_X5_oneWay {l : Launch} (hl : l.stackTraces = false) : mm_Met l yX5_oneWay cX5_oneWay 4 (some .int) [] 7 122 0 sp_X5_oneWay := mm_mt hl rn_X5_oneWay ⟨plX5, rfl⟩ kkX5_oneWay rfl ⟨Nat.le_of_ble_eq_true rfl, Nat.le_of_ble_eq_true rfl⟩ flkX5 (fun _ h => nomatch h) (⟨mm_pe (me_X5_stepOf hl) mwX5_stepOf (mm_t6 158 rfl rfl) (Nat.le_of_ble_eq_true rfl) (Nat.le_of_ble_eq_true rfl), mm_pe (me_X5_cannot hl) mwX5_cannot (mm_t6 118 rfl rfl) (Nat.le_of_ble_eq_true rfl) (Nat.le_of_ble_eq_true rfl), mm_pe (me_X5_one hl) mwX5_one (mm_t6 170 rfl rfl) (Nat.le_of_ble_eq_true rfl) (Nat.le_of_ble_eq_true rfl), mm_pe (me_X5_act hl) mwX5_act (mm_t6 130 rfl rfl) (Nat.le_of_ble_eq_true rfl) (Nat.le_of_ble_eq_true rfl), trivial⟩) (mm_xe0 _) n9X5

