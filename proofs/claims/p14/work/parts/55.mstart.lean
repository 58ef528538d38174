section
/-! the model's town: starts, the kind; its walks: putting in, taking out -/
theorem all_sub {n : Nat} : ∀ k, bt (2 ^ n - 1) k = 1 → k < n := fun k h => by
  rw [bt_all] at h
  by_cases e : k < n
  · exact e
  · rw [if_neg e] at h; omega
theorem at_X5_isStartOf_0 : mm_at 0 kdX5_isStartOf = [(0, .aload_n 0, 0), (1, .iload_n 1, 0), (2, .invokevirtual 71, 0), (5, .ifCond .ne 5, 10), (8, .iconst 0, 0), (9, .ireturn, 0), (10, .iload_n 1, 0), (11, .ifCond .ne 5, 16), (14, .iconst 1, 0), (15, .ireturn, 0), (16, .aload_n 0, 0), (17, .iload_n 1, 0), (18, .invokevirtual 75, 0), (21, .istore_n 3, 0), (22, .iload_n 3, 0), (23, .ifCond .ne 19, 42), (26, .aload_n 0, 0), (27, .iload_n 1, 0), (28, .iload_n 2, 0), (29, .iconst 0, 0), (30, .invokevirtual 64, 0), (33, .ifCond .le 7, 40), (36, .iconst 1, 0), (37, .goto 4, 41), (40, .iconst 0, 0), (41, .ireturn, 0), (42, .iload_n 3, 0), (43, .iconst 2, 0), (44, .if_icmp .ne 42, 86), (47, .aload_n 0, 0), (48, .iload_n 1, 0), (49, .iload_n 2, 0), (50, .invokevirtual 68, 0), (53, .ifCond .eq 33, 86), (56, .aload_n 0, 0), (57, .getfield 60, 0), (60, .ifCond .eq 22, 82), (63, .aload_n 0, 0), (64, .iload_n 1, 0), (65, .iload_n 2, 0), (66, .iconst 1, 0), (67, .invokevirtual 64, 0), (70, .aload_n 0, 0), (71, .iload_n 1, 0), (72, .iload_n 2, 0), (73, .iconst 2, 0), (74, .invokevirtual 64, 0), (77, .iconst 1, 0), (78, .iadd, 0), (79, .if_icmp .ne 7, 86), (82, .iconst 1, 0), (83, .goto 4, 87), (86, .iconst 0, 0), (87, .ireturn, 0)] := rfl
theorem at_X5_isStartOf_10 : mm_at 10 kdX5_isStartOf = [(10, .iload_n 1, 0), (11, .ifCond .ne 5, 16), (14, .iconst 1, 0), (15, .ireturn, 0), (16, .aload_n 0, 0), (17, .iload_n 1, 0), (18, .invokevirtual 75, 0), (21, .istore_n 3, 0), (22, .iload_n 3, 0), (23, .ifCond .ne 19, 42), (26, .aload_n 0, 0), (27, .iload_n 1, 0), (28, .iload_n 2, 0), (29, .iconst 0, 0), (30, .invokevirtual 64, 0), (33, .ifCond .le 7, 40), (36, .iconst 1, 0), (37, .goto 4, 41), (40, .iconst 0, 0), (41, .ireturn, 0), (42, .iload_n 3, 0), (43, .iconst 2, 0), (44, .if_icmp .ne 42, 86), (47, .aload_n 0, 0), (48, .iload_n 1, 0), (49, .iload_n 2, 0), (50, .invokevirtual 68, 0), (53, .ifCond .eq 33, 86), (56, .aload_n 0, 0), (57, .getfield 60, 0), (60, .ifCond .eq 22, 82), (63, .aload_n 0, 0), (64, .iload_n 1, 0), (65, .iload_n 2, 0), (66, .iconst 1, 0), (67, .invokevirtual 64, 0), (70, .aload_n 0, 0), (71, .iload_n 1, 0), (72, .iload_n 2, 0), (73, .iconst 2, 0), (74, .invokevirtual 64, 0), (77, .iconst 1, 0), (78, .iadd, 0), (79, .if_icmp .ne 7, 86), (82, .iconst 1, 0), (83, .goto 4, 87), (86, .iconst 0, 0), (87, .ireturn, 0)] := rfl
theorem at_X5_isStartOf_16 : mm_at 16 kdX5_isStartOf = [(16, .aload_n 0, 0), (17, .iload_n 1, 0), (18, .invokevirtual 75, 0), (21, .istore_n 3, 0), (22, .iload_n 3, 0), (23, .ifCond .ne 19, 42), (26, .aload_n 0, 0), (27, .iload_n 1, 0), (28, .iload_n 2, 0), (29, .iconst 0, 0), (30, .invokevirtual 64, 0), (33, .ifCond .le 7, 40), (36, .iconst 1, 0), (37, .goto 4, 41), (40, .iconst 0, 0), (41, .ireturn, 0), (42, .iload_n 3, 0), (43, .iconst 2, 0), (44, .if_icmp .ne 42, 86), (47, .aload_n 0, 0), (48, .iload_n 1, 0), (49, .iload_n 2, 0), (50, .invokevirtual 68, 0), (53, .ifCond .eq 33, 86), (56, .aload_n 0, 0), (57, .getfield 60, 0), (60, .ifCond .eq 22, 82), (63, .aload_n 0, 0), (64, .iload_n 1, 0), (65, .iload_n 2, 0), (66, .iconst 1, 0), (67, .invokevirtual 64, 0), (70, .aload_n 0, 0), (71, .iload_n 1, 0), (72, .iload_n 2, 0), (73, .iconst 2, 0), (74, .invokevirtual 64, 0), (77, .iconst 1, 0), (78, .iadd, 0), (79, .if_icmp .ne 7, 86), (82, .iconst 1, 0), (83, .goto 4, 87), (86, .iconst 0, 0), (87, .ireturn, 0)] := rfl
theorem at_X5_isStartOf_40 : mm_at 40 kdX5_isStartOf = [(40, .iconst 0, 0), (41, .ireturn, 0), (42, .iload_n 3, 0), (43, .iconst 2, 0), (44, .if_icmp .ne 42, 86), (47, .aload_n 0, 0), (48, .iload_n 1, 0), (49, .iload_n 2, 0), (50, .invokevirtual 68, 0), (53, .ifCond .eq 33, 86), (56, .aload_n 0, 0), (57, .getfield 60, 0), (60, .ifCond .eq 22, 82), (63, .aload_n 0, 0), (64, .iload_n 1, 0), (65, .iload_n 2, 0), (66, .iconst 1, 0), (67, .invokevirtual 64, 0), (70, .aload_n 0, 0), (71, .iload_n 1, 0), (72, .iload_n 2, 0), (73, .iconst 2, 0), (74, .invokevirtual 64, 0), (77, .iconst 1, 0), (78, .iadd, 0), (79, .if_icmp .ne 7, 86), (82, .iconst 1, 0), (83, .goto 4, 87), (86, .iconst 0, 0), (87, .ireturn, 0)] := rfl
theorem at_X5_isStartOf_41 : mm_at 41 kdX5_isStartOf = [(41, .ireturn, 0), (42, .iload_n 3, 0), (43, .iconst 2, 0), (44, .if_icmp .ne 42, 86), (47, .aload_n 0, 0), (48, .iload_n 1, 0), (49, .iload_n 2, 0), (50, .invokevirtual 68, 0), (53, .ifCond .eq 33, 86), (56, .aload_n 0, 0), (57, .getfield 60, 0), (60, .ifCond .eq 22, 82), (63, .aload_n 0, 0), (64, .iload_n 1, 0), (65, .iload_n 2, 0), (66, .iconst 1, 0), (67, .invokevirtual 64, 0), (70, .aload_n 0, 0), (71, .iload_n 1, 0), (72, .iload_n 2, 0), (73, .iconst 2, 0), (74, .invokevirtual 64, 0), (77, .iconst 1, 0), (78, .iadd, 0), (79, .if_icmp .ne 7, 86), (82, .iconst 1, 0), (83, .goto 4, 87), (86, .iconst 0, 0), (87, .ireturn, 0)] := rfl
theorem at_X5_isStartOf_42 : mm_at 42 kdX5_isStartOf = [(42, .iload_n 3, 0), (43, .iconst 2, 0), (44, .if_icmp .ne 42, 86), (47, .aload_n 0, 0), (48, .iload_n 1, 0), (49, .iload_n 2, 0), (50, .invokevirtual 68, 0), (53, .ifCond .eq 33, 86), (56, .aload_n 0, 0), (57, .getfield 60, 0), (60, .ifCond .eq 22, 82), (63, .aload_n 0, 0), (64, .iload_n 1, 0), (65, .iload_n 2, 0), (66, .iconst 1, 0), (67, .invokevirtual 64, 0), (70, .aload_n 0, 0), (71, .iload_n 1, 0), (72, .iload_n 2, 0), (73, .iconst 2, 0), (74, .invokevirtual 64, 0), (77, .iconst 1, 0), (78, .iadd, 0), (79, .if_icmp .ne 7, 86), (82, .iconst 1, 0), (83, .goto 4, 87), (86, .iconst 0, 0), (87, .ireturn, 0)] := rfl
theorem at_X5_isStartOf_82 : mm_at 82 kdX5_isStartOf = [(82, .iconst 1, 0), (83, .goto 4, 87), (86, .iconst 0, 0), (87, .ireturn, 0)] := rfl
theorem at_X5_isStartOf_86 : mm_at 86 kdX5_isStartOf = [(86, .iconst 0, 0), (87, .ireturn, 0)] := rfl
theorem at_X5_isStartOf_87 : mm_at 87 kdX5_isStartOf = [(87, .ireturn, 0)] := rfl
def sp_X5_isStartOf : mm_S := fun av M d Q => match av with
  | [.inr (.inr (.inl o)), .inl S, .inl c] =>  o = 17 ∧ tX M ∧ (0 ≤ S ∧ S < 1073741824) ∧ (∀ k, bt S k = 1 → k < (M 17 1).toNat) ∧ InI c ∧ ∀ r, (ST (M 18) (M 19) (M 17 1).toNat (M 17 4) S c → r = 1) ∧ (¬ ST (M 18) (M 19) (M 17 1).toNat (M 17 4) S c → r = 0) → Q (.inl (some (mm_I r))) M d
  | _ => False
def ct_X5_isStartOf : List (Nat × mm_Ca) := [(71, (0, 2, 14, sp_X5_hang, 0)), (75, (0, 2, 14, sp_X5_oddOf, 0)), (64, (0, 4, 14, sp_X5_waysOf, 0)), (68, (0, 3, 14, sp_X5_isOdd, 0))]
abbrev rr_X5_isStartOf (Q : mm_Q) := mm_run (mm_look flX5) (mm_look ct_X5_isStartOf) mm_x0 (mm_look ([] : List (Nat × Int))) (fun _ => none) 2 0 (fun _ _ => none) Q kdX5_isStartOf
set_option maxRecDepth 20000 in
theorem rn_X5_isStartOf : mm_RN flX5 ct_X5_isStartOf mm_x0 [] 2 0 4 kdX5_isStartOf sp_X5_isStartOf := by
  intro av M d Q h
  unfold sp_X5_isStartOf at h
  split at h
  · rename_i o S c
    obtain ⟨rfl, ht, hS, hsub, hc, hq⟩ := h
    have t4 := ht.2.2.1
    have b5 := oc_le (M 18) S c (M 17 1).toNat
    have b6 := oc_le (M 19) S c (M 17 1).toNat
    have hy : ST (M 18) (M 19) (M 17 1).toNat (M 17 4) S c → Q (.inl (some (mm_I 1))) M d := fun h2 => hq 1 ⟨fun _ => rfl, fun h3 => absurd h2 h3⟩
    have hn : ¬ ST (M 18) (M 19) (M 17 1).toNat (M 17 4) S c → Q (.inl (some (mm_I 0))) M d := fun h2 => hq 0 ⟨fun h3 => absurd h3 h2, fun _ => rfl⟩
    obtain ⟨K, hK, hK2⟩ : ∃ K : Nat → mm_K, (∀ t ls st M d u, K t ls st M d u → rr_X5_isStartOf Q t ls st M d u) ∧ (∀ t ls st M d u, rr_X5_isStartOf Q t ls st M d u → K t ls st M d u) := ⟨rr_X5_isStartOf Q, fun _ _ _ _ _ _ h => h, fun _ _ _ _ _ _ h => h⟩
    have k22 : ∀ r, S ≠ 0 → HG (M 18) (M 19) (M 17 1).toNat S → r = odn (M 18) (M 19) (M 17 1).toNat (M 17 4) S 10 → InI r → K 22 [some (mm_R 17), some (mm_I S), some (mm_I c), some (mm_I r)] [] M d 0 := by
      intro r h0 hH hr hI
      have hST : ST (M 18) (M 19) (M 17 1).toNat (M 17 4) S c ↔ ((r = 0 ∧ 0 < oc (M 18) S c (M 17 1).toNat + oc (M 19) S c (M 17 1).toNat) ∨
        (r = 2 ∧ ((M 17 4 = 0 ∧ (oc (M 18) S c (M 17 1).toNat + oc (M 19) S c (M 17 1).toNat) % 2 = 1) ∨ (M 17 4 ≠ 0 ∧ oc (M 18) S c (M 17 1).toNat = oc (M 19) S c (M 17 1).toNat + 1)))) := by
        unfold ST
        rw [← hr]
        constructor
        · rintro (h9 | h9)
          · exact absurd h9 h0
          · exact h9.2
        · exact fun h9 => Or.inr ⟨hH, h9⟩
      refine hK2 _ _ _ _ _ _ ?_
      refine mm_run_at (stop := []) (S := K) kkX5_isStartOf 90 ?_ (fun _ _ _ _ _ _ _ h => hK _ _ _ _ _ _ h)
      repeat' (first | with_reducible assumption | with_reducible exact mm_i17 | with_reducible exact mm_i18 | with_reducible exact mm_i19 | with_reducible exact mm_i20 | with_reducible exact mm_i21 | with_reducible exact mm_i22 | ((with_reducible show mm_rv _ _ _ _ _); first | exact True.intro | exact mm_i17 | exact mm_i18 | exact mm_i19 | exact mm_i20 | exact mm_i21 | exact mm_i22) | ((with_reducible show mm_bool _ _); first | exact True.intro | exact Or.inl rfl | exact Or.inr rfl | (show (_ : Int) = 0 ∨ _ = 1)) | refine And.intro ?_ ?_ | intro _ | with_reducible exact True.intro | exact rfl | with_reducible exact Or.inl rfl | with_reducible exact Or.inr rfl | exact Nat.le_of_ble_eq_true rfl)
      all_goals (try simp (disch := omega) only [InI, Int.toNat_natCast, Int.tmod_eq_emod_of_nonneg, Int.tdiv_eq_ediv_of_nonneg, true_implies, true_or, or_true, mm_l18, mm_l19, mm_l20, mm_l21, mm_l22] at *)
      all_goals first | omega | (refine hy (hST.mpr ?_); omega) | (refine hn (fun h9 => ?_); rw [hST] at h9; omega) | skip
    have k10 : HG (M 18) (M 19) (M 17 1).toNat S → K 10 [some (mm_R 17), some (mm_I S), some (mm_I c), none] [] M d 0 := by
      intro hH
      have h9 : S = 0 → ST (M 18) (M 19) (M 17 1).toNat (M 17 4) S c := fun h => Or.inl h
      refine hK2 _ _ _ _ _ _ ?_
      refine mm_run_at (stop := [22]) (S := K) kkX5_isStartOf 90 ?_ (fun _ _ _ _ _ _ _ h => hK _ _ _ _ _ _ h)
      repeat' (first | with_reducible assumption | with_reducible exact mm_i17 | with_reducible exact mm_i18 | with_reducible exact mm_i19 | with_reducible exact mm_i20 | with_reducible exact mm_i21 | with_reducible exact mm_i22 | ((with_reducible show mm_rv _ _ _ _ _); first | exact True.intro | exact mm_i17 | exact mm_i18 | exact mm_i19 | exact mm_i20 | exact mm_i21 | exact mm_i22) | ((with_reducible show mm_bool _ _); first | exact True.intro | exact Or.inl rfl | exact Or.inr rfl | (show (_ : Int) = 0 ∨ _ = 1)) | refine And.intro ?_ ?_ | intro _ | with_reducible exact True.intro | exact rfl | with_reducible exact Or.inl rfl | with_reducible exact Or.inr rfl | exact Nat.le_of_ble_eq_true rfl)
      all_goals (try simp (disch := omega) only [InI, Int.toNat_natCast, Int.tmod_eq_emod_of_nonneg, Int.tdiv_eq_ediv_of_nonneg, true_implies, true_or, or_true, mm_l18, mm_l19, mm_l20, mm_l21, mm_l22] at *)
      all_goals first | omega | exact hy (h9 (by omega)) | exact k22 _ (by omega) hH (by assumption) ⟨by omega, by omega⟩ | (rename_i h; exact k22 _ (by omega) hH h.1 ⟨by omega, by omega⟩) | skip
    refine ⟨Nat.le_of_ble_eq_true rfl, ?_⟩
    refine mm_run_at (stop := [10]) (S := K) kkX5_isStartOf 90 ?_ (fun _ _ _ _ _ _ _ h => hK _ _ _ _ _ _ h)
    refine mm_c5 rfl (Nat.le_of_ble_eq_true rfl) (by exact mm_i17) (Nat.le_of_ble_eq_true rfl) (Nat.le_of_ble_eq_true rfl) (mm_a5 rfl ht hS hsub (fun r hr => ?_))
    rcases Classical.em (HG (M 18) (M 19) (M 17 1).toNat S) with hH | hH
    · have e := hr.1 hH
      subst e
      exact mm_a3 ⟨by omega, by omega⟩ (fun _ => k10 hH) (fun h => by omega)
    · have e := hr.2 hH
      subst e
      refine mm_a3 ⟨by omega, by omega⟩ (fun h => by omega) (fun h => mm_a3 (Or.inl rfl) (Nat.le_refl _) (hn (fun h9 => ?_)))
      rcases h9 with h9 | h9
      · refine hH (fun P _ ⟨k, hk, hb, _⟩ => ?_)
        rw [h9, bt_0] at hb
        omega
      · exact hH h9.1
  · exact h.elim
theorem me_X5_isStartOf {l : Launch} (hl : l.stackTraces = false) : mm_Met l yX5_isStartOf cX5_isStartOf 4 (some .boolean) [] 10 192 0 sp_X5_isStartOf := mm_mt hl rn_X5_isStartOf ⟨plX5, rfl⟩ kkX5_isStartOf rfl ⟨Nat.le_of_ble_eq_true rfl, Nat.le_of_ble_eq_true rfl⟩ flkX5 (fun _ h => nomatch h) (⟨mm_pe (me_X5_hang hl) mwX5_hang (mm_t7 0 rfl rfl) (Nat.le_of_ble_eq_true rfl) (Nat.le_of_ble_eq_true rfl), mm_pe (me_X5_oddOf hl) mwX5_oddOf (mm_t6 228 rfl rfl) (Nat.le_of_ble_eq_true rfl) (Nat.le_of_ble_eq_true rfl), mm_pe (me_X5_waysOf hl) mwX5_waysOf (mm_t6 217 rfl rfl) (Nat.le_of_ble_eq_true rfl) (Nat.le_of_ble_eq_true rfl), mm_pe (me_X5_isOdd hl) mwX5_isOdd (mm_t6 232 rfl rfl) (Nat.le_of_ble_eq_true rfl) (Nat.le_of_ble_eq_true rfl), trivial⟩) (mm_xe0 _) n9X5
def sp_X5_leastStart : mm_S := fun av M d Q => match av with
  | [.inr (.inr (.inl o))] =>  o = 17 ∧ tX M ∧ ∀ r, ((r = -1 ∧ ∀ c : Nat, c < 10 → ¬ ST (M 18) (M 19) (M 17 1).toNat (M 17 4) (2 ^ (M 17 1).toNat - 1) c) ∨ (0 ≤ r ∧ r < 10 ∧ ST (M 18) (M 19) (M 17 1).toNat (M 17 4) (2 ^ (M 17 1).toNat - 1) r ∧ ∀ c : Nat, c < r → ¬ ST (M 18) (M 19) (M 17 1).toNat (M 17 4) (2 ^ (M 17 1).toNat - 1) c)) → Q (.inl (some (mm_I r))) M d
  | _ => False
def ct_X5_leastStart : List (Nat × mm_Ca) := [(79, (0, 1, 14, sp_X5_all, 0)), (83, (0, 3, 14, sp_X5_isStartOf, 0))]
abbrev rr_X5_leastStart (Q : mm_Q) := mm_run (mm_look flX5) (mm_look ct_X5_leastStart) mm_x0 (mm_look ([] : List (Nat × Int))) (fun _ => none) 1 0 (fun _ _ => none) Q kdX5_leastStart
set_option maxRecDepth 20000 in
theorem lp_X5_leastStart {M : mm_M} {d : List Nat} {Q : mm_Q} (ht : tX M) (hq : ∀ r, ((r = -1 ∧ ∀ c : Nat, c < 10 → ¬ ST (M 18) (M 19) (M 17 1).toNat (M 17 4) (2 ^ (M 17 1).toNat - 1) c) ∨ (0 ≤ r ∧ r < 10 ∧ ST (M 18) (M 19) (M 17 1).toNat (M 17 4) (2 ^ (M 17 1).toNat - 1) r ∧ ∀ c : Nat, c < r → ¬ ST (M 18) (M 19) (M 17 1).toNat (M 17 4) (2 ^ (M 17 1).toNat - 1) c)) → Q (.inl (some (mm_I r))) M d) : ∀ (k i : Nat), i + k = 10 → (∀ c : Nat, c < i → ¬ ST (M 18) (M 19) (M 17 1).toNat (M 17 4) (2 ^ (M 17 1).toNat - 1) c) → rr_X5_leastStart Q 2 [some (mm_R 17), some (mm_I i)] [] M d 0 := by
  intro k
  induction k with
  | zero =>
    intro i hi h1
    have hz := hq (-1) (Or.inl ⟨rfl, fun c hc => h1 c (by omega)⟩)
    obtain ⟨K, hK, hK2⟩ : ∃ K : Nat → mm_K, (∀ t ls st M d u, K t ls st M d u → rr_X5_leastStart Q t ls st M d u) ∧ (∀ t ls st M d u, rr_X5_leastStart Q t ls st M d u → K t ls st M d u) := ⟨rr_X5_leastStart Q, fun _ _ _ _ _ _ h => h, fun _ _ _ _ _ _ h => h⟩
    refine mm_run_at (stop := [8]) (S := K) kkX5_leastStart 90 ?_ (fun _ _ _ _ _ _ _ h => hK _ _ _ _ _ _ h)
    repeat' (first | with_reducible assumption | with_reducible exact mm_i17 | with_reducible exact mm_i18 | with_reducible exact mm_i19 | with_reducible exact mm_i20 | with_reducible exact mm_i21 | with_reducible exact mm_i22 | ((with_reducible show mm_rv _ _ _ _ _); first | exact True.intro | exact mm_i17 | exact mm_i18 | exact mm_i19 | exact mm_i20 | exact mm_i21 | exact mm_i22) | ((with_reducible show mm_bool _ _); first | exact True.intro | exact Or.inl rfl | exact Or.inr rfl | (show (_ : Int) = 0 ∨ _ = 1)) | refine And.intro ?_ ?_ | intro _ | with_reducible exact True.intro | exact rfl | with_reducible exact Or.inl rfl | with_reducible exact Or.inr rfl | exact Nat.le_of_ble_eq_true rfl)
    all_goals (try simp (disch := omega) only [InI, Int.toNat_natCast, Int.tmod_eq_emod_of_nonneg, Int.tdiv_eq_ediv_of_nonneg, true_implies, true_or, or_true, mm_l18, mm_l19, mm_l20, mm_l21, mm_l22] at *)
    all_goals first | omega | exact hz | skip
  | succ k ih =>
    intro i hi h1
    obtain ⟨K, hK, hK2⟩ : ∃ K : Nat → mm_K, (∀ t ls st M d u, K t ls st M d u → rr_X5_leastStart Q t ls st M d u) ∧ (∀ t ls st M d u, rr_X5_leastStart Q t ls st M d u → K t ls st M d u) := ⟨rr_X5_leastStart Q, fun _ _ _ _ _ _ h => h, fun _ _ _ _ _ _ h => h⟩
    have st : ¬ ST (M 18) (M 19) (M 17 1).toNat (M 17 4) (2 ^ (M 17 1).toNat - 1) i → K 2 [some (mm_R 17), some (mm_I ((i : Int) + 1))] [] M d 0 := fun h => hK2 _ _ _ _ _ _ (ih (i + 1) (by omega) (fun c hc => by
      by_cases e : c = i
      · subst e; exact h
      · exact h1 c (by omega)))
    have hz : ST (M 18) (M 19) (M 17 1).toNat (M 17 4) (2 ^ (M 17 1).toNat - 1) i → Q (.inl (some (mm_I i))) M d := fun h => hq i (Or.inr ⟨by omega, by omega, h, fun c hc => h1 c (by omega)⟩)
    have hs := all_sub (n := (M 17 1).toNat)
    have k17 : ∀ r, (ST (M 18) (M 19) (M 17 1).toNat (M 17 4) (2 ^ (M 17 1).toNat - 1) i → r = 1) ∧ (¬ ST (M 18) (M 19) (M 17 1).toNat (M 17 4) (2 ^ (M 17 1).toNat - 1) i → r = 0) → K 17 [some (mm_R 17), some (mm_I i)] [mm_I r] M d 0 := by
      intro r hr
      rcases Classical.em (ST (M 18) (M 19) (M 17 1).toNat (M 17 4) (2 ^ (M 17 1).toNat - 1) i) with h | h
      · have e := hr.1 h
        subst e
        have hz := hz h
        refine hK2 _ _ _ _ _ _ ?_
        refine mm_run_at (stop := [2, 22]) (S := K) kkX5_leastStart 90 ?_ (fun _ _ _ _ _ _ _ h => hK _ _ _ _ _ _ h)
        repeat' (first | with_reducible assumption | with_reducible exact mm_i17 | with_reducible exact mm_i18 | with_reducible exact mm_i19 | with_reducible exact mm_i20 | with_reducible exact mm_i21 | with_reducible exact mm_i22 | ((with_reducible show mm_rv _ _ _ _ _); first | exact True.intro | exact mm_i17 | exact mm_i18 | exact mm_i19 | exact mm_i20 | exact mm_i21 | exact mm_i22) | ((with_reducible show mm_bool _ _); first | exact True.intro | exact Or.inl rfl | exact Or.inr rfl | (show (_ : Int) = 0 ∨ _ = 1)) | refine And.intro ?_ ?_ | intro _ | with_reducible exact True.intro | exact rfl | with_reducible exact Or.inl rfl | with_reducible exact Or.inr rfl | exact Nat.le_of_ble_eq_true rfl)
        all_goals (try simp (disch := omega) only [InI, Int.toNat_natCast, Int.tmod_eq_emod_of_nonneg, Int.tdiv_eq_ediv_of_nonneg, true_implies, true_or, or_true, mm_l18, mm_l19, mm_l20, mm_l21, mm_l22] at *)
        all_goals first | omega | exact hz | skip
      · have e := hr.2 h
        subst e
        have st := st h
        refine hK2 _ _ _ _ _ _ ?_
        refine mm_run_at (stop := [2]) (S := K) kkX5_leastStart 90 ?_ (fun _ _ _ _ _ _ _ h => hK _ _ _ _ _ _ h)
        repeat' (first | with_reducible assumption | with_reducible exact mm_i17 | with_reducible exact mm_i18 | with_reducible exact mm_i19 | with_reducible exact mm_i20 | with_reducible exact mm_i21 | with_reducible exact mm_i22 | ((with_reducible show mm_rv _ _ _ _ _); first | exact True.intro | exact mm_i17 | exact mm_i18 | exact mm_i19 | exact mm_i20 | exact mm_i21 | exact mm_i22) | ((with_reducible show mm_bool _ _); first | exact True.intro | exact Or.inl rfl | exact Or.inr rfl | (show (_ : Int) = 0 ∨ _ = 1)) | refine And.intro ?_ ?_ | intro _ | with_reducible exact True.intro | exact rfl | with_reducible exact Or.inl rfl | with_reducible exact Or.inr rfl | exact Nat.le_of_ble_eq_true rfl)
        all_goals (try simp (disch := omega) only [InI, Int.toNat_natCast, Int.tmod_eq_emod_of_nonneg, Int.tdiv_eq_ediv_of_nonneg, true_implies, true_or, or_true, mm_l18, mm_l19, mm_l20, mm_l21, mm_l22] at *)
        all_goals first | omega | exact st | skip
    refine mm_run_at (stop := [2, 17, 28]) (S := K) kkX5_leastStart 90 ?_ (fun _ _ _ _ _ _ _ h => hK _ _ _ _ _ _ h)
    refine And.intro ⟨by omega, by omega⟩ (And.intro ⟨by omega, by omega⟩ (And.intro ⟨by omega, by omega⟩ (And.intro (fun h => by omega) (fun _ => ?_))))
    refine mm_c5 rfl (Nat.le_of_ble_eq_true rfl) (by exact mm_i17) (Nat.le_of_ble_eq_true rfl) (Nat.le_of_ble_eq_true rfl) (mm_a3 rfl ht (fun r hr => ?_))
    refine mm_c5 rfl (Nat.le_of_ble_eq_true rfl) (by exact mm_i17) (Nat.le_of_ble_eq_true rfl) (Nat.le_of_ble_eq_true rfl) (mm_a6 rfl ht hr.2 (by rw [hr.1]; exact hs) ⟨by omega, by omega⟩ (fun r2 hr2 => k17 r2 (by rw [← hr.1]; exact hr2)))
set_option maxRecDepth 20000 in
theorem rn_X5_leastStart : mm_RN flX5 ct_X5_leastStart mm_x0 [] 1 0 2 kdX5_leastStart sp_X5_leastStart := by
  intro av M d Q h
  unfold sp_X5_leastStart at h
  split at h
  · rename_i o
    obtain ⟨rfl, ht, hq⟩ := h
    have h1 := lp_X5_leastStart (d := d) ht hq 10 0 (by omega) (fun c hc => by omega)
    obtain ⟨K, hK, hK2⟩ : ∃ K : Nat → mm_K, (∀ t ls st M d u, K t ls st M d u → rr_X5_leastStart Q t ls st M d u) ∧ (∀ t ls st M d u, rr_X5_leastStart Q t ls st M d u → K t ls st M d u) := ⟨rr_X5_leastStart Q, fun _ _ _ _ _ _ h => h, fun _ _ _ _ _ _ h => h⟩
    refine ⟨Nat.le_of_ble_eq_true rfl, mm_run_at (stop := [2]) (S := K) kkX5_leastStart 90 ?_ (fun _ _ _ _ _ _ _ h => hK _ _ _ _ _ _ h)⟩
    have h1 := hK2 _ _ _ _ _ _ h1
    repeat' (first | with_reducible assumption | with_reducible exact mm_i17 | with_reducible exact mm_i18 | with_reducible exact mm_i19 | with_reducible exact mm_i20 | with_reducible exact mm_i21 | with_reducible exact mm_i22 | ((with_reducible show mm_rv _ _ _ _ _); first | exact True.intro | exact mm_i17 | exact mm_i18 | exact mm_i19 | exact mm_i20 | exact mm_i21 | exact mm_i22) | ((with_reducible show mm_bool _ _); first | exact True.intro | exact Or.inl rfl | exact Or.inr rfl | (show (_ : Int) = 0 ∨ _ = 1)) | refine And.intro ?_ ?_ | intro _ | with_reducible exact True.intro | exact rfl | with_reducible exact Or.inl rfl | with_reducible exact Or.inr rfl | exact Nat.le_of_ble_eq_true rfl)
    exact h1
  · exact h.elim
theorem me_X5_leastStart {l : Launch} (hl : l.stackTraces = false) : mm_Met l yX5_leastStart cX5_leastStart 2 (some .int) [] 11 215 0 sp_X5_leastStart := mm_mt hl rn_X5_leastStart ⟨plX5, rfl⟩ kkX5_leastStart rfl ⟨Nat.le_of_ble_eq_true rfl, Nat.le_of_ble_eq_true rfl⟩ flkX5 (fun _ h => nomatch h) (⟨mm_pe (me_X5_all hl) mwX5_all (mm_t6 213 rfl rfl) (Nat.le_of_ble_eq_true rfl) (Nat.le_of_ble_eq_true rfl), mm_pe (me_X5_isStartOf hl) mwX5_isStartOf (mm_t7 16 rfl rfl) (Nat.le_of_ble_eq_true rfl) (Nat.le_of_ble_eq_true rfl), trivial⟩) (mm_xe0 _) n9X5
def sp_X5_kindOf : mm_S := fun av M d Q => match av with
  | [.inr (.inr (.inl o))] =>  o = 17 ∧ tX M ∧ ∀ r, kdR (M 18) (M 19) (M 17 1).toNat (M 17 4) r → Q (.inl (some (mm_I r))) M d
  | _ => False
def ct_X5_kindOf : List (Nat × mm_Ca) := [(79, (0, 1, 14, sp_X5_all, 0)), (71, (0, 2, 14, sp_X5_hang, 0)), (75, (0, 2, 14, sp_X5_oddOf, 0)), (86, (0, 1, 14, sp_X5_leastStart, 0)), (56, (1, 1, 0, sp_X5_one, 0))]
abbrev rr_X5_kindOf (Q : mm_Q) := mm_run (mm_look flX5) (mm_look ct_X5_kindOf) mm_x0 (mm_look ([] : List (Nat × Int))) (fun _ => none) 1 0 (fun _ _ => none) Q kdX5_kindOf
set_option maxRecDepth 20000 in
theorem rn_X5_kindOf : mm_RN flX5 ct_X5_kindOf mm_x0 [] 1 0 1 kdX5_kindOf sp_X5_kindOf := by
  intro av M d Q h
  unfold sp_X5_kindOf at h
  split at h
  · rename_i o
    obtain ⟨rfl, ht, hq⟩ := h
    have hs := all_sub (n := (M 17 1).toNat)
    obtain ⟨K, hK, hK2⟩ : ∃ K : Nat → mm_K, (∀ t ls st M d u, K t ls st M d u → rr_X5_kindOf Q t ls st M d u) ∧ (∀ t ls st M d u, rr_X5_kindOf Q t ls st M d u → K t ls st M d u) := ⟨rr_X5_kindOf Q, fun _ _ _ _ _ _ h => h, fun _ _ _ _ _ _ h => h⟩
    have k24 : ¬ (HG (M 18) (M 19) (M 17 1).toNat (2 ^ (M 17 1).toNat - 1) ∧ odn (M 18) (M 19) (M 17 1).toNat (M 17 4) (2 ^ (M 17 1).toNat - 1) 10 = 0) → K 24 [some (mm_R 17)] [] M d 0 := by
      intro h
      have h0 : (∀ c : Nat, c < 10 → ¬ ST (M 18) (M 19) (M 17 1).toNat (M 17 4) (2 ^ (M 17 1).toNat - 1) c) → Q (.inl (some (mm_I 0))) M d := fun h2 => hq 0 (Or.inr ⟨h, Or.inr ⟨rfl, h2⟩⟩)
      have h1 : ∀ r, 0 ≤ r ∧ r < 10 → ST (M 18) (M 19) (M 17 1).toNat (M 17 4) (2 ^ (M 17 1).toNat - 1) r → Q (.inl (some (mm_I 1))) M d := fun r hr h2 => hq 1 (Or.inr ⟨h, Or.inl ⟨rfl, r.toNat, by omega, by rw [show ((r.toNat : Nat) : Int) = r by omega]; exact h2⟩⟩)
      refine hK2 _ _ _ _ _ _ ?_
      refine mm_run_at (stop := []) (S := K) kkX5_kindOf 90 ?_ (fun _ _ _ _ _ _ _ h => hK _ _ _ _ _ _ h)
      refine mm_c5 rfl (Nat.le_of_ble_eq_true rfl) (by exact mm_i17) (Nat.le_of_ble_eq_true rfl) (Nat.le_of_ble_eq_true rfl) (mm_a3 rfl ht (fun r hr => ?_))
      rcases hr with ⟨rfl, hr⟩ | ⟨r1, r2, r3, r4⟩
      · have h0 := h0 hr
        repeat' (first | with_reducible assumption | with_reducible exact mm_i17 | with_reducible exact mm_i18 | with_reducible exact mm_i19 | with_reducible exact mm_i20 | with_reducible exact mm_i21 | with_reducible exact mm_i22 | ((with_reducible show mm_rv _ _ _ _ _); first | exact True.intro | exact mm_i17 | exact mm_i18 | exact mm_i19 | exact mm_i20 | exact mm_i21 | exact mm_i22) | ((with_reducible show mm_bool _ _); first | exact True.intro | exact Or.inl rfl | exact Or.inr rfl | (show (_ : Int) = 0 ∨ _ = 1)) | refine And.intro ?_ ?_ | intro _ | with_reducible exact True.intro | exact rfl | with_reducible exact Or.inl rfl | with_reducible exact Or.inr rfl | exact Nat.le_of_ble_eq_true rfl)
        all_goals (try simp (disch := omega) only [InI, Int.toNat_natCast, Int.tmod_eq_emod_of_nonneg, Int.tdiv_eq_ediv_of_nonneg, true_implies, true_or, or_true, mm_l18, mm_l19, mm_l20, mm_l21, mm_l22] at *)
        all_goals first | omega | exact h0 | skip
      · have h1 := h1 r ⟨r1, r2⟩ r3
        repeat' (first | with_reducible assumption | with_reducible exact mm_i17 | with_reducible exact mm_i18 | with_reducible exact mm_i19 | with_reducible exact mm_i20 | with_reducible exact mm_i21 | with_reducible exact mm_i22 | ((with_reducible show mm_rv _ _ _ _ _); first | exact True.intro | exact mm_i17 | exact mm_i18 | exact mm_i19 | exact mm_i20 | exact mm_i21 | exact mm_i22) | ((with_reducible show mm_bool _ _); first | exact True.intro | exact Or.inl rfl | exact Or.inr rfl | (show (_ : Int) = 0 ∨ _ = 1)) | refine And.intro ?_ ?_ | intro _ | with_reducible exact True.intro | exact rfl | with_reducible exact Or.inl rfl | with_reducible exact Or.inr rfl | exact Nat.le_of_ble_eq_true rfl)
        all_goals (try simp (disch := omega) only [InI, Int.toNat_natCast, Int.tmod_eq_emod_of_nonneg, Int.tdiv_eq_ediv_of_nonneg, true_implies, true_or, or_true, mm_l18, mm_l19, mm_l20, mm_l21, mm_l22] at *)
        all_goals first | omega | exact h1 | skip
    have k8 : ∀ r, (HG (M 18) (M 19) (M 17 1).toNat (2 ^ (M 17 1).toNat - 1) → r = 1) ∧ (¬ HG (M 18) (M 19) (M 17 1).toNat (2 ^ (M 17 1).toNat - 1) → r = 0) → K 8 [some (mm_R 17)] [mm_I r] M d 0 := by
      intro r hr
      refine hK2 _ _ _ _ _ _ ?_
      rcases Classical.em (HG (M 18) (M 19) (M 17 1).toNat (2 ^ (M 17 1).toNat - 1)) with h | h
      · have e := hr.1 h
        subst e
        refine mm_run_at (stop := [24]) (S := K) kkX5_kindOf 90 ?_ (fun _ _ _ _ _ _ _ h => hK _ _ _ _ _ _ h)
        refine And.intro ⟨by omega, by omega⟩ (And.intro (fun h => by omega) (fun _ => ?_))
        refine mm_c5 rfl (Nat.le_of_ble_eq_true rfl) (by exact mm_i17) (Nat.le_of_ble_eq_true rfl) (Nat.le_of_ble_eq_true rfl) (mm_a3 rfl ht (fun r2 hr2 => ?_))
        refine mm_c5 rfl (Nat.le_of_ble_eq_true rfl) (by exact mm_i17) (Nat.le_of_ble_eq_true rfl) (Nat.le_of_ble_eq_true rfl) (mm_a4 rfl ht hr2.2 (fun r3 hr3 => ?_))
        rw [hr2.1] at hr3
        refine And.intro ⟨by omega, by omega⟩ (And.intro (fun h3 => k24 (fun h4 => h3 (by omega))) (fun h3 => And.intro True.intro (And.intro (Nat.le_refl _) (hq 2 (Or.inl ⟨⟨h, by omega⟩, rfl⟩)))))
      · have e := hr.2 h
        subst e
        refine mm_run_at (stop := [24]) (S := K) kkX5_kindOf 90 ?_ (fun _ _ _ _ _ _ _ h => hK _ _ _ _ _ _ h)
        exact And.intro ⟨by omega, by omega⟩ (And.intro (fun _ => k24 (fun h2 => h h2.1)) (fun h => by omega))
    refine ⟨Nat.le_of_ble_eq_true rfl, ?_⟩
    refine mm_run_at (stop := [8]) (S := K) kkX5_kindOf 90 ?_ (fun _ _ _ _ _ _ _ h => hK _ _ _ _ _ _ h)
    refine mm_c5 rfl (Nat.le_of_ble_eq_true rfl) (by exact mm_i17) (Nat.le_of_ble_eq_true rfl) (Nat.le_of_ble_eq_true rfl) (mm_a3 rfl ht (fun r hr => ?_))
    exact mm_c5 rfl (Nat.le_of_ble_eq_true rfl) (by exact mm_i17) (Nat.le_of_ble_eq_true rfl) (Nat.le_of_ble_eq_true rfl) (mm_a5 rfl ht hr.2 (by rw [hr.1]; exact hs) (fun r2 hr2 => k8 r2 (by rw [← hr.1]; exact hr2)))
  · exact h.elim
theorem me_X5_kindOf {l : Launch} (hl : l.stackTraces = false) : mm_Met l yX5_kindOf cX5_kindOf 1 (some .int) [] 12 236 0 sp_X5_kindOf := mm_mt hl rn_X5_kindOf ⟨plX5, rfl⟩ kkX5_kindOf rfl ⟨Nat.le_of_ble_eq_true rfl, Nat.le_of_ble_eq_true rfl⟩ flkX5 (fun _ h => nomatch h) (⟨mm_pe (me_X5_all hl) mwX5_all (mm_t6 213 rfl rfl) (Nat.le_of_ble_eq_true rfl) (Nat.le_of_ble_eq_true rfl), mm_pe (me_X5_hang hl) mwX5_hang (mm_t7 0 rfl rfl) (Nat.le_of_ble_eq_true rfl) (Nat.le_of_ble_eq_true rfl), mm_pe (me_X5_oddOf hl) mwX5_oddOf (mm_t6 228 rfl rfl) (Nat.le_of_ble_eq_true rfl) (Nat.le_of_ble_eq_true rfl), mm_pe (me_X5_leastStart hl) mwX5_leastStart (mm_t7 12 rfl rfl) (Nat.le_of_ble_eq_true rfl) (Nat.le_of_ble_eq_true rfl), mm_pe (me_X5_one hl) mwX5_one (mm_t6 170 rfl rfl) (Nat.le_of_ble_eq_true rfl) (Nat.le_of_ble_eq_true rfl), trivial⟩) (mm_xe0 _) n9X5
end
section
/-! the model's walks: putting in, taking out -/
theorem mV.n {M : mm_M} {k : Nat} (h : mV M k) : 0 ≤ M 21 k ∧ M 21 k ≤ 30 := h.1
theorem stO_v {M : mm_M} {s : Int} : stO (vX M) s ↔ (0 ≤ s ∧ s < 2 * M 17 1) := Iff.rfl
def sp_X5_endOf : mm_S := fun av M d Q => match av with
  | [.inr (.inr (.inl o)), .inl k] =>  o = 17 ∧ tX M ∧ (0 ≤ k ∧ k < 4) ∧ mV M k.toNat ∧ ∀ r, r = cor (vX M) (8 + 2 * k.toNat) (vX M (8 + 2 * k.toNat) 2) ∧ 0 ≤ r ∧ r < 10 → Q (.inl (some (mm_I r))) M d
  | _ => False
def ct_X5_endOf : List (Nat × mm_Ca) := [(105, (0, 3, 14, sp_X5_cornerOf, 0))]
abbrev rr_X5_endOf (Q : mm_Q) := mm_run (mm_look flX5) (mm_look ct_X5_endOf) mm_x0 (mm_look ([] : List (Nat × Int))) (fun _ => none) 1 0 (fun _ _ => none) Q kdX5_endOf
set_option maxRecDepth 20000 in
theorem rn_X5_endOf : mm_RN flX5 ct_X5_endOf mm_x0 [] 1 0 2 kdX5_endOf sp_X5_endOf := by
  intro av M d Q h
  unfold sp_X5_endOf at h
  split at h
  · rename_i o k
    obtain ⟨rfl, ht, hk, hv, hq⟩ := h
    have v1 := hv.1
    have hq2 : ∀ r, r = corX M k.toNat (M 21 k.toNat) ∧ 0 ≤ r ∧ r < 10 → Q (.inl (some (mm_I r))) M d := fun r hr => hq r ⟨by rw [hr.1, cor_v (by omega) hv ⟨by omega, Int.le_refl _⟩, vX_n (by omega)], hr.2⟩
    obtain ⟨K, hK, hK2⟩ : ∃ K : Nat → mm_K, (∀ t ls st M d u, K t ls st M d u → rr_X5_endOf Q t ls st M d u) ∧ (∀ t ls st M d u, rr_X5_endOf Q t ls st M d u → K t ls st M d u) := ⟨rr_X5_endOf Q, fun _ _ _ _ _ _ h => h, fun _ _ _ _ _ _ h => h⟩
    refine ⟨Nat.le_of_ble_eq_true rfl, mm_run_at (stop := []) (S := K) kkX5_endOf 90 ?_ (fun _ _ _ _ _ _ _ h => hK _ _ _ _ _ _ h)⟩
    repeat' (first | with_reducible assumption | with_reducible exact mm_i17 | with_reducible exact mm_i18 | with_reducible exact mm_i19 | with_reducible exact mm_i20 | with_reducible exact mm_i21 | with_reducible exact mm_i22 | ((with_reducible show mm_rv _ _ _ _ _); first | exact True.intro | exact mm_i17 | exact mm_i18 | exact mm_i19 | exact mm_i20 | exact mm_i21 | exact mm_i22 | apply hq2) | apply hq2 | ((with_reducible show mm_bool _ _); first | exact True.intro | exact Or.inl rfl | exact Or.inr rfl | (show (_ : Int) = 0 ∨ _ = 1)) | refine And.intro ?_ ?_ | intro _ | with_reducible exact True.intro | exact rfl | with_reducible exact Or.inl rfl | with_reducible exact Or.inr rfl | exact Nat.le_of_ble_eq_true rfl)
    all_goals (try simp (disch := omega) only [InI, Int.toNat_natCast, Int.tmod_eq_emod_of_nonneg, Int.tdiv_eq_ediv_of_nonneg, true_implies, true_or, or_true, mm_l18, mm_l19, mm_l20, mm_l21, mm_l22] at *)
    all_goals first | omega | skip
  · exact h.elim
theorem me_X5_endOf {l : Launch} (hl : l.stackTraces = false) : mm_Met l yX5_endOf cX5_endOf 2 (some .int) [] 8 144 0 sp_X5_endOf := mm_mt hl rn_X5_endOf ⟨plX5, rfl⟩ kkX5_endOf rfl ⟨Nat.le_of_ble_eq_true rfl, Nat.le_of_ble_eq_true rfl⟩ flkX5 (fun _ h => nomatch h) (⟨mm_pe (me_X5_cornerOf hl) mwX5_cornerOf (mm_t6 185 rfl rfl) (Nat.le_of_ble_eq_true rfl) (Nat.le_of_ble_eq_true rfl), trivial⟩) (mm_xe0 _) n9X5
theorem at_X5_put_0 : mm_at 0 kdX5_put = [(0, .aload_n 0, 0), (1, .getfield 19, 0), (4, .iload_n 1, 0), (5, .iaload, 0), (6, .istore 4, 0), (8, .iload 4, 0), (10, .iload_n 2, 0), (11, .if_icmp .le 30, 41), (14, .aload_n 0, 0), (15, .getfield 16, 0), (18, .iload_n 1, 0), (19, .bipush 30, 0), (21, .imul, 0), (22, .iload 4, 0), (24, .iadd, 0), (25, .aload_n 0, 0), (26, .iload_n 1, 0), (27, .iload 4, 0), (29, .iconst 1, 0), (30, .isub, 0), (31, .invokevirtual 98, 0), (34, .iastore, 0), (35, .iinc 4 (-1), 0), (38, .goto (-30), 8), (41, .aload_n 0, 0), (42, .getfield 16, 0), (45, .iload_n 1, 0), (46, .bipush 30, 0), (48, .imul, 0), (49, .iload_n 2, 0), (50, .iadd, 0), (51, .iload_n 3, 0), (52, .iastore, 0), (53, .aload_n 0, 0), (54, .getfield 19, 0), (57, .iload_n 1, 0), (58, .dup2, 0), (59, .iaload, 0), (60, .iconst 1, 0), (61, .iadd, 0), (62, .iastore, 0), (63, .return_, 0)] := rfl
theorem at_X5_put_8 : mm_at 8 kdX5_put = [(8, .iload 4, 0), (10, .iload_n 2, 0), (11, .if_icmp .le 30, 41), (14, .aload_n 0, 0), (15, .getfield 16, 0), (18, .iload_n 1, 0), (19, .bipush 30, 0), (21, .imul, 0), (22, .iload 4, 0), (24, .iadd, 0), (25, .aload_n 0, 0), (26, .iload_n 1, 0), (27, .iload 4, 0), (29, .iconst 1, 0), (30, .isub, 0), (31, .invokevirtual 98, 0), (34, .iastore, 0), (35, .iinc 4 (-1), 0), (38, .goto (-30), 8), (41, .aload_n 0, 0), (42, .getfield 16, 0), (45, .iload_n 1, 0), (46, .bipush 30, 0), (48, .imul, 0), (49, .iload_n 2, 0), (50, .iadd, 0), (51, .iload_n 3, 0), (52, .iastore, 0), (53, .aload_n 0, 0), (54, .getfield 19, 0), (57, .iload_n 1, 0), (58, .dup2, 0), (59, .iaload, 0), (60, .iconst 1, 0), (61, .iadd, 0), (62, .iastore, 0), (63, .return_, 0)] := rfl
theorem at_X5_put_41 : mm_at 41 kdX5_put = [(41, .aload_n 0, 0), (42, .getfield 16, 0), (45, .iload_n 1, 0), (46, .bipush 30, 0), (48, .imul, 0), (49, .iload_n 2, 0), (50, .iadd, 0), (51, .iload_n 3, 0), (52, .iastore, 0), (53, .aload_n 0, 0), (54, .getfield 19, 0), (57, .iload_n 1, 0), (58, .dup2, 0), (59, .iaload, 0), (60, .iconst 1, 0), (61, .iadd, 0), (62, .iastore, 0), (63, .return_, 0)] := rfl
def sp_X5_put : mm_S := fun av M d Q => match av with
  | [.inr (.inr (.inl o)), .inl k, .inl p, .inl s] =>  o = 17 ∧ (0 ≤ k ∧ k < 4) ∧ mV M k.toNat ∧ M 21 k.toNat < 30 ∧ (0 ≤ p ∧ p ≤ M 21 k.toNat) ∧ stO (vX M) s ∧ ∀ M', fX M M' ∧ fr [8 + 2 * k.toNat, 8 + 2 * k.toNat + 1] (vX M) (vX M') ∧ mV M' k.toNat ∧ putR (vX M) (vX M') (8 + 2 * k.toNat) p s ∧ M' 17 = M 17 → Q (.inl none) M' d
  | _ => False
def ct_X5_put : List (Nat × mm_Ca) := [(98, (0, 3, 14, sp_X5_stepOf, 0))]
abbrev rr_X5_put (Q : mm_Q) := mm_run (mm_look flX5) (mm_look ct_X5_put) mm_x0 (mm_look ([] : List (Nat × Int))) (fun _ => none) 0 0 (fun _ _ => none) Q kdX5_put
set_option maxRecDepth 20000 in
theorem lp_X5_put {M0 : mm_M} {d : List Nat} {Q : mm_Q} {k n p : Nat} {s : Int} (hk : k < 4) (hn : M0 21 k = n) (hn3 : n < 30) (hq : ∀ M', fX M0 M' ∧ fr [8 + 2 * k, 8 + 2 * k + 1] (vX M0) (vX M') ∧ putR (vX M0) (vX M') (8 + 2 * k) p s ∧ M' 17 = M0 17 → Q (.inl none) M' d) : ∀ (j i : Nat) (M : mm_M), i = j + p → i ≤ n → fX M0 M → M 17 = M0 17 → fr [8 + 2 * k + 1] (vX M0) (vX M) → (∀ j : Nat, j ≤ i → vX M (8 + 2 * k + 1) j = vX M0 (8 + 2 * k + 1) j) → (∀ j : Nat, i < j → j ≤ n → vX M (8 + 2 * k + 1) j = vX M0 (8 + 2 * k + 1) (j - 1)) → rr_X5_put Q 8 [some (mm_R 17), some (mm_I k), some (mm_I p), some (mm_I s), some (mm_I i)] [] M d 0 := by
  have e0 : vX M0 (8 + 2 * k) 2 = n := by rw [vX_n hk]; exact hn
  intro j
  induction j with
  | zero =>
    intro i M hi hin hx h17 hf h1 h2
    obtain ⟨K, hK, hK2⟩ : ∃ K : Nat → mm_K, (∀ t ls st M d u, K t ls st M d u → rr_X5_put Q t ls st M d u) ∧ (∀ t ls st M d u, rr_X5_put Q t ls st M d u → K t ls st M d u) := ⟨rr_X5_put Q, fun _ _ _ _ _ _ h => h, fun _ _ _ _ _ _ h => h⟩
    have e3 : M 21 k = n := by rw [← vX_n (M := M) hk, hf (8 + 2 * k) (by simp), e0]
    have fin : ∀ M', fX M M' → M' 17 = M 17 → vX M' = mm_up (mm_up (vX M) (8 + 2 * k + 1) p s) (8 + 2 * k) 2 (n + 1) → Q (.inl none) M' d := by
      intro M' g1 g17 g2
      refine hq M' ⟨hx.tr g1, ?_, Or.inl ⟨by rw [e0]; omega, ?_, ?_, fun j hj => ?_⟩, by rw [g17, h17]⟩
      · rw [g2]
        exact ((hf.mono (by simp)).up (by simp)).up (by simp)
      · rw [g2, e0]
        simp [mm_up]
      · rw [g2]
        simp [mm_up]
        rw [hf (8 + 2 * k) (by simp)]
      · rw [e0] at hj
        rw [g2]
        refine ⟨fun h => ?_, fun h => ?_, fun h => ?_⟩
        · simp [mm_up, show j ≠ p by omega]
          exact h1 j (by omega)
        · simp [mm_up, show j = p by omega]
        · simp [mm_up, show j ≠ p by omega]
          exact h2 j (by omega) (by omega)
    refine mm_run_at (stop := [14]) (S := K) kkX5_put 90 ?_ (fun _ _ _ _ _ _ _ h => hK _ _ _ _ _ _ h)
    repeat' (first | with_reducible assumption | with_reducible exact mm_i17 | with_reducible exact mm_i18 | with_reducible exact mm_i19 | with_reducible exact mm_i20 | with_reducible exact mm_i21 | with_reducible exact mm_i22 | ((with_reducible show mm_rv _ _ _ _ _); first | exact True.intro | exact mm_i17 | exact mm_i18 | exact mm_i19 | exact mm_i20 | exact mm_i21 | exact mm_i22) | ((with_reducible show mm_bool _ _); first | exact True.intro | exact Or.inl rfl | exact Or.inr rfl | (show (_ : Int) = 0 ∨ _ = 1)) | refine And.intro ?_ ?_ | intro _ | with_reducible exact True.intro | exact rfl | with_reducible exact Or.inl rfl | with_reducible exact Or.inr rfl | exact Nat.le_of_ble_eq_true rfl)
    all_goals (try simp (disch := omega) only [InI, Int.toNat_natCast, Int.tmod_eq_emod_of_nonneg, Int.tdiv_eq_ediv_of_nonneg, true_implies, true_or, or_true, mm_l18, mm_l19, mm_l20, mm_l21, mm_l22] at *)
    all_goals first | omega | exact fin _ ((fX.rf.up (by omega)).up (by omega)) (by rw [mm_up_o _ (by omega), mm_up_o _ (by omega)]) (by rw [vX_e21 (k := k) (y := (n : Int) + 1) hk rfl (by rw [mm_up_ob (by omega), e3]), vX_e20 (k := k) (i := p) hk (by omega) (by omega) rfl]) | skip
  | succ j ih =>
    intro i M hi hin hx h17 hf h1 h2
    obtain ⟨i, rfl⟩ : ∃ j, i = j + 1 := ⟨i - 1, by omega⟩
    obtain ⟨K, hK, hK2⟩ : ∃ K : Nat → mm_K, (∀ t ls st M d u, K t ls st M d u → rr_X5_put Q t ls st M d u) ∧ (∀ t ls st M d u, rr_X5_put Q t ls st M d u → K t ls st M d u) := ⟨rr_X5_put Q, fun _ _ _ _ _ _ h => h, fun _ _ _ _ _ _ h => h⟩
    have step : ∀ M', fX M M' → M' 17 = M 17 → vX M' = mm_up (vX M) (8 + 2 * k + 1) (i + 1) (vX M (8 + 2 * k + 1) i) → K 8 [some (mm_R 17), some (mm_I k), some (mm_I p), some (mm_I s), some (mm_I i)] [] M' d 0 := by
      intro M' g1 g17 g2
      refine hK2 _ _ _ _ _ _ (ih i M' (by omega) (by omega) (hx.tr g1) (by rw [g17, h17]) (by rw [g2]; exact hf.up (by simp)) (fun j hj => ?_) (fun j hj hj2 => ?_))
      · rw [g2]
        simp [mm_up, show j ≠ i + 1 by omega]
        exact h1 j (by omega)
      · rw [g2]
        by_cases e : j = i + 1
        · subst e
          simp [mm_up]
          exact h1 i (by omega)
        · simp [mm_up, e]
          exact h2 j (by omega) hj2
    refine mm_run_at (stop := [8, 41]) (S := K) kkX5_put 90 ?_ (fun _ _ _ _ _ _ _ h => hK _ _ _ _ _ _ h)
    repeat' (first | with_reducible assumption | with_reducible exact mm_i17 | with_reducible exact mm_i18 | with_reducible exact mm_i19 | with_reducible exact mm_i20 | with_reducible exact mm_i21 | with_reducible exact mm_i22 | ((with_reducible show mm_rv _ _ _ _ _); first | exact True.intro | exact mm_i17 | exact mm_i18 | exact mm_i19 | exact mm_i20 | exact mm_i21 | exact mm_i22) | ((with_reducible show mm_bool _ _); first | exact True.intro | exact Or.inl rfl | exact Or.inr rfl | (show (_ : Int) = 0 ∨ _ = 1)) | refine And.intro ?_ ?_ | intro _ | with_reducible exact True.intro | exact rfl | with_reducible exact Or.inl rfl | with_reducible exact Or.inr rfl | exact Nat.le_of_ble_eq_true rfl)
    all_goals (try simp (disch := omega) only [InI, Int.toNat_natCast, Int.tmod_eq_emod_of_nonneg, Int.tdiv_eq_ediv_of_nonneg, true_implies, true_or, or_true, mm_l18, mm_l19, mm_l20, mm_l21, mm_l22] at *)
    all_goals first | omega | (refine cast (congrArg (fun z => K 8 [some (mm_R 17), some (mm_I k), some (mm_I p), some (mm_I s), some (mm_I z)] [] _ d 0) (show (i : Int) = ((i + 1 : Nat) : Int) + -1 by omega)) (step _ (fX.rf.up (by omega)) (mm_up_o _ (by omega)) (vX_e20 hk (by omega) (by omega) (vX_r20 hk (by omega) (by omega))))) | skip
set_option maxRecDepth 20000 in
theorem rn_X5_put : mm_RN flX5 ct_X5_put mm_x0 [] 0 0 5 kdX5_put sp_X5_put := by
  intro av M d Q h
  unfold sp_X5_put at h
  split at h
  · rename_i o k p s
    obtain ⟨rfl, hk, hv, h30, hp, hs, hq⟩ := h
    have v1 := hv.1
    obtain ⟨n, hn⟩ := Int.eq_ofNat_of_zero_le v1.1
    obtain ⟨k, rfl⟩ := Int.eq_ofNat_of_zero_le hk.1
    obtain ⟨p, rfl⟩ := Int.eq_ofNat_of_zero_le hp.1
    simp only [Int.toNat_natCast] at *
    have hw := (mV_i (show k < 4 by omega)).mp hv
    have h8 := lp_X5_put (M0 := M) (d := d) (Q := Q) (k := k) (n := n) (p := p) (s := s) (by omega) hn (by omega) (fun M' h => hq M' ⟨h.1, h.2.1, (mV_i (by omega)).mpr (put_wV (isKk (by omega)) hw hs h.2.1 h.2.2.1), h.2.2.1, h.2.2.2⟩) (n - p) n M (by omega) (by omega) fX.rf rfl fr.rf (fun _ _ => rfl) (fun j a b => by omega)
    obtain ⟨K, hK, hK2⟩ : ∃ K : Nat → mm_K, (∀ t ls st M d u, K t ls st M d u → rr_X5_put Q t ls st M d u) ∧ (∀ t ls st M d u, rr_X5_put Q t ls st M d u → K t ls st M d u) := ⟨rr_X5_put Q, fun _ _ _ _ _ _ h => h, fun _ _ _ _ _ _ h => h⟩
    refine ⟨Nat.le_of_ble_eq_true rfl, mm_run_at (stop := [8]) (S := K) kkX5_put 90 ?_ (fun _ _ _ _ _ _ _ h => hK _ _ _ _ _ _ h)⟩
    have h8 := hK2 _ _ _ _ _ _ h8
    rw [← hn] at h8
    repeat' (first | with_reducible assumption | with_reducible exact mm_i17 | with_reducible exact mm_i18 | with_reducible exact mm_i19 | with_reducible exact mm_i20 | with_reducible exact mm_i21 | with_reducible exact mm_i22 | ((with_reducible show mm_rv _ _ _ _ _); first | exact True.intro | exact mm_i17 | exact mm_i18 | exact mm_i19 | exact mm_i20 | exact mm_i21 | exact mm_i22) | ((with_reducible show mm_bool _ _); first | exact True.intro | exact Or.inl rfl | exact Or.inr rfl | (show (_ : Int) = 0 ∨ _ = 1)) | refine And.intro ?_ ?_ | intro _ | with_reducible exact True.intro | exact rfl | with_reducible exact Or.inl rfl | with_reducible exact Or.inr rfl | exact Nat.le_of_ble_eq_true rfl)
    all_goals (try simp (disch := omega) only [InI, Int.toNat_natCast, Int.tmod_eq_emod_of_nonneg, Int.tdiv_eq_ediv_of_nonneg, true_implies, true_or, or_true, mm_l18, mm_l19, mm_l20, mm_l21, mm_l22] at *)
    all_goals first | omega | exact h8 | skip
  · exact h.elim
theorem me_X5_put {l : Launch} (hl : l.stackTraces = false) : mm_Met l yX5_put cX5_put 5 none [] 7 122 0 sp_X5_put := mm_mt hl rn_X5_put ⟨plX5, rfl⟩ kkX5_put rfl ⟨Nat.le_of_ble_eq_true rfl, Nat.le_of_ble_eq_true rfl⟩ flkX5 (fun _ h => nomatch h) (⟨mm_pe (me_X5_stepOf hl) mwX5_stepOf (mm_t6 158 rfl rfl) (Nat.le_of_ble_eq_true rfl) (Nat.le_of_ble_eq_true rfl), trivial⟩) (mm_xe0 _) n9X5
def sp_X5_take : mm_S := fun av M d Q => match av with
  | [.inr (.inr (.inl o)), .inl k, .inl p] =>  o = 17 ∧ (0 ≤ k ∧ k < 4) ∧ mV M k.toNat ∧ (0 ≤ p ∧ p < M 21 k.toNat) ∧ ∀ M', fX M M' ∧ fr [8 + 2 * k.toNat, 8 + 2 * k.toNat + 1] (vX M) (vX M') ∧ mV M' k.toNat ∧ takR (vX M) (vX M') (8 + 2 * k.toNat) p ∧ M' 17 = M 17 → Q (.inl (some (mm_I (vX M (8 + 2 * k.toNat + 1) p.toNat)))) M' d
  | _ => False
def ct_X5_take : List (Nat × mm_Ca) := [(98, (0, 3, 14, sp_X5_stepOf, 0))]
abbrev rr_X5_take (Q : mm_Q) := mm_run (mm_look flX5) (mm_look ct_X5_take) mm_x0 (mm_look ([] : List (Nat × Int))) (fun _ => none) 1 0 (fun _ _ => none) Q kdX5_take
set_option maxRecDepth 20000 in
theorem lp_X5_take {M0 : mm_M} {d : List Nat} {Q : mm_Q} {k n p : Nat} {s : Int} (hk : k < 4) (hn : M0 21 k = n + 1) (hn3 : n < 30) (hp : p ≤ n) (hq : ∀ M', fX M0 M' ∧ fr [8 + 2 * k, 8 + 2 * k + 1] (vX M0) (vX M') ∧ takR (vX M0) (vX M') (8 + 2 * k) p ∧ M' 17 = M0 17 → Q (.inl (some (mm_I s))) M' d) : ∀ (j i : Nat) (M : mm_M), i + j = n → p ≤ i → fX M0 M → M 17 = M0 17 → fr [8 + 2 * k, 8 + 2 * k + 1] (vX M0) (vX M) → vX M (8 + 2 * k) 2 = n → vX M (8 + 2 * k) 3 = vX M0 (8 + 2 * k) 3 → (∀ j : Nat, j < p → vX M (8 + 2 * k + 1) j = vX M0 (8 + 2 * k + 1) j) → (∀ j : Nat, p ≤ j → j < i → vX M (8 + 2 * k + 1) j = vX M0 (8 + 2 * k + 1) (j + 1)) → (∀ j : Nat, i ≤ j → vX M (8 + 2 * k + 1) j = vX M0 (8 + 2 * k + 1) j) → rr_X5_take Q 20 [some (mm_R 17), some (mm_I k), some (mm_I p), some (mm_I s), some (mm_I i)] [] M d 0 := by
  have e0 : vX M0 (8 + 2 * k) 2 = n + 1 := by rw [vX_n hk]; exact hn
  intro j
  induction j with
  | zero =>
    intro i M hi hin hx h17 hf hl hb h1 h2 h3
    obtain ⟨K, hK, hK2⟩ : ∃ K : Nat → mm_K, (∀ t ls st M d u, K t ls st M d u → rr_X5_take Q t ls st M d u) ∧ (∀ t ls st M d u, rr_X5_take Q t ls st M d u → K t ls st M d u) := ⟨rr_X5_take Q, fun _ _ _ _ _ _ h => h, fun _ _ _ _ _ _ h => h⟩
    have e3 : M 21 k = n := by rw [← vX_n (M := M) hk, hl]
    have fin : Q (.inl (some (mm_I s))) M d := hq M ⟨hx, hf, Or.inl ⟨by rw [e0]; omega, by rw [hl, e0]; omega, hb, fun j hj => ⟨fun h => h1 j (by omega), fun h => h2 j (by omega) (by rw [e0] at hj; omega)⟩⟩, h17⟩
    refine mm_run_at (stop := [31]) (S := K) kkX5_take 90 ?_ (fun _ _ _ _ _ _ _ h => hK _ _ _ _ _ _ h)
    repeat' (first | with_reducible assumption | with_reducible exact mm_i17 | with_reducible exact mm_i18 | with_reducible exact mm_i19 | with_reducible exact mm_i20 | with_reducible exact mm_i21 | with_reducible exact mm_i22 | ((with_reducible show mm_rv _ _ _ _ _); first | exact True.intro | exact mm_i17 | exact mm_i18 | exact mm_i19 | exact mm_i20 | exact mm_i21 | exact mm_i22) | ((with_reducible show mm_bool _ _); first | exact True.intro | exact Or.inl rfl | exact Or.inr rfl | (show (_ : Int) = 0 ∨ _ = 1)) | refine And.intro ?_ ?_ | intro _ | with_reducible exact True.intro | exact rfl | with_reducible exact Or.inl rfl | with_reducible exact Or.inr rfl | exact Nat.le_of_ble_eq_true rfl)
    all_goals (try simp (disch := omega) only [InI, Int.toNat_natCast, Int.tmod_eq_emod_of_nonneg, Int.tdiv_eq_ediv_of_nonneg, true_implies, true_or, or_true, mm_l18, mm_l19, mm_l20, mm_l21, mm_l22] at *)
    all_goals first | omega | exact fin | skip
  | succ j ih =>
    intro i M hi hin hx h17 hf hl hb h1 h2 h3
    obtain ⟨K, hK, hK2⟩ : ∃ K : Nat → mm_K, (∀ t ls st M d u, K t ls st M d u → rr_X5_take Q t ls st M d u) ∧ (∀ t ls st M d u, rr_X5_take Q t ls st M d u → K t ls st M d u) := ⟨rr_X5_take Q, fun _ _ _ _ _ _ h => h, fun _ _ _ _ _ _ h => h⟩
    have e3 : M 21 k = n := by rw [← vX_n (M := M) hk, hl]
    have step : ∀ M', fX M M' → M' 17 = M 17 → vX M' = mm_up (vX M) (8 + 2 * k + 1) i (vX M (8 + 2 * k + 1) (i + 1)) → K 20 [some (mm_R 17), some (mm_I k), some (mm_I p), some (mm_I s), some (mm_I ((i : Int) + 1))] [] M' d 0 := by
      intro M' g1 g17 g2
      refine hK2 _ _ _ _ _ _ (ih (i + 1) M' (by omega) (by omega) (hx.tr g1) (by rw [g17, h17]) (by rw [g2]; exact hf.up (by simp)) (by rw [g2, mm_up_ob (by omega)]; exact hl) (by rw [g2, mm_up_ob (by omega)]; exact hb) (fun j hj => ?_) (fun j hj hj2 => ?_) (fun j hj => ?_))
      · rw [g2]
        simp [mm_up, show j ≠ i by omega]
        exact h1 j (by omega)
      · rw [g2]
        by_cases e : j = i
        · subst e
          simp [mm_up]
          exact h3 (j + 1) (by omega)
        · simp [mm_up, e]
          exact h2 j (by omega) (by omega)
      · rw [g2]
        simp [mm_up, show j ≠ i by omega]
        exact h3 j (by omega)
    refine mm_run_at (stop := [20, 58]) (S := K) kkX5_take 90 ?_ (fun _ _ _ _ _ _ _ h => hK _ _ _ _ _ _ h)
    repeat' (first | with_reducible assumption | with_reducible exact mm_i17 | with_reducible exact mm_i18 | with_reducible exact mm_i19 | with_reducible exact mm_i20 | with_reducible exact mm_i21 | with_reducible exact mm_i22 | ((with_reducible show mm_rv _ _ _ _ _); first | exact True.intro | exact mm_i17 | exact mm_i18 | exact mm_i19 | exact mm_i20 | exact mm_i21 | exact mm_i22) | ((with_reducible show mm_bool _ _); first | exact True.intro | exact Or.inl rfl | exact Or.inr rfl | (show (_ : Int) = 0 ∨ _ = 1)) | refine And.intro ?_ ?_ | intro _ | with_reducible exact True.intro | exact rfl | with_reducible exact Or.inl rfl | with_reducible exact Or.inr rfl | exact Nat.le_of_ble_eq_true rfl)
    all_goals (try simp (disch := omega) only [InI, Int.toNat_natCast, Int.tmod_eq_emod_of_nonneg, Int.tdiv_eq_ediv_of_nonneg, true_implies, true_or, or_true, mm_l18, mm_l19, mm_l20, mm_l21, mm_l22] at *)
    all_goals first | omega | exact step _ (fX.rf.up (by omega)) (mm_up_o _ (by omega)) (vX_e20 hk (by omega) (by omega) (vX_r20 hk (by omega) (by omega))) | skip
set_option maxRecDepth 20000 in
theorem rn_X5_take : mm_RN flX5 ct_X5_take mm_x0 [] 1 0 5 kdX5_take sp_X5_take := by
  intro av M d Q h
  unfold sp_X5_take at h
  split at h
  · rename_i o k p
    obtain ⟨rfl, hk, hv, hp, hq⟩ := h
    have v1 := hv.1
    obtain ⟨n, hn⟩ := Int.eq_ofNat_of_zero_le (show 0 ≤ M 21 k.toNat - 1 by omega)
    obtain ⟨k, rfl⟩ := Int.eq_ofNat_of_zero_le hk.1
    obtain ⟨p, rfl⟩ := Int.eq_ofNat_of_zero_le hp.1
    simp only [Int.toNat_natCast] at *
    have hn1 : M 21 k = n + 1 := by omega
    have hw := (mV_i (show k < 4 by omega)).mp hv
    have h8 := fun s hq => lp_X5_take (M0 := M) (d := d) (Q := Q) (k := k) (n := n) (p := p) (s := s) (by omega) hn1 (by omega) (by omega) hq (n - p) p
    have e1 := vX_i (M := M) (k := k) (i := p) (by omega) (by omega)
    have eb := vX_b (M := M) (k := k) (by omega)
    obtain ⟨K, hK, hK2⟩ : ∃ K : Nat → mm_K, (∀ t ls st M d u, K t ls st M d u → rr_X5_take Q t ls st M d u) ∧ (∀ t ls st M d u, rr_X5_take Q t ls st M d u → K t ls st M d u) := ⟨rr_X5_take Q, fun _ _ _ _ _ _ h => h, fun _ _ _ _ _ _ h => h⟩
    have st : ∀ M', M' 17 = M 17 → fX M M' → vX M' = mm_up (vX M) (8 + 2 * k) 2 n → K 20 [some (mm_R 17), some (mm_I k), some (mm_I p), some (mm_I (vX M (8 + 2 * k + 1) p)), some (mm_I p)] [] M' d 0 := by
      intro M' g17 g1 g2
      refine hK2 _ _ _ _ _ _ (h8 _ (fun M2 h => hq M2 ⟨h.1, h.2.1, (mV_i (by omega)).mpr (tak_wV (isKk (by omega)) hw h.2.1 h.2.2.1), h.2.2.1, h.2.2.2⟩) M' (by omega) (Nat.le_refl _) g1 g17 (by rw [g2]; exact fr.rf.up (by simp)) (by rw [g2]; simp [mm_up]) (by rw [g2]; simp [mm_up]) (fun j _ => by rw [g2, mm_up_o _ (by omega)]) (fun j a b => by omega) (fun j _ => by rw [g2, mm_up_o _ (by omega)]))
    refine ⟨Nat.le_of_ble_eq_true rfl, ?_⟩
    refine mm_run_at (stop := [20]) (S := K) kkX5_take 90 ?_ (fun _ _ _ _ _ _ _ h => hK _ _ _ _ _ _ h)
    repeat' (first | with_reducible assumption | with_reducible exact mm_i17 | with_reducible exact mm_i18 | with_reducible exact mm_i19 | with_reducible exact mm_i20 | with_reducible exact mm_i21 | with_reducible exact mm_i22 | ((with_reducible show mm_rv _ _ _ _ _); first | exact True.intro | exact mm_i17 | exact mm_i18 | exact mm_i19 | exact mm_i20 | exact mm_i21 | exact mm_i22) | ((with_reducible show mm_bool _ _); first | exact True.intro | exact Or.inl rfl | exact Or.inr rfl | (show (_ : Int) = 0 ∨ _ = 1)) | refine And.intro ?_ ?_ | intro _ | with_reducible exact True.intro | exact rfl | with_reducible exact Or.inl rfl | with_reducible exact Or.inr rfl | exact Nat.le_of_ble_eq_true rfl)
    all_goals (try simp (disch := omega) only [InI, Int.toNat_natCast, Int.tmod_eq_emod_of_nonneg, Int.tdiv_eq_ediv_of_nonneg, true_implies, true_or, or_true, mm_l18, mm_l19, mm_l20, mm_l21, mm_l22] at *)
    all_goals first | omega | (rw [← e1]; exact st _ (mm_up_o _ (by omega)) (fX.rf.up (by omega)) (vX_e21 (by omega) (by omega) (by omega))) | skip
  · exact h.elim
theorem me_X5_take {l : Launch} (hl : l.stackTraces = false) : mm_Met l yX5_take cX5_take 5 (some .int) [] 7 122 0 sp_X5_take := mm_mt hl rn_X5_take ⟨plX5, rfl⟩ kkX5_take rfl ⟨Nat.le_of_ble_eq_true rfl, Nat.le_of_ble_eq_true rfl⟩ flkX5 (fun _ h => nomatch h) (⟨mm_pe (me_X5_stepOf hl) mwX5_stepOf (mm_t6 158 rfl rfl) (Nat.le_of_ble_eq_true rfl) (Nat.le_of_ble_eq_true rfl), trivial⟩) (mm_xe0 _) n9X5
def sp_X5_setOf : mm_S := fun av M d Q => match av with
  | [.inr (.inr (.inl o)), .inl k] =>  o = 17 ∧ tX M ∧ (0 ≤ k ∧ k < 4) ∧ mV M k.toNat ∧ ∀ r, (0 ≤ r ∧ r < 1073741824) ∧ (∀ s : Nat, bt r s = 1 ↔ ∃ i : Nat, i < M 21 k.toNat ∧ M 20 (30 * k.toNat + i) / 2 = s) → Q (.inl (some (mm_I r))) M d
  | _ => False
def ct_X5_setOf : List (Nat × mm_Ca) := [(98, (0, 3, 14, sp_X5_stepOf, 0))]
abbrev rr_X5_setOf (Q : mm_Q) := mm_run (mm_look flX5) (mm_look ct_X5_setOf) mm_x0 (mm_look ([] : List (Nat × Int))) (fun _ => none) 1 0 (fun _ _ => none) Q kdX5_setOf
set_option maxRecDepth 20000 in
theorem lp_X5_setOf {M : mm_M} {d : List Nat} {Q : mm_Q} {k n : Nat} (ht : tX M) (hk : k < 4) (hv : mV M k) (hn : M 21 k = n) (hq : ∀ r, (0 ≤ r ∧ r < 1073741824) ∧ (∀ s : Nat, bt r s = 1 ↔ ∃ i : Nat, i < n ∧ M 20 (30 * k + i) / 2 = s) → Q (.inl (some (mm_I r))) M d) : ∀ (j i : Nat) (r : Int), i + j = n → ((0 ≤ r ∧ r < 1073741824) ∧ (∀ s : Nat, bt r s = 1 ↔ ∃ x : Nat, x < i ∧ M 20 (30 * k + x) / 2 = s)) → rr_X5_setOf Q 4 [some (mm_R 17), some (mm_I k), some (mm_I r), some (mm_I i)] [] M d 0 := by
  obtain ⟨v1, v2, v3⟩ := id hv
  have t1 := ht.1
  intro j
  induction j with
  | zero =>
    intro i r hi hr
    have e : i = n := by omega
    subst e
    have h9 := hq r hr
    obtain ⟨K, hK, hK2⟩ : ∃ K : Nat → mm_K, (∀ t ls st M d u, K t ls st M d u → rr_X5_setOf Q t ls st M d u) ∧ (∀ t ls st M d u, rr_X5_setOf Q t ls st M d u → K t ls st M d u) := ⟨rr_X5_setOf Q, fun _ _ _ _ _ _ h => h, fun _ _ _ _ _ _ h => h⟩
    refine mm_run_at (stop := [14]) (S := K) kkX5_setOf 90 ?_ (fun _ _ _ _ _ _ _ h => hK _ _ _ _ _ _ h)
    repeat' (first | with_reducible assumption | with_reducible exact mm_i17 | with_reducible exact mm_i18 | with_reducible exact mm_i19 | with_reducible exact mm_i20 | with_reducible exact mm_i21 | with_reducible exact mm_i22 | ((with_reducible show mm_rv _ _ _ _ _); first | exact True.intro | exact mm_i17 | exact mm_i18 | exact mm_i19 | exact mm_i20 | exact mm_i21 | exact mm_i22) | ((with_reducible show mm_bool _ _); first | exact True.intro | exact Or.inl rfl | exact Or.inr rfl | (show (_ : Int) = 0 ∨ _ = 1)) | refine And.intro ?_ ?_ | intro _ | with_reducible exact True.intro | exact rfl | with_reducible exact Or.inl rfl | with_reducible exact Or.inr rfl | exact Nat.le_of_ble_eq_true rfl)
    all_goals (try simp (disch := omega) only [InI, Int.toNat_natCast, Int.tmod_eq_emod_of_nonneg, Int.tdiv_eq_ediv_of_nonneg, true_implies, true_or, or_true, mm_l18, mm_l19, mm_l20, mm_l21, mm_l22] at *)
    all_goals first | omega | exact h9 | skip
  | succ j ih =>
    intro i r hi hr
    have v4 := v3 i (by omega)
    obtain ⟨o1, o2⟩ := orp_spec (i := (M 20 (30 * k + i) / 2).toNat) hr.1 (by omega)
    obtain ⟨K, hK, hK2⟩ : ∃ K : Nat → mm_K, (∀ t ls st M d u, K t ls st M d u → rr_X5_setOf Q t ls st M d u) ∧ (∀ t ls st M d u, rr_X5_setOf Q t ls st M d u → K t ls st M d u) := ⟨rr_X5_setOf Q, fun _ _ _ _ _ _ h => h, fun _ _ _ _ _ _ h => h⟩
    have st : ∀ r2, r2 = mm_or r (1 * 2 ^ (M 20 (30 * k + i) / 2).toNat) → K 4 [some (mm_R 17), some (mm_I k), some (mm_I r2), some (mm_I ((i : Int) + 1))] [] M d 0 := by
      intro r2 e
      subst e
      refine hK2 _ _ _ _ _ _ (ih (i + 1) _ (by omega) ⟨o1, fun s => ?_⟩)
      rw [o2 s, hr.2 s]
      constructor
      · rintro (⟨x, hx, e⟩ | e)
        · exact ⟨x, by omega, e⟩
        · exact ⟨i, by omega, by omega⟩
      · rintro ⟨x, hx, e⟩
        by_cases h : x = i
        · subst h
          exact Or.inr (by omega)
        · exact Or.inl ⟨x, by omega, e⟩
    refine mm_run_at (stop := [4, 33]) (S := K) kkX5_setOf 90 ?_ (fun _ _ _ _ _ _ _ h => hK _ _ _ _ _ _ h)
    repeat' (first | with_reducible assumption | with_reducible exact mm_i17 | with_reducible exact mm_i18 | with_reducible exact mm_i19 | with_reducible exact mm_i20 | with_reducible exact mm_i21 | with_reducible exact mm_i22 | ((with_reducible show mm_rv _ _ _ _ _); first | exact True.intro | exact mm_i17 | exact mm_i18 | exact mm_i19 | exact mm_i20 | exact mm_i21 | exact mm_i22) | ((with_reducible show mm_bool _ _); first | exact True.intro | exact Or.inl rfl | exact Or.inr rfl | (show (_ : Int) = 0 ∨ _ = 1)) | refine And.intro ?_ ?_ | intro _ | with_reducible exact True.intro | exact rfl | with_reducible exact Or.inl rfl | with_reducible exact Or.inr rfl | exact Nat.le_of_ble_eq_true rfl)
    all_goals (try simp (disch := omega) only [InI, Int.toNat_natCast, Int.tmod_eq_emod_of_nonneg, Int.tdiv_eq_ediv_of_nonneg, true_implies, true_or, or_true, mm_l18, mm_l19, mm_l20, mm_l21, mm_l22] at *)
    all_goals first | omega | exact st _ rfl | skip
set_option maxRecDepth 20000 in
theorem rn_X5_setOf : mm_RN flX5 ct_X5_setOf mm_x0 [] 1 0 4 kdX5_setOf sp_X5_setOf := by
  intro av M d Q h
  unfold sp_X5_setOf at h
  split at h
  · rename_i o k
    obtain ⟨rfl, ht, hk, hv, hq⟩ := h
    have v1 := hv.1
    obtain ⟨k, rfl⟩ := Int.eq_ofNat_of_zero_le hk.1
    simp only [Int.toNat_natCast] at *
    obtain ⟨n, hn⟩ := Int.eq_ofNat_of_zero_le v1.1
    have h8 := lp_X5_setOf (d := d) (Q := Q) ht (show k < 4 by omega) hv hn (fun r hr => hq r ⟨hr.1, fun s => by rw [hr.2 s]; constructor <;> (rintro ⟨i, h1, h2⟩; exact ⟨i, by omega, h2⟩)⟩) n 0 0 (by omega) ⟨by omega, fun s => by rw [bt_0]; constructor <;> (intro h; first | omega | (obtain ⟨x, hx, _⟩ := h; omega))⟩
    obtain ⟨K, hK, hK2⟩ : ∃ K : Nat → mm_K, (∀ t ls st M d u, K t ls st M d u → rr_X5_setOf Q t ls st M d u) ∧ (∀ t ls st M d u, rr_X5_setOf Q t ls st M d u → K t ls st M d u) := ⟨rr_X5_setOf Q, fun _ _ _ _ _ _ h => h, fun _ _ _ _ _ _ h => h⟩
    refine ⟨Nat.le_of_ble_eq_true rfl, mm_run_at (stop := [4]) (S := K) kkX5_setOf 90 ?_ (fun _ _ _ _ _ _ _ h => hK _ _ _ _ _ _ h)⟩
    have h8 := hK2 _ _ _ _ _ _ h8
    repeat' (first | with_reducible assumption | with_reducible exact mm_i17 | with_reducible exact mm_i18 | with_reducible exact mm_i19 | with_reducible exact mm_i20 | with_reducible exact mm_i21 | with_reducible exact mm_i22 | ((with_reducible show mm_rv _ _ _ _ _); first | exact True.intro | exact mm_i17 | exact mm_i18 | exact mm_i19 | exact mm_i20 | exact mm_i21 | exact mm_i22) | ((with_reducible show mm_bool _ _); first | exact True.intro | exact Or.inl rfl | exact Or.inr rfl | (show (_ : Int) = 0 ∨ _ = 1)) | refine And.intro ?_ ?_ | intro _ | with_reducible exact True.intro | exact rfl | with_reducible exact Or.inl rfl | with_reducible exact Or.inr rfl | exact Nat.le_of_ble_eq_true rfl)
    exact h8
  · exact h.elim
theorem me_X5_setOf {l : Launch} (hl : l.stackTraces = false) : mm_Met l yX5_setOf cX5_setOf 4 (some .int) [] 7 122 0 sp_X5_setOf := mm_mt hl rn_X5_setOf ⟨plX5, rfl⟩ kkX5_setOf rfl ⟨Nat.le_of_ble_eq_true rfl, Nat.le_of_ble_eq_true rfl⟩ flkX5 (fun _ h => nomatch h) (⟨mm_pe (me_X5_stepOf hl) mwX5_stepOf (mm_t6 158 rfl rfl) (Nat.le_of_ble_eq_true rfl) (Nat.le_of_ble_eq_true rfl), trivial⟩) (mm_xe0 _) n9X5
end
