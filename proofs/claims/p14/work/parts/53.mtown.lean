/-! the model's town: ways, ODD, what hangs together, starts -/
theorem at_X5_waysOf_0 : mm_at 0 kdX5_waysOf = [(0, .iconst 0, 0), (1, .istore 4, 0), (3, .iconst 0, 0), (4, .istore 5, 0), (6, .iconst 0, 0), (7, .istore 6, 0), (9, .iload 6, 0), (11, .aload_n 0, 0), (12, .getfield 49, 0), (15, .if_icmp .ge 69, 84), (18, .iload_n 1, 0), (19, .iload 6, 0), (21, .invokestatic 52, 0), (24, .ifCond .ne 6, 30), (27, .goto 51, 78), (30, .iload 4, 0), (32, .aload_n 0, 0), (33, .getfield 9, 0), (36, .iload 6, 0), (38, .iaload, 0), (39, .iload_n 2, 0), (40, .if_icmp .ne 7, 47), (43, .iconst 1, 0), (44, .goto 4, 48), (47, .iconst 0, 0), (48, .invokestatic 56, 0), (51, .iadd, 0), (52, .istore 4, 0), (54, .iload 5, 0), (56, .aload_n 0, 0), (57, .getfield 13, 0), (60, .iload 6, 0), (62, .iaload, 0), (63, .iload_n 2, 0), (64, .if_icmp .ne 7, 71), (67, .iconst 1, 0), (68, .goto 4, 72), (71, .iconst 0, 0), (72, .invokestatic 56, 0), (75, .iadd, 0), (76, .istore 5, 0), (78, .iinc 6 1, 0), (81, .goto (-72), 9), (84, .iload_n 3, 0), (85, .ifCond .ne 11, 96), (88, .iload 4, 0), (90, .iload 5, 0), (92, .iadd, 0), (93, .goto 15, 108), (96, .iload_n 3, 0), (97, .iconst 1, 0), (98, .if_icmp .ne 8, 106), (101, .iload 4, 0), (103, .goto 5, 108), (106, .iload 5, 0), (108, .ireturn, 0)] := rfl
theorem at_X5_waysOf_9 : mm_at 9 kdX5_waysOf = [(9, .iload 6, 0), (11, .aload_n 0, 0), (12, .getfield 49, 0), (15, .if_icmp .ge 69, 84), (18, .iload_n 1, 0), (19, .iload 6, 0), (21, .invokestatic 52, 0), (24, .ifCond .ne 6, 30), (27, .goto 51, 78), (30, .iload 4, 0), (32, .aload_n 0, 0), (33, .getfield 9, 0), (36, .iload 6, 0), (38, .iaload, 0), (39, .iload_n 2, 0), (40, .if_icmp .ne 7, 47), (43, .iconst 1, 0), (44, .goto 4, 48), (47, .iconst 0, 0), (48, .invokestatic 56, 0), (51, .iadd, 0), (52, .istore 4, 0), (54, .iload 5, 0), (56, .aload_n 0, 0), (57, .getfield 13, 0), (60, .iload 6, 0), (62, .iaload, 0), (63, .iload_n 2, 0), (64, .if_icmp .ne 7, 71), (67, .iconst 1, 0), (68, .goto 4, 72), (71, .iconst 0, 0), (72, .invokestatic 56, 0), (75, .iadd, 0), (76, .istore 5, 0), (78, .iinc 6 1, 0), (81, .goto (-72), 9), (84, .iload_n 3, 0), (85, .ifCond .ne 11, 96), (88, .iload 4, 0), (90, .iload 5, 0), (92, .iadd, 0), (93, .goto 15, 108), (96, .iload_n 3, 0), (97, .iconst 1, 0), (98, .if_icmp .ne 8, 106), (101, .iload 4, 0), (103, .goto 5, 108), (106, .iload 5, 0), (108, .ireturn, 0)] := rfl
theorem at_X5_waysOf_30 : mm_at 30 kdX5_waysOf = [(30, .iload 4, 0), (32, .aload_n 0, 0), (33, .getfield 9, 0), (36, .iload 6, 0), (38, .iaload, 0), (39, .iload_n 2, 0), (40, .if_icmp .ne 7, 47), (43, .iconst 1, 0), (44, .goto 4, 48), (47, .iconst 0, 0), (48, .invokestatic 56, 0), (51, .iadd, 0), (52, .istore 4, 0), (54, .iload 5, 0), (56, .aload_n 0, 0), (57, .getfield 13, 0), (60, .iload 6, 0), (62, .iaload, 0), (63, .iload_n 2, 0), (64, .if_icmp .ne 7, 71), (67, .iconst 1, 0), (68, .goto 4, 72), (71, .iconst 0, 0), (72, .invokestatic 56, 0), (75, .iadd, 0), (76, .istore 5, 0), (78, .iinc 6 1, 0), (81, .goto (-72), 9), (84, .iload_n 3, 0), (85, .ifCond .ne 11, 96), (88, .iload 4, 0), (90, .iload 5, 0), (92, .iadd, 0), (93, .goto 15, 108), (96, .iload_n 3, 0), (97, .iconst 1, 0), (98, .if_icmp .ne 8, 106), (101, .iload 4, 0), (103, .goto 5, 108), (106, .iload 5, 0), (108, .ireturn, 0)] := rfl
theorem at_X5_waysOf_47 : mm_at 47 kdX5_waysOf = [(47, .iconst 0, 0), (48, .invokestatic 56, 0), (51, .iadd, 0), (52, .istore 4, 0), (54, .iload 5, 0), (56, .aload_n 0, 0), (57, .getfield 13, 0), (60, .iload 6, 0), (62, .iaload, 0), (63, .iload_n 2, 0), (64, .if_icmp .ne 7, 71), (67, .iconst 1, 0), (68, .goto 4, 72), (71, .iconst 0, 0), (72, .invokestatic 56, 0), (75, .iadd, 0), (76, .istore 5, 0), (78, .iinc 6 1, 0), (81, .goto (-72), 9), (84, .iload_n 3, 0), (85, .ifCond .ne 11, 96), (88, .iload 4, 0), (90, .iload 5, 0), (92, .iadd, 0), (93, .goto 15, 108), (96, .iload_n 3, 0), (97, .iconst 1, 0), (98, .if_icmp .ne 8, 106), (101, .iload 4, 0), (103, .goto 5, 108), (106, .iload 5, 0), (108, .ireturn, 0)] := rfl
theorem at_X5_waysOf_48 : mm_at 48 kdX5_waysOf = [(48, .invokestatic 56, 0), (51, .iadd, 0), (52, .istore 4, 0), (54, .iload 5, 0), (56, .aload_n 0, 0), (57, .getfield 13, 0), (60, .iload 6, 0), (62, .iaload, 0), (63, .iload_n 2, 0), (64, .if_icmp .ne 7, 71), (67, .iconst 1, 0), (68, .goto 4, 72), (71, .iconst 0, 0), (72, .invokestatic 56, 0), (75, .iadd, 0), (76, .istore 5, 0), (78, .iinc 6 1, 0), (81, .goto (-72), 9), (84, .iload_n 3, 0), (85, .ifCond .ne 11, 96), (88, .iload 4, 0), (90, .iload 5, 0), (92, .iadd, 0), (93, .goto 15, 108), (96, .iload_n 3, 0), (97, .iconst 1, 0), (98, .if_icmp .ne 8, 106), (101, .iload 4, 0), (103, .goto 5, 108), (106, .iload 5, 0), (108, .ireturn, 0)] := rfl
theorem at_X5_waysOf_71 : mm_at 71 kdX5_waysOf = [(71, .iconst 0, 0), (72, .invokestatic 56, 0), (75, .iadd, 0), (76, .istore 5, 0), (78, .iinc 6 1, 0), (81, .goto (-72), 9), (84, .iload_n 3, 0), (85, .ifCond .ne 11, 96), (88, .iload 4, 0), (90, .iload 5, 0), (92, .iadd, 0), (93, .goto 15, 108), (96, .iload_n 3, 0), (97, .iconst 1, 0), (98, .if_icmp .ne 8, 106), (101, .iload 4, 0), (103, .goto 5, 108), (106, .iload 5, 0), (108, .ireturn, 0)] := rfl
theorem at_X5_waysOf_72 : mm_at 72 kdX5_waysOf = [(72, .invokestatic 56, 0), (75, .iadd, 0), (76, .istore 5, 0), (78, .iinc 6 1, 0), (81, .goto (-72), 9), (84, .iload_n 3, 0), (85, .ifCond .ne 11, 96), (88, .iload 4, 0), (90, .iload 5, 0), (92, .iadd, 0), (93, .goto 15, 108), (96, .iload_n 3, 0), (97, .iconst 1, 0), (98, .if_icmp .ne 8, 106), (101, .iload 4, 0), (103, .goto 5, 108), (106, .iload 5, 0), (108, .ireturn, 0)] := rfl
theorem at_X5_waysOf_78 : mm_at 78 kdX5_waysOf = [(78, .iinc 6 1, 0), (81, .goto (-72), 9), (84, .iload_n 3, 0), (85, .ifCond .ne 11, 96), (88, .iload 4, 0), (90, .iload 5, 0), (92, .iadd, 0), (93, .goto 15, 108), (96, .iload_n 3, 0), (97, .iconst 1, 0), (98, .if_icmp .ne 8, 106), (101, .iload 4, 0), (103, .goto 5, 108), (106, .iload 5, 0), (108, .ireturn, 0)] := rfl
theorem at_X5_waysOf_84 : mm_at 84 kdX5_waysOf = [(84, .iload_n 3, 0), (85, .ifCond .ne 11, 96), (88, .iload 4, 0), (90, .iload 5, 0), (92, .iadd, 0), (93, .goto 15, 108), (96, .iload_n 3, 0), (97, .iconst 1, 0), (98, .if_icmp .ne 8, 106), (101, .iload 4, 0), (103, .goto 5, 108), (106, .iload 5, 0), (108, .ireturn, 0)] := rfl
theorem at_X5_waysOf_96 : mm_at 96 kdX5_waysOf = [(96, .iload_n 3, 0), (97, .iconst 1, 0), (98, .if_icmp .ne 8, 106), (101, .iload 4, 0), (103, .goto 5, 108), (106, .iload 5, 0), (108, .ireturn, 0)] := rfl
theorem at_X5_waysOf_106 : mm_at 106 kdX5_waysOf = [(106, .iload 5, 0), (108, .ireturn, 0)] := rfl
theorem at_X5_waysOf_108 : mm_at 108 kdX5_waysOf = [(108, .ireturn, 0)] := rfl
def sp_X5_waysOf : mm_S := fun av M d Q => match av with
  | [.inr (.inr (.inl o)), .inl S, .inl c, .inl x] =>  o = 17 ∧ tX M ∧ (0 ≤ S ∧ S < 1073741824) ∧ InI c ∧ InI x ∧ ∀ r, (x = 0 → r = oc (M 18) S c (M 17 1).toNat + oc (M 19) S c (M 17 1).toNat) ∧ (x = 1 → r = oc (M 18) S c (M 17 1).toNat) ∧ (x ≠ 0 → x ≠ 1 → r = oc (M 19) S c (M 17 1).toNat) ∧ 0 ≤ r ∧ r ≤ 60 → Q (.inl (some (mm_I r))) M d
  | _ => False
def ct_X5_waysOf : List (Nat × mm_Ca) := [(52, (1, 2, 0, sp_X5_has, 0)), (56, (1, 1, 0, sp_X5_one, 0))]
abbrev rr_X5_waysOf (Q : mm_Q) := mm_run (mm_look flX5) (mm_look ct_X5_waysOf) mm_x0 (mm_look ([] : List (Nat × Int))) (fun _ => none) 1 0 (fun _ _ => none) Q kdX5_waysOf
set_option maxRecDepth 20000 in
theorem lp_X5_waysOf {M : mm_M} {d : List Nat} {Q : mm_Q} {S c x : Int} {n : Nat} (ht : tX M) (hS : 0 ≤ S ∧ S < 1073741824) (hc : InI c) (hx : InI x) (hn : M 17 1 = n) (hq : ∀ r, (x = 0 → r = oc (M 18) S c n + oc (M 19) S c n) ∧ (x = 1 → r = oc (M 18) S c n) ∧ (x ≠ 0 → x ≠ 1 → r = oc (M 19) S c n) ∧ 0 ≤ r ∧ r ≤ 60 → Q (.inl (some (mm_I r))) M d) : ∀ (k i : Nat), i + k = n → rr_X5_waysOf Q 9 [some (mm_R 17), some (mm_I S), some (mm_I c), some (mm_I x), some (mm_I (oc (M 18) S c i)), some (mm_I (oc (M 19) S c i)), some (mm_I i)] [] M d 0 := by
  obtain ⟨t1, t2, t3, t4, t5⟩ := id ht
  intro k
  induction k with
  | zero =>
    intro i hi
    have h1 := oc_le (M 18) S c i
    have h2 := oc_le (M 19) S c i
    have e : i = n := by omega
    subst e
    have q0 : x = 0 → _ := fun h => hq (oc (M 18) S c i + oc (M 19) S c i) ⟨fun _ => rfl, fun h2 => by omega, fun h2 => absurd h h2, by omega, by omega⟩
    have q1 : x = 1 → _ := fun h => hq (oc (M 18) S c i) ⟨fun h2 => by omega, fun _ => rfl, fun _ h2 => absurd h h2, by omega, by omega⟩
    have q2 : x ≠ 0 → x ≠ 1 → _ := fun h h3 => hq (oc (M 19) S c i) ⟨fun h2 => absurd h2 h, fun h2 => absurd h2 h3, fun _ _ => rfl, by omega, by omega⟩
    clear hq t2
    obtain ⟨K, hK, hK2⟩ : ∃ K : Nat → mm_K, (∀ t ls st M d u, K t ls st M d u → rr_X5_waysOf Q t ls st M d u) ∧ (∀ t ls st M d u, rr_X5_waysOf Q t ls st M d u → K t ls st M d u) := ⟨rr_X5_waysOf Q, fun _ _ _ _ _ _ h => h, fun _ _ _ _ _ _ h => h⟩
    refine mm_run_at (stop := [18]) (S := K) kkX5_waysOf 90 ?_ (fun _ _ _ _ _ _ _ h => hK _ _ _ _ _ _ h)
    repeat' (first | with_reducible assumption | with_reducible exact mm_i17 | with_reducible exact mm_i18 | with_reducible exact mm_i19 | with_reducible exact mm_i20 | with_reducible exact mm_i21 | with_reducible exact mm_i22 | ((with_reducible show mm_rv _ _ _ _ _); first | exact True.intro | exact mm_i17 | exact mm_i18 | exact mm_i19 | exact mm_i20 | exact mm_i21 | exact mm_i22) | ((with_reducible show mm_bool _ _); first | exact True.intro | exact Or.inl rfl | exact Or.inr rfl | (show (_ : Int) = 0 ∨ _ = 1)) | refine And.intro ?_ ?_ | intro _ | with_reducible exact True.intro | exact rfl | with_reducible exact Or.inl rfl | with_reducible exact Or.inr rfl | exact Nat.le_of_ble_eq_true rfl)
    all_goals (try simp (disch := omega) only [InI, Int.toNat_natCast, Int.tmod_eq_emod_of_nonneg, Int.tdiv_eq_ediv_of_nonneg, true_implies, true_or, or_true, mm_l18, mm_l19, mm_l20, mm_l21, mm_l22] at *)
    all_goals first | omega | exact q0 (by omega) | exact q1 (by omega) | exact q2 (by omega) (by omega) | skip
  | succ k ih =>
    intro i hi
    have b1 := t2 i (by omega)
    have hb := bt_01 S i
    have o1 : ∀ F : Nat → Int, F i = c → oc F S c (i + 1) = oc F S c i + bt S i := fun F h => by
      simp only [oc]
      rw [if_pos h]
    have o0 : ∀ F : Nat → Int, F i ≠ c → oc F S c (i + 1) = oc F S c i := fun F h => by
      simp only [oc]
      rw [if_neg h, Int.add_zero]
    have oz : ∀ F : Nat → Int, bt S i = 0 → oc F S c (i + 1) = oc F S c i := fun F h => by
      by_cases e : F i = c
      · rw [o1 F e, h, Int.add_zero]
      · exact o0 F e
    have l1 := oc_le (M 18) S c i
    have l2 := oc_le (M 19) S c i
    obtain ⟨a0, ea0⟩ : ∃ a, a = oc (M 18) S c i := ⟨_, rfl⟩
    obtain ⟨b0, eb0⟩ : ∃ b, b = oc (M 19) S c i := ⟨_, rfl⟩
    rw [← ea0] at l1
    rw [← eb0] at l2
    rw [← ea0, ← eb0]
    clear t2
    obtain ⟨K, hK, hK2⟩ : ∃ K : Nat → mm_K, (∀ t ls st M d u, K t ls st M d u → rr_X5_waysOf Q t ls st M d u) ∧ (∀ t ls st M d u, rr_X5_waysOf Q t ls st M d u → K t ls st M d u) := ⟨rr_X5_waysOf Q, fun _ _ _ _ _ _ h => h, fun _ _ _ _ _ _ h => h⟩
    have next : ∀ a b, a = oc (M 18) S c (i + 1) → b = oc (M 19) S c (i + 1) → K 9 [some (mm_R 17), some (mm_I S), some (mm_I c), some (mm_I x), some (mm_I a), some (mm_I b), some (mm_I ((i : Int) + 1))] [] M d 0 := fun a b ha hb => by
      rw [ha, hb]
      exact hK2 _ _ _ _ _ _ (ih (i + 1) (by omega))
    have k78 : ∀ a b, a = oc (M 18) S c (i + 1) → b = oc (M 19) S c (i + 1) → K 78 [some (mm_R 17), some (mm_I S), some (mm_I c), some (mm_I x), some (mm_I a), some (mm_I b), some (mm_I i)] [] M d 0 := fun a b ha hb => by
      have h9 := next a b ha hb
      clear next ih hq ha hb o1 o0 oz ea0 eb0
      refine hK2 _ _ _ _ _ _ ?_
      refine mm_run_at (stop := [9]) (S := K) kkX5_waysOf 90 ?_ (fun _ _ _ _ _ _ _ h => hK _ _ _ _ _ _ h)
      repeat' (first | with_reducible assumption | with_reducible exact mm_i17 | with_reducible exact mm_i18 | with_reducible exact mm_i19 | with_reducible exact mm_i20 | with_reducible exact mm_i21 | with_reducible exact mm_i22 | ((with_reducible show mm_rv _ _ _ _ _); first | exact True.intro | exact mm_i17 | exact mm_i18 | exact mm_i19 | exact mm_i20 | exact mm_i21 | exact mm_i22) | ((with_reducible show mm_bool _ _); first | exact True.intro | exact Or.inl rfl | exact Or.inr rfl | (show (_ : Int) = 0 ∨ _ = 1)) | refine And.intro ?_ ?_ | intro _ | with_reducible exact True.intro | exact rfl | with_reducible exact Or.inl rfl | with_reducible exact Or.inr rfl | exact Nat.le_of_ble_eq_true rfl)
      all_goals (try simp (disch := omega) only [InI, Int.toNat_natCast, Int.tmod_eq_emod_of_nonneg, Int.tdiv_eq_ediv_of_nonneg, true_implies, true_or, or_true, mm_l18, mm_l19, mm_l20, mm_l21, mm_l22] at *)
      all_goals first | omega | exact h9 | skip
    have k72 : ∀ a f, a = oc (M 18) S c (i + 1) → (0 ≤ a ∧ a ≤ 31) → (f = 0 ∨ f = 1) → b0 + f = oc (M 19) S c (i + 1) → K 72 [some (mm_R 17), some (mm_I S), some (mm_I c), some (mm_I x), some (mm_I a), some (mm_I b0), some (mm_I i)] [mm_I f, mm_I b0] M d 0 := fun a f ha hab hf hb => by
      have h9 := k78 a (b0 + f) ha hb
      clear next k78 ih hq ha hb o1 o0 oz ea0 eb0
      refine hK2 _ _ _ _ _ _ ?_
      refine mm_run_at (stop := [78]) (S := K) kkX5_waysOf 90 ?_ (fun _ _ _ _ _ _ _ h => hK _ _ _ _ _ _ h)
      repeat' (first | with_reducible assumption | with_reducible exact mm_i17 | with_reducible exact mm_i18 | with_reducible exact mm_i19 | with_reducible exact mm_i20 | with_reducible exact mm_i21 | with_reducible exact mm_i22 | ((with_reducible show mm_rv _ _ _ _ _); first | exact True.intro | exact mm_i17 | exact mm_i18 | exact mm_i19 | exact mm_i20 | exact mm_i21 | exact mm_i22) | ((with_reducible show mm_bool _ _); first | exact True.intro | exact Or.inl rfl | exact Or.inr rfl | (show (_ : Int) = 0 ∨ _ = 1)) | refine And.intro ?_ ?_ | intro _ | with_reducible exact True.intro | exact rfl | with_reducible exact Or.inl rfl | with_reducible exact Or.inr rfl | exact Nat.le_of_ble_eq_true rfl)
      all_goals (try simp (disch := omega) only [InI, Int.toNat_natCast, Int.tmod_eq_emod_of_nonneg, Int.tdiv_eq_ediv_of_nonneg, true_implies, true_or, or_true, mm_l18, mm_l19, mm_l20, mm_l21, mm_l22] at *)
      all_goals first | omega | exact h9 | skip
    have k54 : bt S i = 1 → ∀ a, a = oc (M 18) S c (i + 1) → (0 ≤ a ∧ a ≤ 31) → K 54 [some (mm_R 17), some (mm_I S), some (mm_I c), some (mm_I x), some (mm_I a), some (mm_I b0), some (mm_I i)] [] M d 0 := fun hb1 a ha hab => by
      have k1 : M 19 i = c → _ := fun h => k72 a 1 ha hab (Or.inr rfl) (by rw [o1 (M 19) h, hb1, eb0])
      have k0 : M 19 i ≠ c → _ := fun h => k72 a 0 ha hab (Or.inl rfl) (by rw [o0 (M 19) h, Int.add_zero, eb0])
      clear next k78 k72 ih hq ha o1 o0 oz ea0 eb0
      refine hK2 _ _ _ _ _ _ ?_
      refine mm_run_at (stop := [72]) (S := K) kkX5_waysOf 90 ?_ (fun _ _ _ _ _ _ _ h => hK _ _ _ _ _ _ h)
      repeat' (first | with_reducible assumption | with_reducible exact mm_i17 | with_reducible exact mm_i18 | with_reducible exact mm_i19 | with_reducible exact mm_i20 | with_reducible exact mm_i21 | with_reducible exact mm_i22 | ((with_reducible show mm_rv _ _ _ _ _); first | exact True.intro | exact mm_i17 | exact mm_i18 | exact mm_i19 | exact mm_i20 | exact mm_i21 | exact mm_i22) | ((with_reducible show mm_bool _ _); first | exact True.intro | exact Or.inl rfl | exact Or.inr rfl | (show (_ : Int) = 0 ∨ _ = 1)) | refine And.intro ?_ ?_ | intro _ | with_reducible exact True.intro | exact rfl | with_reducible exact Or.inl rfl | with_reducible exact Or.inr rfl | exact Nat.le_of_ble_eq_true rfl)
      all_goals (try simp (disch := omega) only [InI, Int.toNat_natCast, Int.tmod_eq_emod_of_nonneg, Int.tdiv_eq_ediv_of_nonneg, true_implies, true_or, or_true, mm_l18, mm_l19, mm_l20, mm_l21, mm_l22] at *)
      all_goals first | omega | exact k1 (by omega) | exact k0 (by omega) | skip
    have k48 : bt S i = 1 → ∀ f, (f = 0 ∨ f = 1) → a0 + f = oc (M 18) S c (i + 1) → K 48 [some (mm_R 17), some (mm_I S), some (mm_I c), some (mm_I x), some (mm_I a0), some (mm_I b0), some (mm_I i)] [mm_I f, mm_I a0] M d 0 := fun hb1 f hf ha => by
      have h9 := k54 hb1 (a0 + f) ha (by omega)
      clear next k78 k72 k54 ih hq ha o1 o0 oz ea0 eb0
      refine hK2 _ _ _ _ _ _ ?_
      refine mm_run_at (stop := [54]) (S := K) kkX5_waysOf 90 ?_ (fun _ _ _ _ _ _ _ h => hK _ _ _ _ _ _ h)
      repeat' (first | with_reducible assumption | with_reducible exact mm_i17 | with_reducible exact mm_i18 | with_reducible exact mm_i19 | with_reducible exact mm_i20 | with_reducible exact mm_i21 | with_reducible exact mm_i22 | ((with_reducible show mm_rv _ _ _ _ _); first | exact True.intro | exact mm_i17 | exact mm_i18 | exact mm_i19 | exact mm_i20 | exact mm_i21 | exact mm_i22) | ((with_reducible show mm_bool _ _); first | exact True.intro | exact Or.inl rfl | exact Or.inr rfl | (show (_ : Int) = 0 ∨ _ = 1)) | refine And.intro ?_ ?_ | intro _ | with_reducible exact True.intro | exact rfl | with_reducible exact Or.inl rfl | with_reducible exact Or.inr rfl | exact Nat.le_of_ble_eq_true rfl)
      all_goals (try simp (disch := omega) only [InI, Int.toNat_natCast, Int.tmod_eq_emod_of_nonneg, Int.tdiv_eq_ediv_of_nonneg, true_implies, true_or, or_true, mm_l18, mm_l19, mm_l20, mm_l21, mm_l22] at *)
      all_goals first | omega | exact h9 | skip
    have k30 : bt S i = 1 → K 30 [some (mm_R 17), some (mm_I S), some (mm_I c), some (mm_I x), some (mm_I a0), some (mm_I b0), some (mm_I i)] [] M d 0 := fun hb1 => by
      have k1 : M 18 i = c → _ := fun h => k48 hb1 1 (Or.inr rfl) (by rw [o1 (M 18) h, hb1, ea0])
      have k0 : M 18 i ≠ c → _ := fun h => k48 hb1 0 (Or.inl rfl) (by rw [o0 (M 18) h, Int.add_zero, ea0])
      clear next k78 k72 k54 k48 ih hq o1 o0 oz ea0 eb0
      refine hK2 _ _ _ _ _ _ ?_
      refine mm_run_at (stop := [48]) (S := K) kkX5_waysOf 90 ?_ (fun _ _ _ _ _ _ _ h => hK _ _ _ _ _ _ h)
      repeat' (first | with_reducible assumption | with_reducible exact mm_i17 | with_reducible exact mm_i18 | with_reducible exact mm_i19 | with_reducible exact mm_i20 | with_reducible exact mm_i21 | with_reducible exact mm_i22 | ((with_reducible show mm_rv _ _ _ _ _); first | exact True.intro | exact mm_i17 | exact mm_i18 | exact mm_i19 | exact mm_i20 | exact mm_i21 | exact mm_i22) | ((with_reducible show mm_bool _ _); first | exact True.intro | exact Or.inl rfl | exact Or.inr rfl | (show (_ : Int) = 0 ∨ _ = 1)) | refine And.intro ?_ ?_ | intro _ | with_reducible exact True.intro | exact rfl | with_reducible exact Or.inl rfl | with_reducible exact Or.inr rfl | exact Nat.le_of_ble_eq_true rfl)
      all_goals (try simp (disch := omega) only [InI, Int.toNat_natCast, Int.tmod_eq_emod_of_nonneg, Int.tdiv_eq_ediv_of_nonneg, true_implies, true_or, or_true, mm_l18, mm_l19, mm_l20, mm_l21, mm_l22] at *)
      all_goals first | omega | exact k1 (by omega) | exact k0 (by omega) | skip
    have kz : bt S i = 0 → K 78 [some (mm_R 17), some (mm_I S), some (mm_I c), some (mm_I x), some (mm_I a0), some (mm_I b0), some (mm_I i)] [] M d 0 := fun hb0 => k78 a0 b0 (by rw [oz (M 18) hb0, ea0]) (by rw [oz (M 19) hb0, eb0])
    clear next k78 k72 k54 k48 ih hq o1 o0 oz ea0 eb0
    refine mm_run_at (stop := [30, 78, 84]) (S := K) kkX5_waysOf 90 ?_ (fun _ _ _ _ _ _ _ h => hK _ _ _ _ _ _ h)
    repeat' (first | with_reducible assumption | with_reducible exact mm_i17 | with_reducible exact mm_i18 | with_reducible exact mm_i19 | with_reducible exact mm_i20 | with_reducible exact mm_i21 | with_reducible exact mm_i22 | ((with_reducible show mm_rv _ _ _ _ _); first | exact True.intro | exact mm_i17 | exact mm_i18 | exact mm_i19 | exact mm_i20 | exact mm_i21 | exact mm_i22) | ((with_reducible show mm_bool _ _); first | exact True.intro | exact Or.inl rfl | exact Or.inr rfl | (show (_ : Int) = 0 ∨ _ = 1)) | refine And.intro ?_ ?_ | intro _ | with_reducible exact True.intro | exact rfl | with_reducible exact Or.inl rfl | with_reducible exact Or.inr rfl | exact Nat.le_of_ble_eq_true rfl)
    all_goals (try simp (disch := omega) only [InI, Int.toNat_natCast, Int.tmod_eq_emod_of_nonneg, Int.tdiv_eq_ediv_of_nonneg, true_implies, true_or, or_true, mm_l18, mm_l19, mm_l20, mm_l21, mm_l22] at *)
    all_goals first | omega | exact k30 (by omega) | exact kz (by omega) | skip
set_option maxRecDepth 20000 in
theorem rn_X5_waysOf : mm_RN flX5 ct_X5_waysOf mm_x0 [] 1 0 7 kdX5_waysOf sp_X5_waysOf := by
  intro av M d Q h
  unfold sp_X5_waysOf at h
  split at h
  · rename_i o S c x
    obtain ⟨rfl, ht, hS, hc, hx, hq⟩ := h
    have h1 := ht.1
    obtain ⟨n, hn⟩ := Int.eq_ofNat_of_zero_le h1.1
    have k9 := lp_X5_waysOf (d := d) (Q := Q) ht hS hc hx hn (fun r h => hq r (by rw [hn]; exact h)) n 0 (by omega)
    clear hq
    obtain ⟨K, hK, hK2⟩ : ∃ K : Nat → mm_K, (∀ t ls st M d u, K t ls st M d u → rr_X5_waysOf Q t ls st M d u) ∧ (∀ t ls st M d u, rr_X5_waysOf Q t ls st M d u → K t ls st M d u) := ⟨rr_X5_waysOf Q, fun _ _ _ _ _ _ h => h, fun _ _ _ _ _ _ h => h⟩
    refine ⟨Nat.le_of_ble_eq_true rfl, mm_run_at (stop := [9]) (S := K) kkX5_waysOf 90 ?_ (fun _ _ _ _ _ _ _ h => hK _ _ _ _ _ _ h)⟩
    have k9 := hK2 _ _ _ _ _ _ k9
    repeat' (first | with_reducible assumption | with_reducible exact mm_i17 | with_reducible exact mm_i18 | with_reducible exact mm_i19 | with_reducible exact mm_i20 | with_reducible exact mm_i21 | with_reducible exact mm_i22 | ((with_reducible show mm_rv _ _ _ _ _); first | exact True.intro | exact mm_i17 | exact mm_i18 | exact mm_i19 | exact mm_i20 | exact mm_i21 | exact mm_i22) | ((with_reducible show mm_bool _ _); first | exact True.intro | exact Or.inl rfl | exact Or.inr rfl | (show (_ : Int) = 0 ∨ _ = 1)) | refine And.intro ?_ ?_ | intro _ | with_reducible exact True.intro | exact rfl | with_reducible exact Or.inl rfl | with_reducible exact Or.inr rfl | exact Nat.le_of_ble_eq_true rfl)
    all_goals (try simp (disch := omega) only [InI, Int.toNat_natCast, Int.tmod_eq_emod_of_nonneg, Int.tdiv_eq_ediv_of_nonneg, true_implies, true_or, or_true, mm_l18, mm_l19, mm_l20, mm_l21, mm_l22] at *)
    all_goals first | omega | exact k9 | skip
  · exact h.elim
theorem me_X5_waysOf {l : Launch} (hl : l.stackTraces = false) : mm_Met l yX5_waysOf cX5_waysOf 7 (some .int) [] 7 121 0 sp_X5_waysOf := mm_mt hl rn_X5_waysOf ⟨plX5, rfl⟩ kkX5_waysOf rfl ⟨Nat.le_of_ble_eq_true rfl, Nat.le_of_ble_eq_true rfl⟩ flkX5 (fun _ h => nomatch h) (⟨mm_pe (me_X5_has hl) mwX5_has (mm_t6 221 rfl rfl) (Nat.le_of_ble_eq_true rfl) (Nat.le_of_ble_eq_true rfl), mm_pe (me_X5_one hl) mwX5_one (mm_t6 170 rfl rfl) (Nat.le_of_ble_eq_true rfl) (Nat.le_of_ble_eq_true rfl), trivial⟩) (mm_xe0 _) n9X5
def sp_X5_isOdd : mm_S := fun av M d Q => match av with
  | [.inr (.inr (.inl o)), .inl S, .inl c] =>  o = 17 ∧ tX M ∧ (0 ≤ S ∧ S < 1073741824) ∧ InI c ∧ ∀ r, (M 17 4 = 0 → r = (oc (M 18) S c (M 17 1).toNat + oc (M 19) S c (M 17 1).toNat) % 2) ∧ (M 17 4 ≠ 0 → oc (M 18) S c (M 17 1).toNat = oc (M 19) S c (M 17 1).toNat → r = 0) ∧ (M 17 4 ≠ 0 → oc (M 18) S c (M 17 1).toNat ≠ oc (M 19) S c (M 17 1).toNat → r = 1) → Q (.inl (some (mm_I r))) M d
  | _ => False
def ct_X5_isOdd : List (Nat × mm_Ca) := [(64, (0, 4, 14, sp_X5_waysOf, 0))]
abbrev rr_X5_isOdd (Q : mm_Q) := mm_run (mm_look flX5) (mm_look ct_X5_isOdd) mm_x0 (mm_look ([] : List (Nat × Int))) (fun _ => none) 2 0 (fun _ _ => none) Q kdX5_isOdd
set_option maxRecDepth 20000 in
theorem rn_X5_isOdd : mm_RN flX5 ct_X5_isOdd mm_x0 [] 2 0 3 kdX5_isOdd sp_X5_isOdd := by
  intro av M d Q h
  unfold sp_X5_isOdd at h
  split at h
  · rename_i o S c
    obtain ⟨rfl, ht, hS, hc, hq⟩ := h
    have t4 := ht.2.2.1
    refine ⟨Nat.le_of_ble_eq_true rfl, mm_run_at (stop := []) (S := mm_F0) kkX5_isOdd 80 ?_ mm_F0h⟩
    simp only [mm_wp, mm_op, mm_nxt, mm_jmp, mm_at, mm_in, mm_nth, mm_set, mm_ok, mm_isL, mm_ret, mm_isRet, mm_bool, mm_call, mm_push, mm_rv, mm_cats, mm_cat, mm_look, mm_ft, mm_fv, mm_pf, mm_thr, mm_ent, mm_pad, mm_fl, beq_self_eq_true, cond_true, cond_false, Nat.reduceBEq, Nat.reduceEqDiff, List.drop_succ_cons, List.drop_zero, List.take_succ_cons, List.take_zero, List.reverse_cons, List.reverse_nil, List.nil_append, List.cons_append, List.length_cons, List.length_nil, Nat.reduceAdd, Nat.reduceSub, Nat.reduceLeDiff, Bool.not_false, Bool.and_true, Bool.true_and, Nat.zero_add, true_and, and_true, Nat.le_refl, true_or, or_true, reduceCtorEq, Nat.add_zero, Nat.reduceLT, Bool.and_self, Bool.not_true, Fin.isValue, Nat.reduceLeDiff, List.take_nil, List.drop_nil, mm_i1, mm_i2, mm_i3, mm_i4, mm_i5, mm_i6, mm_i7, mm_i16, mm_i17, mm_i18, mm_i19, mm_i20, mm_i21, mm_i22, mm_i23, mm_l3, mm_l4, mm_l5, mm_l6, mm_l7, mm_l18, mm_l19, mm_l20, mm_l21, mm_l22, kdX5_isOdd, ct_X5_isOdd, flX5, sp_X5_waysOf]
    refine ⟨⟨by omega, by omega⟩, fun h => ⟨ht, hS, hc, ⟨by omega, by omega⟩, fun r hr => ?_⟩, fun h => ⟨ht, hS, hc, ⟨by omega, by omega⟩, fun r hr => ⟨ht, hS, hc, ⟨by omega, by omega⟩, fun r2 hr2 => ?_⟩⟩⟩
    rotate_left
    · have h1 := hr.2.1 (by simp)
      have h2 := hr2.2.2.1 (by simp) (by simp)
      exact ⟨⟨by omega, by omega⟩, ⟨by omega, by omega⟩, fun h3 => hq _ ⟨by omega, by omega, by omega⟩, fun h3 => hq _ ⟨by omega, by omega, by omega⟩⟩
    rw [Int.tmod_eq_emod_of_nonneg (show 0 ≤ r by omega)]
    have h0 := hr.1 (by simp)
    exact ⟨⟨by omega, by omega⟩, ⟨by omega, by omega⟩, by omega, ⟨by omega, by omega⟩, ⟨by omega, by omega⟩, fun h3 => hq _ ⟨by omega, by omega, by omega⟩, fun h3 => hq _ ⟨by omega, by omega, by omega⟩⟩
  · exact h.elim
theorem me_X5_isOdd {l : Launch} (hl : l.stackTraces = false) : mm_Met l yX5_isOdd cX5_isOdd 3 (some .boolean) [] 8 147 0 sp_X5_isOdd := mm_mt hl rn_X5_isOdd ⟨plX5, rfl⟩ kkX5_isOdd rfl ⟨Nat.le_of_ble_eq_true rfl, Nat.le_of_ble_eq_true rfl⟩ flkX5 (fun _ h => nomatch h) (⟨mm_pe (me_X5_waysOf hl) mwX5_waysOf (mm_t6 217 rfl rfl) (Nat.le_of_ble_eq_true rfl) (Nat.le_of_ble_eq_true rfl), trivial⟩) (mm_xe0 _) n9X5
def sp_X5_oddOf : mm_S := fun av M d Q => match av with
  | [.inr (.inr (.inl o)), .inl S] =>  o = 17 ∧ tX M ∧ (0 ≤ S ∧ S < 1073741824) ∧ ∀ r, r = odn (M 18) (M 19) (M 17 1).toNat (M 17 4) S 10 ∧ 0 ≤ r ∧ r ≤ 10 → Q (.inl (some (mm_I r))) M d
  | _ => False
def ct_X5_oddOf : List (Nat × mm_Ca) := [(68, (0, 3, 14, sp_X5_isOdd, 0)), (56, (1, 1, 0, sp_X5_one, 0))]
abbrev rr_X5_oddOf (Q : mm_Q) := mm_run (mm_look flX5) (mm_look ct_X5_oddOf) mm_x0 (mm_look ([] : List (Nat × Int))) (fun _ => none) 1 0 (fun _ _ => none) Q kdX5_oddOf
set_option maxRecDepth 20000 in
theorem lp_X5_oddOf {M : mm_M} {d : List Nat} {Q : mm_Q} {S : Int} {n : Nat} (ht : tX M) (hS : 0 ≤ S ∧ S < 1073741824) (hn : (M 17 1).toNat = n) (hq : ∀ r, r = odn (M 18) (M 19) n (M 17 4) S 10 ∧ 0 ≤ r ∧ r ≤ 10 → Q (.inl (some (mm_I r))) M d) : ∀ (k i : Nat), i + k = 10 → (0 ≤ odn (M 18) (M 19) n (M 17 4) S i ∧ odn (M 18) (M 19) n (M 17 4) S i ≤ i) → rr_X5_oddOf Q 4 [some (mm_R 17), some (mm_I S), some (mm_I (odn (M 18) (M 19) n (M 17 4) S i)), some (mm_I i)] [] M d 0 := by
  intro k
  induction k with
  | zero =>
    intro i hi hb
    refine mm_run_at (stop := [4]) (S := rr_X5_oddOf Q) kkX5_oddOf 60 ?_ (fun _ _ _ _ _ _ _ h => h)
    simp only [mm_wp, mm_op, mm_nxt, mm_jmp, mm_at, mm_in, mm_nth, mm_set, mm_ok, mm_isL, mm_ret, mm_isRet, mm_bool, mm_call, mm_push, mm_rv, mm_cats, mm_cat, mm_look, mm_ft, mm_fv, mm_pf, mm_thr, mm_ent, mm_pad, mm_fl, beq_self_eq_true, cond_true, cond_false, Nat.reduceBEq, Nat.reduceEqDiff, List.drop_succ_cons, List.drop_zero, List.take_succ_cons, List.take_zero, List.reverse_cons, List.reverse_nil, List.nil_append, List.cons_append, List.length_cons, List.length_nil, Nat.reduceAdd, Nat.reduceSub, Nat.reduceLeDiff, Bool.not_false, Bool.and_true, Bool.true_and, Nat.zero_add, true_and, and_true, Nat.le_refl, true_or, or_true, reduceCtorEq, Nat.add_zero, Nat.reduceLT, Bool.and_self, Bool.not_true, Fin.isValue, Nat.reduceLeDiff, List.take_nil, List.drop_nil, mm_i1, mm_i2, mm_i3, mm_i4, mm_i5, mm_i6, mm_i7, mm_i16, mm_i17, mm_i18, mm_i19, mm_i20, mm_i21, mm_i22, mm_i23, mm_l3, mm_l4, mm_l5, mm_l6, mm_l7, mm_l18, mm_l19, mm_l20, mm_l21, mm_l22, kdX5_oddOf, ct_X5_oddOf, flX5, sp_X5_isOdd, sp_X5_one]
    have e : i = 10 := by omega
    subst e
    exact ⟨by omega, ⟨by omega, by omega⟩, ⟨by omega, by omega⟩, fun _ => hq _ ⟨rfl, by omega, by omega⟩, fun h => by omega⟩
  | succ k ih =>
    intro i hi hb
    refine mm_run_at (stop := [4]) (S := rr_X5_oddOf Q) kkX5_oddOf 60 ?_ (fun _ _ _ _ _ _ _ h => h)
    simp only [mm_wp, mm_op, mm_nxt, mm_jmp, mm_at, mm_in, mm_nth, mm_set, mm_ok, mm_isL, mm_ret, mm_isRet, mm_bool, mm_call, mm_push, mm_rv, mm_cats, mm_cat, mm_look, mm_ft, mm_fv, mm_pf, mm_thr, mm_ent, mm_pad, mm_fl, beq_self_eq_true, cond_true, cond_false, Nat.reduceBEq, Nat.reduceEqDiff, List.drop_succ_cons, List.drop_zero, List.take_succ_cons, List.take_zero, List.reverse_cons, List.reverse_nil, List.nil_append, List.cons_append, List.length_cons, List.length_nil, Nat.reduceAdd, Nat.reduceSub, Nat.reduceLeDiff, Bool.not_false, Bool.and_true, Bool.true_and, Nat.zero_add, true_and, and_true, Nat.le_refl, true_or, or_true, reduceCtorEq, Nat.add_zero, Nat.reduceLT, Bool.and_self, Bool.not_true, Fin.isValue, Nat.reduceLeDiff, List.take_nil, List.drop_nil, mm_i1, mm_i2, mm_i3, mm_i4, mm_i5, mm_i6, mm_i7, mm_i16, mm_i17, mm_i18, mm_i19, mm_i20, mm_i21, mm_i22, mm_i23, mm_l3, mm_l4, mm_l5, mm_l6, mm_l7, mm_l18, mm_l19, mm_l20, mm_l21, mm_l22, kdX5_oddOf, ct_X5_oddOf, flX5, sp_X5_isOdd, sp_X5_one]
    have e : odn (M 18) (M 19) n (M 17 4) S (i + 1) = odn (M 18) (M 19) n (M 17 4) S i + (if M 17 4 = 0 then (oc (M 18) S i n + oc (M 19) S i n) % 2 else if oc (M 18) S i n = oc (M 19) S i n then 0 else 1) := rfl
    refine ⟨by omega, ⟨by omega, by omega⟩, ⟨by omega, by omega⟩, fun h => by omega, fun _ => ⟨ht, hS, ⟨by omega, by omega⟩, fun r hr => ?_⟩⟩
    rw [hn] at hr
    have hr2 : r = (if M 17 4 = 0 then (oc (M 18) S i n + oc (M 19) S i n) % 2 else if oc (M 18) S i n = oc (M 19) S i n then 0 else 1) := by
      split
      · exact hr.1 (by assumption)
      · split
        · exact hr.2.1 (by assumption) (by assumption)
        · exact hr.2.2 (by assumption) (by assumption)
    have hr3 : r = 0 ∨ r = 1 := by
      rw [hr2]
      split
      · omega
      · split <;> omega
    refine ⟨hr3, ?_⟩
    have h9 := ih (i + 1) (by omega) (by omega)
    rw [e, ← hr2] at h9
    exact h9
set_option maxRecDepth 20000 in
theorem rn_X5_oddOf : mm_RN flX5 ct_X5_oddOf mm_x0 [] 1 0 4 kdX5_oddOf sp_X5_oddOf := by
  intro av M d Q h
  unfold sp_X5_oddOf at h
  split at h
  · rename_i o S
    obtain ⟨rfl, ht, hS, hq⟩ := h
    refine ⟨Nat.le_of_ble_eq_true rfl, mm_run_at (stop := [4]) (S := rr_X5_oddOf Q) kkX5_oddOf 80 ?_ (fun _ _ _ _ _ _ _ h => h)⟩
    simp only [mm_wp, mm_op, mm_nxt, mm_jmp, mm_at, mm_in, mm_nth, mm_set, mm_ok, mm_isL, mm_ret, mm_isRet, mm_bool, mm_call, mm_push, mm_rv, mm_cats, mm_cat, mm_look, mm_ft, mm_fv, mm_pf, mm_thr, mm_ent, mm_pad, mm_fl, beq_self_eq_true, cond_true, cond_false, Nat.reduceBEq, Nat.reduceEqDiff, List.drop_succ_cons, List.drop_zero, List.take_succ_cons, List.take_zero, List.reverse_cons, List.reverse_nil, List.nil_append, List.cons_append, List.length_cons, List.length_nil, Nat.reduceAdd, Nat.reduceSub, Nat.reduceLeDiff, Bool.not_false, Bool.and_true, Bool.true_and, Nat.zero_add, true_and, and_true, Nat.le_refl, true_or, or_true, reduceCtorEq, Nat.add_zero, Nat.reduceLT, Bool.and_self, Bool.not_true, Fin.isValue, Nat.reduceLeDiff, List.take_nil, List.drop_nil, mm_i1, mm_i2, mm_i3, mm_i4, mm_i5, mm_i6, mm_i7, mm_i16, mm_i17, mm_i18, mm_i19, mm_i20, mm_i21, mm_i22, mm_i23, mm_l3, mm_l4, mm_l5, mm_l6, mm_l7, mm_l18, mm_l19, mm_l20, mm_l21, mm_l22, kdX5_oddOf, ct_X5_oddOf, flX5, sp_X5_isOdd, sp_X5_one]
    exact lp_X5_oddOf ht hS rfl hq 10 0 (by omega) (by simp [odn])
  · exact h.elim
theorem me_X5_oddOf {l : Launch} (hl : l.stackTraces = false) : mm_Met l yX5_oddOf cX5_oddOf 4 (some .int) [] 9 169 0 sp_X5_oddOf := mm_mt hl rn_X5_oddOf ⟨plX5, rfl⟩ kkX5_oddOf rfl ⟨Nat.le_of_ble_eq_true rfl, Nat.le_of_ble_eq_true rfl⟩ flkX5 (fun _ h => nomatch h) (⟨mm_pe (me_X5_isOdd hl) mwX5_isOdd (mm_t6 232 rfl rfl) (Nat.le_of_ble_eq_true rfl) (Nat.le_of_ble_eq_true rfl), mm_pe (me_X5_one hl) mwX5_one (mm_t6 170 rfl rfl) (Nat.le_of_ble_eq_true rfl) (Nat.le_of_ble_eq_true rfl), trivial⟩) (mm_xe0 _) n9X5
theorem mm_xorm {x : Int} (h : InI x) : mm_xor x (-1) = -x - 1 := by
  have e1 : Int32.ofInt x ^^^ Int32.ofInt (-1) = Int32.ofInt (-x - 1) := by
    apply Int32.toBitVec_inj.mp
    rw [Int32.toBitVec_xor, Int32.toBitVec_ofInt, Int32.toBitVec_ofInt, Int32.toBitVec_ofInt]
    have e2 : BitVec.ofInt 32 (-1) = BitVec.allOnes 32 := by decide
    rw [e2, BitVec.xor_allOnes, show -x - 1 = -x + -1 by omega, BitVec.ofInt_add, BitVec.ofInt_neg, e2, BitVec.neg_eq_not_add]
    rw [BitVec.add_assoc, show (1#32 : BitVec 32) + BitVec.allOnes 32 = 0#32 by decide, BitVec.add_zero]
  have h2 : InI (-x - 1) := by
    unfold InI at h ⊢
    omega
  unfold mm_xor
  rw [e1]
  exact mm_toInt h2
/-- the least street of a set alone -/
theorem low_bit {S : Int} (hS : 0 ≤ S ∧ S < 1073741824) : (0 ≤ mm_and S (-S) ∧ mm_and S (-S) < 1073741824) ∧ ∀ k, k < 32 → (bt (mm_and S (-S)) k = 1 ↔ fst S k) := by
  by_cases h0 : S = 0
  · subst h0
    have e : mm_and 0 (-0) = 0 := by decide
    rw [e]
    refine ⟨by omega, fun k _ => ⟨fun h => ?_, fun h => ?_⟩⟩
    · rw [bt_0] at h; omega
    · have := h.1; rw [bt_0] at this; omega
  · have hx : mm_and S (-S) = mm_and S (mm_xor (S - 1) (-1)) := by
      rw [mm_xorm ⟨by omega, by omega⟩, show -(S - 1) - 1 = -S by omega]
    rw [hx]
    obtain ⟨h1, h2⟩ := mm_andn_bt (a := S) (b := S - 1) ⟨hS.1, by omega⟩ ⟨by omega, by omega⟩
    refine ⟨⟨h1.1, ?_⟩, fun k hk => ?_⟩
    · have := bt_sub_le h1.1 hS.1 (fun k hk => by
        by_cases hk2 : k < 32
        · rw [h2 k hk2] at hk
          have := bt_01 S k
          have := bt_01 (S - 1) k
          rcases bt_01 S k with e | e <;> rcases bt_01 (S - 1) k with e2 | e2 <;> rw [e, e2] at hk <;> omega
        · exfalso
          obtain ⟨n, hn⟩ := Int.eq_ofNat_of_zero_le h1.1
          rw [hn, bt_nat, Nat.testBit_lt_two_pow (Nat.lt_of_lt_of_le (by omega : n < 2 ^ 31) (Nat.pow_le_pow_right (by decide) (by omega)))] at hk
          simp at hk)
      omega
    · rw [h2 k hk]
      obtain ⟨n, hn⟩ := Int.eq_ofNat_of_zero_le hS.1
      subst hn
      have hp : 0 < 2 ^ k := Nat.two_pow_pos k
      have hlow : n % 2 ^ k = 0 ↔ ∀ j, j < k → bt (n : Int) j = 0 := by
        constructor
        · intro h j hj
          have h3 := Nat.testBit_mod_two_pow n k j
          rw [h, Nat.zero_testBit] at h3
          rw [bt_nat]
          cases e : n.testBit j
          · simp
          · rw [e] at h3; simp [hj] at h3
        · intro h
          apply Nat.eq_of_testBit_eq
          intro j
          rw [Nat.testBit_mod_two_pow, Nat.zero_testBit]
          by_cases hj : j < k
          · have := h j hj
            rw [bt_nat] at this
            cases e : n.testBit j
            · simp
            · rw [e] at this; simp at this
          · simp [hj]
      have ev : bt (n : Int) k = ((n / 2 ^ k % 2 : Nat) : Int) := by unfold bt; norm_cast
      have ev2 : bt ((n : Int) - 1) k = (((n - 1) / 2 ^ k % 2 : Nat) : Int) := by
        have : ((n : Int) - 1) = ((n - 1 : Nat) : Int) := by omega
        rw [this]
        unfold bt
        norm_cast
      have hdm := Nat.div_add_mod n (2 ^ k)
      have hml := Nat.mod_lt n hp
      unfold fst
      rw [← hlow, ev, ev2]
      by_cases hr : n % 2 ^ k = 0
      · by_cases hq : n / 2 ^ k % 2 = 1
        · obtain ⟨q', hq'⟩ : ∃ q', n / 2 ^ k = q' + 1 := Nat.exists_eq_succ_of_ne_zero (fun h => by rw [h] at hq; simp at hq)
          have h3 : (n - 1) / 2 ^ k = q' := by
            rw [hr, hq', Nat.mul_add, Nat.mul_one, Nat.mul_comm] at hdm
            apply Nat.div_eq_of_lt_le
            · clear hml ev ev2 hlow hq h2 h1 hr; generalize 2 ^ k = P at hdm hp ⊢; omega
            · clear hml ev ev2 hlow hq h2 h1 hr; rw [Nat.add_mul, Nat.one_mul]; generalize 2 ^ k = P at hdm hp ⊢; omega
          have h4 : q' % 2 = 0 := by rw [hq'] at hq; omega
          rw [h3, hq, h4]
          simp [hr]
        · have h5 : n / 2 ^ k % 2 = 0 := by omega
          rw [h5]
          simp
      · have h3 : (n - 1) / 2 ^ k = n / 2 ^ k := by
          clear ev ev2 hlow h2 h1
          generalize n % 2 ^ k = r at hdm hml hr
          generalize n / 2 ^ k = q at hdm ⊢
          generalize 2 ^ k = P at hdm hml hp ⊢
          rw [Nat.mul_comm] at hdm
          apply Nat.div_eq_of_lt_le
          · omega
          · rw [Nat.add_mul, Nat.one_mul]; omega
        rw [h3]
        have := Nat.mod_two_eq_zero_or_one (n / 2 ^ k)
        rcases this with h | h <;> rw [h] <;> simp [hr]

