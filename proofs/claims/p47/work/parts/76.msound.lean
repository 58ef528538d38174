/-! the model: is all so; digest -/
theorem all_in {n : Nat} : ∀ r : Int, r = 2 ^ n - 1 ∧ 0 ≤ r ∧ r < 1073741824 → ∀ k, bt r k = 1 → k < n := fun r h k hk => all_sub k (by rw [← h.1]; exact hk)
theorem at_X5_isWalk_0 : mm_at 0 kdX5_isWalk = [(0, .aload_n 0, 0), (1, .iload_n 1, 0), (2, .invokevirtual 108, 0), (5, .istore_n 2, 0), (6, .aload_n 0, 0), (7, .getfield 19, 0), (10, .iload_n 1, 0), (11, .iaload, 0), (12, .iconst 1, 0), (13, .isub, 0), (14, .istore_n 3, 0), (15, .iload_n 3, 0), (16, .ifCond .lt 98, 114), (19, .aload_n 0, 0), (20, .iload_n 1, 0), (21, .iload_n 3, 0), (22, .invokevirtual 98, 0), (25, .istore 4, 0), (27, .iload 4, 0), (29, .iconst 2, 0), (30, .idiv, 0), (31, .aload_n 0, 0), (32, .getfield 49, 0), (35, .if_icmp .ge 26, 61), (38, .aload_n 0, 0), (39, .iload 4, 0), (41, .invokevirtual 102, 0), (44, .iload_n 2, 0), (45, .if_icmp .ne 16, 61), (48, .aload_n 0, 0), (49, .iload_n 1, 0), (50, .iload 4, 0), (52, .iconst 2, 0), (53, .idiv, 0), (54, .invokevirtual 165, 0), (57, .iload_n 3, 0), (58, .if_icmp .eq 5, 63), (61, .iconst 0, 0), (62, .ireturn, 0), (63, .iload 4, 0), (65, .iconst 2, 0), (66, .irem, 0), (67, .iconst 1, 0), (68, .if_icmp .ne 33, 101), (71, .aload_n 0, 0), (72, .getfield 60, 0), (75, .ifCond .ne 24, 99), (78, .aload_n 0, 0), (79, .getfield 9, 0), (82, .iload 4, 0), (84, .iconst 2, 0), (85, .idiv, 0), (86, .iaload, 0), (87, .aload_n 0, 0), (88, .getfield 13, 0), (91, .iload 4, 0), (93, .iconst 2, 0), (94, .idiv, 0), (95, .iaload, 0), (96, .if_icmp .ne 5, 101), (99, .iconst 0, 0), (100, .ireturn, 0), (101, .aload_n 0, 0), (102, .iload 4, 0), (104, .invokevirtual 187, 0), (107, .istore_n 2, 0), (108, .iinc 3 (-1), 0), (111, .goto (-96), 15), (114, .iload_n 2, 0), (115, .aload_n 0, 0), (116, .getfield 22, 0), (119, .iload_n 1, 0), (120, .iaload, 0), (121, .if_icmp .ne 7, 128), (124, .iconst 1, 0), (125, .goto 4, 129), (128, .iconst 0, 0), (129, .ireturn, 0)] := rfl
theorem at_X5_isWalk_15 : mm_at 15 kdX5_isWalk = [(15, .iload_n 3, 0), (16, .ifCond .lt 98, 114), (19, .aload_n 0, 0), (20, .iload_n 1, 0), (21, .iload_n 3, 0), (22, .invokevirtual 98, 0), (25, .istore 4, 0), (27, .iload 4, 0), (29, .iconst 2, 0), (30, .idiv, 0), (31, .aload_n 0, 0), (32, .getfield 49, 0), (35, .if_icmp .ge 26, 61), (38, .aload_n 0, 0), (39, .iload 4, 0), (41, .invokevirtual 102, 0), (44, .iload_n 2, 0), (45, .if_icmp .ne 16, 61), (48, .aload_n 0, 0), (49, .iload_n 1, 0), (50, .iload 4, 0), (52, .iconst 2, 0), (53, .idiv, 0), (54, .invokevirtual 165, 0), (57, .iload_n 3, 0), (58, .if_icmp .eq 5, 63), (61, .iconst 0, 0), (62, .ireturn, 0), (63, .iload 4, 0), (65, .iconst 2, 0), (66, .irem, 0), (67, .iconst 1, 0), (68, .if_icmp .ne 33, 101), (71, .aload_n 0, 0), (72, .getfield 60, 0), (75, .ifCond .ne 24, 99), (78, .aload_n 0, 0), (79, .getfield 9, 0), (82, .iload 4, 0), (84, .iconst 2, 0), (85, .idiv, 0), (86, .iaload, 0), (87, .aload_n 0, 0), (88, .getfield 13, 0), (91, .iload 4, 0), (93, .iconst 2, 0), (94, .idiv, 0), (95, .iaload, 0), (96, .if_icmp .ne 5, 101), (99, .iconst 0, 0), (100, .ireturn, 0), (101, .aload_n 0, 0), (102, .iload 4, 0), (104, .invokevirtual 187, 0), (107, .istore_n 2, 0), (108, .iinc 3 (-1), 0), (111, .goto (-96), 15), (114, .iload_n 2, 0), (115, .aload_n 0, 0), (116, .getfield 22, 0), (119, .iload_n 1, 0), (120, .iaload, 0), (121, .if_icmp .ne 7, 128), (124, .iconst 1, 0), (125, .goto 4, 129), (128, .iconst 0, 0), (129, .ireturn, 0)] := rfl
theorem at_X5_isWalk_61 : mm_at 61 kdX5_isWalk = [(61, .iconst 0, 0), (62, .ireturn, 0), (63, .iload 4, 0), (65, .iconst 2, 0), (66, .irem, 0), (67, .iconst 1, 0), (68, .if_icmp .ne 33, 101), (71, .aload_n 0, 0), (72, .getfield 60, 0), (75, .ifCond .ne 24, 99), (78, .aload_n 0, 0), (79, .getfield 9, 0), (82, .iload 4, 0), (84, .iconst 2, 0), (85, .idiv, 0), (86, .iaload, 0), (87, .aload_n 0, 0), (88, .getfield 13, 0), (91, .iload 4, 0), (93, .iconst 2, 0), (94, .idiv, 0), (95, .iaload, 0), (96, .if_icmp .ne 5, 101), (99, .iconst 0, 0), (100, .ireturn, 0), (101, .aload_n 0, 0), (102, .iload 4, 0), (104, .invokevirtual 187, 0), (107, .istore_n 2, 0), (108, .iinc 3 (-1), 0), (111, .goto (-96), 15), (114, .iload_n 2, 0), (115, .aload_n 0, 0), (116, .getfield 22, 0), (119, .iload_n 1, 0), (120, .iaload, 0), (121, .if_icmp .ne 7, 128), (124, .iconst 1, 0), (125, .goto 4, 129), (128, .iconst 0, 0), (129, .ireturn, 0)] := rfl
theorem at_X5_isWalk_63 : mm_at 63 kdX5_isWalk = [(63, .iload 4, 0), (65, .iconst 2, 0), (66, .irem, 0), (67, .iconst 1, 0), (68, .if_icmp .ne 33, 101), (71, .aload_n 0, 0), (72, .getfield 60, 0), (75, .ifCond .ne 24, 99), (78, .aload_n 0, 0), (79, .getfield 9, 0), (82, .iload 4, 0), (84, .iconst 2, 0), (85, .idiv, 0), (86, .iaload, 0), (87, .aload_n 0, 0), (88, .getfield 13, 0), (91, .iload 4, 0), (93, .iconst 2, 0), (94, .idiv, 0), (95, .iaload, 0), (96, .if_icmp .ne 5, 101), (99, .iconst 0, 0), (100, .ireturn, 0), (101, .aload_n 0, 0), (102, .iload 4, 0), (104, .invokevirtual 187, 0), (107, .istore_n 2, 0), (108, .iinc 3 (-1), 0), (111, .goto (-96), 15), (114, .iload_n 2, 0), (115, .aload_n 0, 0), (116, .getfield 22, 0), (119, .iload_n 1, 0), (120, .iaload, 0), (121, .if_icmp .ne 7, 128), (124, .iconst 1, 0), (125, .goto 4, 129), (128, .iconst 0, 0), (129, .ireturn, 0)] := rfl
theorem at_X5_isWalk_99 : mm_at 99 kdX5_isWalk = [(99, .iconst 0, 0), (100, .ireturn, 0), (101, .aload_n 0, 0), (102, .iload 4, 0), (104, .invokevirtual 187, 0), (107, .istore_n 2, 0), (108, .iinc 3 (-1), 0), (111, .goto (-96), 15), (114, .iload_n 2, 0), (115, .aload_n 0, 0), (116, .getfield 22, 0), (119, .iload_n 1, 0), (120, .iaload, 0), (121, .if_icmp .ne 7, 128), (124, .iconst 1, 0), (125, .goto 4, 129), (128, .iconst 0, 0), (129, .ireturn, 0)] := rfl
theorem at_X5_isWalk_101 : mm_at 101 kdX5_isWalk = [(101, .aload_n 0, 0), (102, .iload 4, 0), (104, .invokevirtual 187, 0), (107, .istore_n 2, 0), (108, .iinc 3 (-1), 0), (111, .goto (-96), 15), (114, .iload_n 2, 0), (115, .aload_n 0, 0), (116, .getfield 22, 0), (119, .iload_n 1, 0), (120, .iaload, 0), (121, .if_icmp .ne 7, 128), (124, .iconst 1, 0), (125, .goto 4, 129), (128, .iconst 0, 0), (129, .ireturn, 0)] := rfl
theorem at_X5_isWalk_114 : mm_at 114 kdX5_isWalk = [(114, .iload_n 2, 0), (115, .aload_n 0, 0), (116, .getfield 22, 0), (119, .iload_n 1, 0), (120, .iaload, 0), (121, .if_icmp .ne 7, 128), (124, .iconst 1, 0), (125, .goto 4, 129), (128, .iconst 0, 0), (129, .ireturn, 0)] := rfl
theorem at_X5_isWalk_128 : mm_at 128 kdX5_isWalk = [(128, .iconst 0, 0), (129, .ireturn, 0)] := rfl
theorem at_X5_isWalk_129 : mm_at 129 kdX5_isWalk = [(129, .ireturn, 0)] := rfl
def sp_X5_isWalk : mm_S := fun av M d Q => match av with
  | [.inr (.inr (.inl o)), .inl a] =>  o = 17 ∧ xA M ∧ (0 ≤ a ∧ a < 3) ∧ ∀ r, (r = 0 ∨ r = 1) → Q (.inl (some (mm_I r))) M d
  | _ => False
def ct_X5_isWalk : List (Nat × mm_Ca) := [(108, (0, 2, 14, sp_X5_endOf, 0)), (98, (0, 3, 14, sp_X5_stepOf, 0)), (102, (0, 2, 14, sp_X5_comesTo, 0)), (165, (0, 3, 14, sp_X5_placeOf, 0)), (187, (0, 2, 14, sp_X5_goesFrom, 0))]
abbrev rr_X5_isWalk (Q : mm_Q) := mm_run (mm_look flX5) (mm_look ct_X5_isWalk) mm_x0 (mm_look ([] : List (Nat × Int))) (fun _ => none) 2 0 (fun _ _ => none) Q kdX5_isWalk
set_option maxRecDepth 20000 in
theorem lp_X5_isWalk {M : mm_M} {d : List Nat} {Q : mm_Q} {k n : Nat} (hk : k < 3) (ha : xA M) (hn : M 21 k = n) (hq : ∀ r, (r = 0 ∨ r = 1) → Q (.inl (some (mm_I r))) M d) : ∀ (j : Nat) (c : Int) (x4 : Option mm_V), j ≤ n → (0 ≤ c ∧ c < 10) → rr_X5_isWalk Q 15 [some (mm_R 17), some (mm_I k), some (mm_I c), some (mm_I ((j : Int) - 1)), x4] [] M d 0 := by
  have ht := ha.t
  have t1 := ht.1
  have mv := ha.v hk
  have v1 := mv.1
  have v2 := mv.2.1
  have hb := xA_b ha
  have q0 := hq 0 (Or.inl rfl)
  have q1 := hq 1 (Or.inr rfl)
  intro j
  induction j with
  | zero =>
    intro c x4 hj hc
    obtain ⟨K, hK, hK2⟩ : ∃ K : Nat → mm_K, (∀ t ls st M d u, K t ls st M d u → rr_X5_isWalk Q t ls st M d u) ∧ (∀ t ls st M d u, rr_X5_isWalk Q t ls st M d u → K t ls st M d u) := ⟨rr_X5_isWalk Q, fun _ _ _ _ _ _ h => h, fun _ _ _ _ _ _ h => h⟩
    refine mm_run_at (stop := [19]) (S := K) kkX5_isWalk 90 ?_ (fun _ _ _ _ _ _ _ h => hK _ _ _ _ _ _ h)
    repeat' (first | with_reducible assumption | with_reducible exact True.intro | with_reducible exact mm_i17 | with_reducible exact mm_i18 | with_reducible exact mm_i19 | with_reducible exact mm_i20 | with_reducible exact mm_i21 | with_reducible exact mm_i22 | ((with_reducible show mm_rv _ _ _ _ _); first | exact True.intro | exact mm_i17 | exact mm_i18 | exact mm_i19 | exact mm_i20 | exact mm_i21 | exact mm_i22) | ((with_reducible show mm_bool _ _); first | exact True.intro | exact Or.inl rfl | exact Or.inr rfl | (show (_ : Int) = 0 ∨ _ = 1)) | rfl | with_reducible exact Or.inl rfl | with_reducible exact Or.inr rfl | exact Nat.le_of_ble_eq_true rfl | refine And.intro ?_ ?_ | intro _)
    all_goals (try simp (disch := omega) only [InI, Int.toNat_natCast, Int.tmod_eq_emod_of_nonneg, Int.tdiv_eq_ediv_of_nonneg, true_implies, true_or, or_true, mm_l18, mm_l19, mm_l20, mm_l21, mm_l22] at *)
    all_goals first | omega | exact q0 | exact q1 | skip
  | succ j ih =>
    intro c x4 hj hc
    have e9 : ((j + 1 : Nat) : Int) - 1 = j := by omega
    rw [e9]
    obtain ⟨st, est⟩ : ∃ st, st = M 20 (30 * k + j) := ⟨_, rfl⟩
    have w1 := mv.2.2 j (by omega)
    rw [← est] at w1
    have b1 := ht.2.1 (st / 2).toNat (by omega)
    obtain ⟨K, hK, hK2⟩ : ∃ K : Nat → mm_K, (∀ t ls st M d u, K t ls st M d u → rr_X5_isWalk Q t ls st M d u) ∧ (∀ t ls st M d u, rr_X5_isWalk Q t ls st M d u → K t ls st M d u) := ⟨rr_X5_isWalk Q, fun _ _ _ _ _ _ h => h, fun _ _ _ _ _ _ h => h⟩
    have nx := fun c x4 hc => hK2 _ _ _ _ _ _ (ih c x4 (by omega) hc)
    have k101 : K 101 [some (mm_R 17), some (mm_I k), some (mm_I c), some (mm_I j), some (mm_I st)] [] M d 0 := by
      refine hK2 _ _ _ _ _ _ ?_
      refine mm_run_at (stop := [15]) (S := K) kkX5_isWalk 90 ?_ (fun _ _ _ _ _ _ _ h => hK _ _ _ _ _ _ h)
      repeat' (first | with_reducible assumption | with_reducible exact True.intro | with_reducible exact mm_i17 | with_reducible exact mm_i18 | with_reducible exact mm_i19 | with_reducible exact mm_i20 | with_reducible exact mm_i21 | with_reducible exact mm_i22 | ((with_reducible show mm_rv _ _ _ _ _); first | exact True.intro | exact mm_i17 | exact mm_i18 | exact mm_i19 | exact mm_i20 | exact mm_i21 | exact mm_i22) | ((with_reducible show mm_bool _ _); first | exact True.intro | exact Or.inl rfl | exact Or.inr rfl | (show (_ : Int) = 0 ∨ _ = 1)) | rfl | with_reducible exact Or.inl rfl | with_reducible exact Or.inr rfl | exact Nat.le_of_ble_eq_true rfl | refine And.intro ?_ ?_ | intro _)
      all_goals (try simp (disch := omega) only [InI, Int.toNat_natCast, Int.tmod_eq_emod_of_nonneg, Int.tdiv_eq_ediv_of_nonneg, true_implies, true_or, or_true, mm_l18, mm_l19, mm_l20, mm_l21, mm_l22] at *)
      all_goals first | omega | exact nx _ _ (by omega) | skip
    have k63 : K 63 [some (mm_R 17), some (mm_I k), some (mm_I c), some (mm_I j), some (mm_I st)] [] M d 0 := by
      refine hK2 _ _ _ _ _ _ ?_
      refine mm_run_at (stop := [101]) (S := K) kkX5_isWalk 90 ?_ (fun _ _ _ _ _ _ _ h => hK _ _ _ _ _ _ h)
      repeat' (first | with_reducible assumption | with_reducible exact True.intro | with_reducible exact mm_i17 | with_reducible exact mm_i18 | with_reducible exact mm_i19 | with_reducible exact mm_i20 | with_reducible exact mm_i21 | with_reducible exact mm_i22 | ((with_reducible show mm_rv _ _ _ _ _); first | exact True.intro | exact mm_i17 | exact mm_i18 | exact mm_i19 | exact mm_i20 | exact mm_i21 | exact mm_i22) | ((with_reducible show mm_bool _ _); first | exact True.intro | exact Or.inl rfl | exact Or.inr rfl | (show (_ : Int) = 0 ∨ _ = 1)) | rfl | with_reducible exact Or.inl rfl | with_reducible exact Or.inr rfl | exact Nat.le_of_ble_eq_true rfl | refine And.intro ?_ ?_ | intro _)
      all_goals (try simp (disch := omega) only [InI, Int.toNat_natCast, Int.tmod_eq_emod_of_nonneg, Int.tdiv_eq_ediv_of_nonneg, true_implies, true_or, or_true, mm_l18, mm_l19, mm_l20, mm_l21, mm_l22] at *)
      all_goals first | omega | exact q0 | exact k101 | skip
    have k27 : K 27 [some (mm_R 17), some (mm_I k), some (mm_I c), some (mm_I j), some (mm_I st)] [] M d 0 := by
      refine hK2 _ _ _ _ _ _ ?_
      refine mm_run_at (stop := [63]) (S := K) kkX5_isWalk 90 ?_ (fun _ _ _ _ _ _ _ h => hK _ _ _ _ _ _ h)
      repeat' (first | with_reducible assumption | with_reducible exact True.intro | with_reducible exact mm_i17 | with_reducible exact mm_i18 | with_reducible exact mm_i19 | with_reducible exact mm_i20 | with_reducible exact mm_i21 | with_reducible exact mm_i22 | ((with_reducible show mm_rv _ _ _ _ _); first | exact True.intro | exact mm_i17 | exact mm_i18 | exact mm_i19 | exact mm_i20 | exact mm_i21 | exact mm_i22 | ((with_reducible show mV _ _); exact mv)) | ((with_reducible show mV _ _); exact mv) | ((with_reducible show mm_bool _ _); first | exact True.intro | exact Or.inl rfl | exact Or.inr rfl | (show (_ : Int) = 0 ∨ _ = 1)) | rfl | with_reducible exact Or.inl rfl | with_reducible exact Or.inr rfl | exact Nat.le_of_ble_eq_true rfl | refine And.intro ?_ ?_ | intro _)
      all_goals (try simp (disch := omega) only [InI, Int.toNat_natCast, Int.tmod_eq_emod_of_nonneg, Int.tdiv_eq_ediv_of_nonneg, true_implies, true_or, or_true, mm_l18, mm_l19, mm_l20, mm_l21, mm_l22] at *)
      all_goals first | omega | exact q0 | exact k63 | skip
    rw [est] at k27 w1
    have e6 : (30 * (k : Int).toNat + (j : Int).toNat) = 30 * k + j := by omega
    clear nx k101 k63 ih
    refine mm_run_at (stop := [27, 114]) (S := K) kkX5_isWalk 90 ?_ (fun _ _ _ _ _ _ _ h => hK _ _ _ _ _ _ h)
    repeat' (first | with_reducible assumption | with_reducible exact True.intro | with_reducible exact mm_i17 | with_reducible exact mm_i18 | with_reducible exact mm_i19 | with_reducible exact mm_i20 | with_reducible exact mm_i21 | with_reducible exact mm_i22 | ((with_reducible show mm_rv _ _ _ _ _); first | exact True.intro | exact mm_i17 | exact mm_i18 | exact mm_i19 | exact mm_i20 | exact mm_i21 | exact mm_i22) | ((with_reducible show mm_bool _ _); first | exact True.intro | exact Or.inl rfl | exact Or.inr rfl | (show (_ : Int) = 0 ∨ _ = 1)) | rfl | with_reducible exact Or.inl rfl | with_reducible exact Or.inr rfl | exact Nat.le_of_ble_eq_true rfl | refine And.intro ?_ ?_ | intro _)
    all_goals (try simp (disch := omega) only [e6, InI, Int.toNat_natCast, Int.tmod_eq_emod_of_nonneg, Int.tdiv_eq_ediv_of_nonneg, true_implies, true_or, or_true, mm_l18, mm_l19, mm_l20, mm_l21, mm_l22] at *)
    all_goals first | omega | exact k27 | skip
set_option maxRecDepth 20000 in
theorem rn_X5_isWalk : mm_RN flX5 ct_X5_isWalk mm_x0 [] 2 0 5 kdX5_isWalk sp_X5_isWalk := by
  intro av M d Q h
  unfold sp_X5_isWalk at h
  split at h
  · rename_i o a
    obtain ⟨rfl, ha, hk, hq⟩ := h
    obtain ⟨k, rfl⟩ := Int.eq_ofNat_of_zero_le hk.1
    have hk3 : k < 3 := by omega
    have ht := ha.t
    have mv := ha.v hk3
    have v1 := mv.1
    obtain ⟨n, hn⟩ := Int.eq_ofNat_of_zero_le v1.1
    obtain ⟨K, hK, hK2⟩ : ∃ K : Nat → mm_K, (∀ t ls st M d u, K t ls st M d u → rr_X5_isWalk Q t ls st M d u) ∧ (∀ t ls st M d u, rr_X5_isWalk Q t ls st M d u → K t ls st M d u) := ⟨rr_X5_isWalk Q, fun _ _ _ _ _ _ h => h, fun _ _ _ _ _ _ h => h⟩
    have k15 := fun c hc => hK2 _ _ _ _ _ _ (lp_X5_isWalk (d := d) (Q := Q) hk3 ha hn hq n c none (Nat.le_refl _) hc)
    rw [← hn] at k15
    refine ⟨Nat.le_of_ble_eq_true rfl, ?_⟩
    refine mm_run_at (stop := [15]) (S := K) kkX5_isWalk 90 ?_ (fun _ _ _ _ _ _ _ h => hK _ _ _ _ _ _ h)
    repeat' (first | with_reducible assumption | with_reducible exact True.intro | with_reducible exact mm_i17 | with_reducible exact mm_i18 | with_reducible exact mm_i19 | with_reducible exact mm_i20 | with_reducible exact mm_i21 | with_reducible exact mm_i22 | ((with_reducible show mm_rv _ _ _ _ _); first | exact True.intro | exact mm_i17 | exact mm_i18 | exact mm_i19 | exact mm_i20 | exact mm_i21 | exact mm_i22 | ((with_reducible show mV _ _); exact mv)) | ((with_reducible show mV _ _); exact mv) | ((with_reducible show mm_bool _ _); first | exact True.intro | exact Or.inl rfl | exact Or.inr rfl | (show (_ : Int) = 0 ∨ _ = 1)) | rfl | with_reducible exact Or.inl rfl | with_reducible exact Or.inr rfl | exact Nat.le_of_ble_eq_true rfl | refine And.intro ?_ ?_ | intro _)
    all_goals (try simp (disch := omega) only [InI, Int.toNat_natCast, Int.tmod_eq_emod_of_nonneg, Int.tdiv_eq_ediv_of_nonneg, true_implies, true_or, or_true, mm_l18, mm_l19, mm_l20, mm_l21, mm_l22] at *)
    all_goals first | omega | exact k15 _ (by omega) | skip
  · exact h.elim
theorem me_X5_isWalk {l : Launch} (hl : l.stackTraces = false) : mm_Met l yX5_isWalk cX5_isWalk 5 (some .boolean) [] 9 165 0 sp_X5_isWalk := mm_mt hl rn_X5_isWalk ⟨by decide, rfl⟩ kkX5_isWalk rfl ⟨by decide, by decide⟩ flkX5 (fun _ h => nomatch h) (⟨mm_pe (me_X5_endOf hl) mwX5_endOf (mm_t6 181 rfl rfl) (Nat.le_of_ble_eq_true rfl) (Nat.le_of_ble_eq_true rfl), mm_pe (me_X5_stepOf hl) mwX5_stepOf (mm_t6 158 rfl rfl) (Nat.le_of_ble_eq_true rfl) (Nat.le_of_ble_eq_true rfl), mm_pe (me_X5_comesTo hl) mwX5_comesTo (mm_t6 189 rfl rfl) (Nat.le_of_ble_eq_true rfl) (Nat.le_of_ble_eq_true rfl), mm_pe (me_X5_placeOf hl) mwX5_placeOf (mm_t6 154 rfl rfl) (Nat.le_of_ble_eq_true rfl) (Nat.le_of_ble_eq_true rfl), mm_pe (me_X5_goesFrom hl) mwX5_goesFrom (mm_t7 56 rfl rfl) (Nat.le_of_ble_eq_true rfl) (Nat.le_of_ble_eq_true rfl), trivial⟩) (mm_xe0 _)
theorem at_X5_isCounted_0 : mm_at 0 kdX5_isCounted = [(0, .iconst 0, 0), (1, .istore_n 1, 0), (2, .iconst 0, 0), (3, .istore_n 2, 0), (4, .iconst 0, 0), (5, .istore_n 3, 0), (6, .iload_n 3, 0), (7, .bipush 10, 0), (9, .if_icmp .ge 35, 44), (12, .iload_n 1, 0), (13, .aload_n 0, 0), (14, .aload_n 0, 0), (15, .invokevirtual 79, 0), (18, .iload_n 3, 0), (19, .iconst 1, 0), (20, .invokevirtual 64, 0), (23, .iadd, 0), (24, .istore_n 1, 0), (25, .iload_n 2, 0), (26, .aload_n 0, 0), (27, .aload_n 0, 0), (28, .invokevirtual 79, 0), (31, .iload_n 3, 0), (32, .iconst 2, 0), (33, .invokevirtual 64, 0), (36, .iadd, 0), (37, .istore_n 2, 0), (38, .iinc 3 1, 0), (41, .goto (-35), 6), (44, .iload_n 1, 0), (45, .aload_n 0, 0), (46, .getfield 49, 0), (49, .if_icmp .ne 35, 84), (52, .iload_n 2, 0), (53, .aload_n 0, 0), (54, .getfield 49, 0), (57, .if_icmp .ne 27, 84), (60, .aload_n 0, 0), (61, .getfield 60, 0), (64, .ifCond .ne 16, 80), (67, .aload_n 0, 0), (68, .aload_n 0, 0), (69, .invokevirtual 79, 0), (72, .invokevirtual 75, 0), (75, .iconst 2, 0), (76, .irem, 0), (77, .ifCond .ne 7, 84), (80, .iconst 1, 0), (81, .goto 4, 85), (84, .iconst 0, 0), (85, .ireturn, 0)] := rfl
theorem at_X5_isCounted_6 : mm_at 6 kdX5_isCounted = [(6, .iload_n 3, 0), (7, .bipush 10, 0), (9, .if_icmp .ge 35, 44), (12, .iload_n 1, 0), (13, .aload_n 0, 0), (14, .aload_n 0, 0), (15, .invokevirtual 79, 0), (18, .iload_n 3, 0), (19, .iconst 1, 0), (20, .invokevirtual 64, 0), (23, .iadd, 0), (24, .istore_n 1, 0), (25, .iload_n 2, 0), (26, .aload_n 0, 0), (27, .aload_n 0, 0), (28, .invokevirtual 79, 0), (31, .iload_n 3, 0), (32, .iconst 2, 0), (33, .invokevirtual 64, 0), (36, .iadd, 0), (37, .istore_n 2, 0), (38, .iinc 3 1, 0), (41, .goto (-35), 6), (44, .iload_n 1, 0), (45, .aload_n 0, 0), (46, .getfield 49, 0), (49, .if_icmp .ne 35, 84), (52, .iload_n 2, 0), (53, .aload_n 0, 0), (54, .getfield 49, 0), (57, .if_icmp .ne 27, 84), (60, .aload_n 0, 0), (61, .getfield 60, 0), (64, .ifCond .ne 16, 80), (67, .aload_n 0, 0), (68, .aload_n 0, 0), (69, .invokevirtual 79, 0), (72, .invokevirtual 75, 0), (75, .iconst 2, 0), (76, .irem, 0), (77, .ifCond .ne 7, 84), (80, .iconst 1, 0), (81, .goto 4, 85), (84, .iconst 0, 0), (85, .ireturn, 0)] := rfl
theorem at_X5_isCounted_44 : mm_at 44 kdX5_isCounted = [(44, .iload_n 1, 0), (45, .aload_n 0, 0), (46, .getfield 49, 0), (49, .if_icmp .ne 35, 84), (52, .iload_n 2, 0), (53, .aload_n 0, 0), (54, .getfield 49, 0), (57, .if_icmp .ne 27, 84), (60, .aload_n 0, 0), (61, .getfield 60, 0), (64, .ifCond .ne 16, 80), (67, .aload_n 0, 0), (68, .aload_n 0, 0), (69, .invokevirtual 79, 0), (72, .invokevirtual 75, 0), (75, .iconst 2, 0), (76, .irem, 0), (77, .ifCond .ne 7, 84), (80, .iconst 1, 0), (81, .goto 4, 85), (84, .iconst 0, 0), (85, .ireturn, 0)] := rfl
theorem at_X5_isCounted_80 : mm_at 80 kdX5_isCounted = [(80, .iconst 1, 0), (81, .goto 4, 85), (84, .iconst 0, 0), (85, .ireturn, 0)] := rfl
theorem at_X5_isCounted_84 : mm_at 84 kdX5_isCounted = [(84, .iconst 0, 0), (85, .ireturn, 0)] := rfl
theorem at_X5_isCounted_85 : mm_at 85 kdX5_isCounted = [(85, .ireturn, 0)] := rfl
def sp_X5_isCounted : mm_S := fun av M d Q => match av with
  | [.inr (.inr (.inl o))] =>  o = 17 ∧ xA M ∧ ∀ r, (r = 0 ∨ r = 1) → Q (.inl (some (mm_I r))) M d
  | _ => False
def ct_X5_isCounted : List (Nat × mm_Ca) := [(79, (0, 1, 14, sp_X5_all, 0)), (64, (0, 4, 14, sp_X5_waysOf, 0)), (75, (0, 2, 14, sp_X5_oddOf, 0))]
abbrev rr_X5_isCounted (Q : mm_Q) := mm_run (mm_look flX5) (mm_look ct_X5_isCounted) mm_x0 (mm_look ([] : List (Nat × Int))) (fun _ => none) 2 0 (fun _ _ => none) Q kdX5_isCounted
set_option maxRecDepth 20000 in
theorem lp_X5_isCounted {M : mm_M} {d : List Nat} {Q : mm_Q} (ha : xA M) (hq : ∀ x y, (0 ≤ x ∧ x ≤ 1000) → (0 ≤ y ∧ y ≤ 1000) → rr_X5_isCounted Q 44 [some (mm_R 17), some (mm_I x), some (mm_I y), some (mm_I 10)] [] M d 0) : ∀ (j i : Nat) (x y : Int), i + j = 10 → (0 ≤ x ∧ x ≤ 60 * i) → (0 ≤ y ∧ y ≤ 60 * i) → rr_X5_isCounted Q 6 [some (mm_R 17), some (mm_I x), some (mm_I y), some (mm_I i)] [] M d 0 := by
  have ht := ha.t
  intro j
  induction j with
  | zero =>
    intro i x y hi hx hy
    have e : i = 10 := by omega
    subst e
    obtain ⟨K, hK, hK2⟩ : ∃ K : Nat → mm_K, (∀ t ls st M d u, K t ls st M d u → rr_X5_isCounted Q t ls st M d u) ∧ (∀ t ls st M d u, rr_X5_isCounted Q t ls st M d u → K t ls st M d u) := ⟨rr_X5_isCounted Q, fun _ _ _ _ _ _ h => h, fun _ _ _ _ _ _ h => h⟩
    have h9 := hK2 _ _ _ _ _ _ (hq x y (by omega) (by omega))
    refine mm_run_at (stop := [12, 44]) (S := K) kkX5_isCounted 90 ?_ (fun _ _ _ _ _ _ _ h => hK _ _ _ _ _ _ h)
    repeat' (first | with_reducible assumption | with_reducible exact True.intro | with_reducible exact mm_i17 | with_reducible exact mm_i18 | with_reducible exact mm_i19 | with_reducible exact mm_i20 | with_reducible exact mm_i21 | with_reducible exact mm_i22 | ((with_reducible show mm_rv _ _ _ _ _); first | exact True.intro | exact mm_i17 | exact mm_i18 | exact mm_i19 | exact mm_i20 | exact mm_i21 | exact mm_i22) | ((with_reducible show mm_bool _ _); first | exact True.intro | exact Or.inl rfl | exact Or.inr rfl | (show (_ : Int) = 0 ∨ _ = 1)) | rfl | with_reducible exact Or.inl rfl | with_reducible exact Or.inr rfl | exact Nat.le_of_ble_eq_true rfl | refine And.intro ?_ ?_ | intro _)
    all_goals (try simp (disch := omega) only [InI, Int.toNat_natCast, Int.tmod_eq_emod_of_nonneg, Int.tdiv_eq_ediv_of_nonneg, true_implies, true_or, or_true, mm_l18, mm_l19, mm_l20, mm_l21, mm_l22] at *)
    all_goals first | omega | exact h9 | skip
  | succ j ih =>
    intro i x y hi hx hy
    obtain ⟨K, hK, hK2⟩ : ∃ K : Nat → mm_K, (∀ t ls st M d u, K t ls st M d u → rr_X5_isCounted Q t ls st M d u) ∧ (∀ t ls st M d u, rr_X5_isCounted Q t ls st M d u → K t ls st M d u) := ⟨rr_X5_isCounted Q, fun _ _ _ _ _ _ h => h, fun _ _ _ _ _ _ h => h⟩
    have st := fun x y hx hy => hK2 _ _ _ _ _ _ (ih (i + 1) x y (by omega) hx hy)
    clear ih
    refine mm_run_at (stop := [6, 44]) (S := K) kkX5_isCounted 90 ?_ (fun _ _ _ _ _ _ _ h => hK _ _ _ _ _ _ h)
    repeat' (first | with_reducible assumption | with_reducible exact True.intro | with_reducible exact mm_i17 | with_reducible exact mm_i18 | with_reducible exact mm_i19 | with_reducible exact mm_i20 | with_reducible exact mm_i21 | with_reducible exact mm_i22 | ((with_reducible show mm_rv _ _ _ _ _); first | exact True.intro | exact mm_i17 | exact mm_i18 | exact mm_i19 | exact mm_i20 | exact mm_i21 | exact mm_i22) | ((with_reducible show mm_bool _ _); first | exact True.intro | exact Or.inl rfl | exact Or.inr rfl | (show (_ : Int) = 0 ∨ _ = 1)) | rfl | with_reducible exact Or.inl rfl | with_reducible exact Or.inr rfl | exact Nat.le_of_ble_eq_true rfl | refine And.intro ?_ ?_ | intro _)
    all_goals (try simp (disch := omega) only [InI, Int.toNat_natCast, Int.tmod_eq_emod_of_nonneg, Int.tdiv_eq_ediv_of_nonneg, true_implies, true_or, or_true, mm_l18, mm_l19, mm_l20, mm_l21, mm_l22] at *)
    all_goals first | omega | exact st _ _ (by omega) (by omega) | skip
set_option maxRecDepth 20000 in
theorem rn_X5_isCounted : mm_RN flX5 ct_X5_isCounted mm_x0 [] 2 0 4 kdX5_isCounted sp_X5_isCounted := by
  intro av M d Q h
  unfold sp_X5_isCounted at h
  split at h
  · rename_i o
    obtain ⟨rfl, ha, hq⟩ := h
    have ht := ha.t
    have t1 := ht.1
    have hb := xA_b ha
    have q0 := hq 0 (Or.inl rfl)
    have q1 := hq 1 (Or.inr rfl)
    have k44 : ∀ x y, (0 ≤ x ∧ x ≤ 1000) → (0 ≤ y ∧ y ≤ 1000) → rr_X5_isCounted Q 44 [some (mm_R 17), some (mm_I x), some (mm_I y), some (mm_I 10)] [] M d 0 := by
      intro x y hx hy
      obtain ⟨K, hK, hK2⟩ : ∃ K : Nat → mm_K, (∀ t ls st M d u, K t ls st M d u → rr_X5_isCounted Q t ls st M d u) ∧ (∀ t ls st M d u, rr_X5_isCounted Q t ls st M d u → K t ls st M d u) := ⟨rr_X5_isCounted Q, fun _ _ _ _ _ _ h => h, fun _ _ _ _ _ _ h => h⟩
      refine mm_run_at (stop := []) (S := K) kkX5_isCounted 90 ?_ (fun _ _ _ _ _ _ _ h => hK _ _ _ _ _ _ h)
      repeat' (first | with_reducible assumption | with_reducible exact True.intro | with_reducible exact mm_i17 | with_reducible exact mm_i18 | with_reducible exact mm_i19 | with_reducible exact mm_i20 | with_reducible exact mm_i21 | with_reducible exact mm_i22 | ((with_reducible show mm_rv _ _ _ _ _); first | exact True.intro | exact mm_i17 | exact mm_i18 | exact mm_i19 | exact mm_i20 | exact mm_i21 | exact mm_i22) | ((with_reducible show mm_bool _ _); first | exact True.intro | exact Or.inl rfl | exact Or.inr rfl | (show (_ : Int) = 0 ∨ _ = 1)) | rfl | with_reducible exact Or.inl rfl | with_reducible exact Or.inr rfl | exact Nat.le_of_ble_eq_true rfl | refine And.intro ?_ ?_ | intro _)
      all_goals (try simp (disch := omega) only [InI, Int.toNat_natCast, Int.tmod_eq_emod_of_nonneg, Int.tdiv_eq_ediv_of_nonneg, true_implies, true_or, or_true, mm_l18, mm_l19, mm_l20, mm_l21, mm_l22] at *)
      all_goals first | omega | exact q0 | exact q1 | skip
    have k6 := lp_X5_isCounted (d := d) (Q := Q) ha k44 10 0 0 0 (by omega) (by omega) (by omega)
    obtain ⟨K, hK, hK2⟩ : ∃ K : Nat → mm_K, (∀ t ls st M d u, K t ls st M d u → rr_X5_isCounted Q t ls st M d u) ∧ (∀ t ls st M d u, rr_X5_isCounted Q t ls st M d u → K t ls st M d u) := ⟨rr_X5_isCounted Q, fun _ _ _ _ _ _ h => h, fun _ _ _ _ _ _ h => h⟩
    refine ⟨Nat.le_of_ble_eq_true rfl, mm_run_at (stop := [6]) (S := K) kkX5_isCounted 90 ?_ (fun _ _ _ _ _ _ _ h => hK _ _ _ _ _ _ h)⟩
    have k6 := hK2 _ _ _ _ _ _ k6
    repeat' (first | with_reducible assumption | with_reducible exact True.intro | with_reducible exact mm_i17 | with_reducible exact mm_i18 | with_reducible exact mm_i19 | with_reducible exact mm_i20 | with_reducible exact mm_i21 | with_reducible exact mm_i22 | ((with_reducible show mm_rv _ _ _ _ _); first | exact True.intro | exact mm_i17 | exact mm_i18 | exact mm_i19 | exact mm_i20 | exact mm_i21 | exact mm_i22) | ((with_reducible show mm_bool _ _); first | exact True.intro | exact Or.inl rfl | exact Or.inr rfl | (show (_ : Int) = 0 ∨ _ = 1)) | rfl | with_reducible exact Or.inl rfl | with_reducible exact Or.inr rfl | exact Nat.le_of_ble_eq_true rfl | refine And.intro ?_ ?_ | intro _)
    all_goals (try simp (disch := omega) only [InI, Int.toNat_natCast, Int.tmod_eq_emod_of_nonneg, Int.tdiv_eq_ediv_of_nonneg, true_implies, true_or, or_true, mm_l18, mm_l19, mm_l20, mm_l21, mm_l22] at *)
    all_goals first | omega | exact k6 | skip
  · exact h.elim
theorem me_X5_isCounted {l : Launch} (hl : l.stackTraces = false) : mm_Met l yX5_isCounted cX5_isCounted 4 (some .boolean) [] 10 192 0 sp_X5_isCounted := mm_mt hl rn_X5_isCounted ⟨by decide, rfl⟩ kkX5_isCounted rfl ⟨by decide, by decide⟩ flkX5 (fun _ h => nomatch h) (⟨mm_pe (me_X5_all hl) mwX5_all (mm_t6 213 rfl rfl) (Nat.le_of_ble_eq_true rfl) (Nat.le_of_ble_eq_true rfl), mm_pe (me_X5_waysOf hl) mwX5_waysOf (mm_t6 217 rfl rfl) (Nat.le_of_ble_eq_true rfl) (Nat.le_of_ble_eq_true rfl), mm_pe (me_X5_oddOf hl) mwX5_oddOf (mm_t6 228 rfl rfl) (Nat.le_of_ble_eq_true rfl) (Nat.le_of_ble_eq_true rfl), trivial⟩) (mm_xe0 _)

