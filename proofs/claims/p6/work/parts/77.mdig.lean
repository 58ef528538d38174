/-! the model: digest -/
theorem at_X5_digest_0 : mm_at 0 kdX5_digest = [(0, .aload_n 0, 0), (1, .iconst 0, 0), (2, .putfield 32, 0), (5, .aload_n 0, 0), (6, .ldc2_w 281, 0), (9, .invokevirtual 283, 0), (12, .lstore_n 1, 0), (13, .iconst 0, 0), (14, .istore_n 3, 0), (15, .iload_n 3, 0), (16, .iconst 3, 0), (17, .if_icmp .ge 16, 33), (20, .aload_n 0, 0), (21, .lload_n 1, 0), (22, .iload_n 3, 0), (23, .invokevirtual 287, 0), (26, .lstore_n 1, 0), (27, .iinc 3 1, 0), (30, .goto (-15), 15), (33, .lload_n 1, 0), (34, .aload_n 0, 0), (35, .iconst 1, 0), (36, .invokevirtual 254, 0), (39, .i2l, 0), (40, .invokestatic 277, 0), (43, .aload_n 0, 0), (44, .iconst 0, 0), (45, .invokevirtual 254, 0), (48, .i2l, 0), (49, .invokestatic 277, 0), (52, .lstore_n 1, 0), (53, .lload_n 1, 0), (54, .aload_n 0, 0), (55, .iconst 1, 0), (56, .invokevirtual 244, 0), (59, .invokestatic 56, 0), (62, .i2l, 0), (63, .invokestatic 277, 0), (66, .aload_n 0, 0), (67, .iconst 0, 0), (68, .invokevirtual 244, 0), (71, .invokestatic 56, 0), (74, .i2l, 0), (75, .invokestatic 277, 0), (78, .lstore_n 1, 0), (79, .iconst 0, 0), (80, .istore_n 3, 0), (81, .iload_n 3, 0), (82, .iconst 3, 0), (83, .if_icmp .ge 20, 103), (86, .lload_n 1, 0), (87, .aload_n 0, 0), (88, .iload_n 3, 0), (89, .invokevirtual 260, 0), (92, .i2l, 0), (93, .invokestatic 277, 0), (96, .lstore_n 1, 0), (97, .iinc 3 1, 0), (100, .goto (-19), 81), (103, .lload_n 1, 0), (104, .aload_n 0, 0), (105, .invokevirtual 272, 0), (108, .invokestatic 56, 0), (111, .i2l, 0), (112, .invokestatic 277, 0), (115, .lreturn, 0)] := rfl
theorem at_X5_digest_15 : mm_at 15 kdX5_digest = [(15, .iload_n 3, 0), (16, .iconst 3, 0), (17, .if_icmp .ge 16, 33), (20, .aload_n 0, 0), (21, .lload_n 1, 0), (22, .iload_n 3, 0), (23, .invokevirtual 287, 0), (26, .lstore_n 1, 0), (27, .iinc 3 1, 0), (30, .goto (-15), 15), (33, .lload_n 1, 0), (34, .aload_n 0, 0), (35, .iconst 1, 0), (36, .invokevirtual 254, 0), (39, .i2l, 0), (40, .invokestatic 277, 0), (43, .aload_n 0, 0), (44, .iconst 0, 0), (45, .invokevirtual 254, 0), (48, .i2l, 0), (49, .invokestatic 277, 0), (52, .lstore_n 1, 0), (53, .lload_n 1, 0), (54, .aload_n 0, 0), (55, .iconst 1, 0), (56, .invokevirtual 244, 0), (59, .invokestatic 56, 0), (62, .i2l, 0), (63, .invokestatic 277, 0), (66, .aload_n 0, 0), (67, .iconst 0, 0), (68, .invokevirtual 244, 0), (71, .invokestatic 56, 0), (74, .i2l, 0), (75, .invokestatic 277, 0), (78, .lstore_n 1, 0), (79, .iconst 0, 0), (80, .istore_n 3, 0), (81, .iload_n 3, 0), (82, .iconst 3, 0), (83, .if_icmp .ge 20, 103), (86, .lload_n 1, 0), (87, .aload_n 0, 0), (88, .iload_n 3, 0), (89, .invokevirtual 260, 0), (92, .i2l, 0), (93, .invokestatic 277, 0), (96, .lstore_n 1, 0), (97, .iinc 3 1, 0), (100, .goto (-19), 81), (103, .lload_n 1, 0), (104, .aload_n 0, 0), (105, .invokevirtual 272, 0), (108, .invokestatic 56, 0), (111, .i2l, 0), (112, .invokestatic 277, 0), (115, .lreturn, 0)] := rfl
theorem at_X5_digest_33 : mm_at 33 kdX5_digest = [(33, .lload_n 1, 0), (34, .aload_n 0, 0), (35, .iconst 1, 0), (36, .invokevirtual 254, 0), (39, .i2l, 0), (40, .invokestatic 277, 0), (43, .aload_n 0, 0), (44, .iconst 0, 0), (45, .invokevirtual 254, 0), (48, .i2l, 0), (49, .invokestatic 277, 0), (52, .lstore_n 1, 0), (53, .lload_n 1, 0), (54, .aload_n 0, 0), (55, .iconst 1, 0), (56, .invokevirtual 244, 0), (59, .invokestatic 56, 0), (62, .i2l, 0), (63, .invokestatic 277, 0), (66, .aload_n 0, 0), (67, .iconst 0, 0), (68, .invokevirtual 244, 0), (71, .invokestatic 56, 0), (74, .i2l, 0), (75, .invokestatic 277, 0), (78, .lstore_n 1, 0), (79, .iconst 0, 0), (80, .istore_n 3, 0), (81, .iload_n 3, 0), (82, .iconst 3, 0), (83, .if_icmp .ge 20, 103), (86, .lload_n 1, 0), (87, .aload_n 0, 0), (88, .iload_n 3, 0), (89, .invokevirtual 260, 0), (92, .i2l, 0), (93, .invokestatic 277, 0), (96, .lstore_n 1, 0), (97, .iinc 3 1, 0), (100, .goto (-19), 81), (103, .lload_n 1, 0), (104, .aload_n 0, 0), (105, .invokevirtual 272, 0), (108, .invokestatic 56, 0), (111, .i2l, 0), (112, .invokestatic 277, 0), (115, .lreturn, 0)] := rfl
theorem at_X5_digest_81 : mm_at 81 kdX5_digest = [(81, .iload_n 3, 0), (82, .iconst 3, 0), (83, .if_icmp .ge 20, 103), (86, .lload_n 1, 0), (87, .aload_n 0, 0), (88, .iload_n 3, 0), (89, .invokevirtual 260, 0), (92, .i2l, 0), (93, .invokestatic 277, 0), (96, .lstore_n 1, 0), (97, .iinc 3 1, 0), (100, .goto (-19), 81), (103, .lload_n 1, 0), (104, .aload_n 0, 0), (105, .invokevirtual 272, 0), (108, .invokestatic 56, 0), (111, .i2l, 0), (112, .invokestatic 277, 0), (115, .lreturn, 0)] := rfl
theorem at_X5_digest_103 : mm_at 103 kdX5_digest = [(103, .lload_n 1, 0), (104, .aload_n 0, 0), (105, .invokevirtual 272, 0), (108, .invokestatic 56, 0), (111, .i2l, 0), (112, .invokestatic 277, 0), (115, .lreturn, 0)] := rfl
def sp_X5_digest : mm_S := fun av M d Q => match av with
  | [.inr (.inr (.inl o))] =>  o = 17 ∧ xA M ∧ ∀ M' r, xQ M M' → Q (.inl (some (mm_L r))) M' d
  | _ => False
def ct_X5_digest : List (Nat × mm_Ca) := [(283, (0, 2, 14, sp_X5_addTown, 0)), (287, (0, 3, 14, sp_X5_addWalk, 0)), (254, (0, 2, 14, sp_X5_placeTold, 0)), (277, (1, 2, 0, sp_X5_add, 0)), (244, (0, 2, 14, sp_X5_canGo, 0)), (56, (1, 1, 0, sp_X5_one, 0)), (260, (0, 2, 14, sp_X5_houseOf, 0)), (272, (0, 1, 14, sp_X5_isAllSo, 0))]
abbrev rr_X5_digest (Q : mm_Q) := mm_run (mm_look flX5) (mm_look ct_X5_digest) mm_x0 (mm_look ([(281, 7692)] : List (Nat × Int))) (fun _ => none) 3 0 (fun _ _ => none) Q kdX5_digest
set_option maxRecDepth 20000 in
theorem lp2_X5_digest {M : mm_M} {d : List Nat} {Q : mm_Q} (ha : xA M) (hq : ∀ M' r, xQ M M' → Q (.inl (some (mm_L r))) M' d) : ∀ (j i : Nat) (s : Int), i + j = 3 → rr_X5_digest Q 81 [some (mm_R 17), some (mm_L s), none, some (mm_I i)] [] M d 0 := by
  intro j
  induction j with
  | zero =>
    intro i s hi
    obtain ⟨K, hK, hK2⟩ : ∃ K : Nat → mm_K, (∀ t ls st M d u, K t ls st M d u → rr_X5_digest Q t ls st M d u) ∧ (∀ t ls st M d u, rr_X5_digest Q t ls st M d u → K t ls st M d u) := ⟨rr_X5_digest Q, fun _ _ _ _ _ _ h => h, fun _ _ _ _ _ _ h => h⟩
    refine mm_run_at (stop := [86]) (S := K) kkX5_digest 90 ?_ (fun _ _ _ _ _ _ _ h => hK _ _ _ _ _ _ h)
    repeat' (first | with_reducible assumption | with_reducible exact True.intro | with_reducible exact mm_i17 | with_reducible exact mm_i18 | with_reducible exact mm_i19 | with_reducible exact mm_i20 | with_reducible exact mm_i21 | with_reducible exact mm_i22 | ((with_reducible show mm_rv _ _ _ _ _); first | exact True.intro | exact mm_i17 | exact mm_i18 | exact mm_i19 | exact mm_i20 | exact mm_i21 | exact mm_i22) | ((with_reducible show mm_bool _ _); first | exact True.intro | exact Or.inl rfl | exact Or.inr rfl | (show (_ : Int) = 0 ∨ _ = 1)) | rfl | with_reducible exact Or.inl rfl | with_reducible exact Or.inr rfl | exact Nat.le_of_ble_eq_true rfl | refine And.intro ?_ ?_ | intro _)
    all_goals (try simp (disch := omega) only [InI, Int.toNat_natCast, Int.tmod_eq_emod_of_nonneg, Int.tdiv_eq_ediv_of_nonneg, true_implies, true_or, or_true, mm_l18, mm_l19, mm_l20, mm_l21, mm_l22] at *)
    all_goals first | omega | exact hq _ _ (by assumption) | skip
  | succ j ih =>
    intro i s hi
    obtain ⟨K, hK, hK2⟩ : ∃ K : Nat → mm_K, (∀ t ls st M d u, K t ls st M d u → rr_X5_digest Q t ls st M d u) ∧ (∀ t ls st M d u, rr_X5_digest Q t ls st M d u → K t ls st M d u) := ⟨rr_X5_digest Q, fun _ _ _ _ _ _ h => h, fun _ _ _ _ _ _ h => h⟩
    have st := fun s => hK2 _ _ _ _ _ _ (ih (i + 1) s (by omega))
    clear ih
    refine mm_run_at (stop := [81, 103]) (S := K) kkX5_digest 90 ?_ (fun _ _ _ _ _ _ _ h => hK _ _ _ _ _ _ h)
    repeat' (first | with_reducible assumption | with_reducible exact True.intro | with_reducible exact mm_i17 | with_reducible exact mm_i18 | with_reducible exact mm_i19 | with_reducible exact mm_i20 | with_reducible exact mm_i21 | with_reducible exact mm_i22 | ((with_reducible show mm_rv _ _ _ _ _); first | exact True.intro | exact mm_i17 | exact mm_i18 | exact mm_i19 | exact mm_i20 | exact mm_i21 | exact mm_i22) | ((with_reducible show mm_bool _ _); first | exact True.intro | exact Or.inl rfl | exact Or.inr rfl | (show (_ : Int) = 0 ∨ _ = 1)) | rfl | with_reducible exact Or.inl rfl | with_reducible exact Or.inr rfl | exact Nat.le_of_ble_eq_true rfl | refine And.intro ?_ ?_ | intro _)
    all_goals (try simp (disch := omega) only [InI, Int.toNat_natCast, Int.tmod_eq_emod_of_nonneg, Int.tdiv_eq_ediv_of_nonneg, true_implies, true_or, or_true, mm_l18, mm_l19, mm_l20, mm_l21, mm_l22] at *)
    all_goals first | omega | exact st _ | skip
set_option maxRecDepth 20000 in
theorem lp_X5_digest {M : mm_M} {d : List Nat} {Q : mm_Q} (ha : xA M) (hq : ∀ s, rr_X5_digest Q 33 [some (mm_R 17), some (mm_L s), none, some (mm_I 3)] [] M d 0) : ∀ (j i : Nat) (s : Int), i + j = 3 → rr_X5_digest Q 15 [some (mm_R 17), some (mm_L s), none, some (mm_I i)] [] M d 0 := by
  intro j
  induction j with
  | zero =>
    intro i s hi
    have e : i = 3 := by omega
    subst e
    obtain ⟨K, hK, hK2⟩ : ∃ K : Nat → mm_K, (∀ t ls st M d u, K t ls st M d u → rr_X5_digest Q t ls st M d u) ∧ (∀ t ls st M d u, rr_X5_digest Q t ls st M d u → K t ls st M d u) := ⟨rr_X5_digest Q, fun _ _ _ _ _ _ h => h, fun _ _ _ _ _ _ h => h⟩
    have h9 := hK2 _ _ _ _ _ _ (hq s)
    refine mm_run_at (stop := [20, 33]) (S := K) kkX5_digest 90 ?_ (fun _ _ _ _ _ _ _ h => hK _ _ _ _ _ _ h)
    repeat' (first | with_reducible assumption | with_reducible exact True.intro | with_reducible exact mm_i17 | with_reducible exact mm_i18 | with_reducible exact mm_i19 | with_reducible exact mm_i20 | with_reducible exact mm_i21 | with_reducible exact mm_i22 | ((with_reducible show mm_rv _ _ _ _ _); first | exact True.intro | exact mm_i17 | exact mm_i18 | exact mm_i19 | exact mm_i20 | exact mm_i21 | exact mm_i22) | ((with_reducible show mm_bool _ _); first | exact True.intro | exact Or.inl rfl | exact Or.inr rfl | (show (_ : Int) = 0 ∨ _ = 1)) | rfl | with_reducible exact Or.inl rfl | with_reducible exact Or.inr rfl | exact Nat.le_of_ble_eq_true rfl | refine And.intro ?_ ?_ | intro _)
    all_goals (try simp (disch := omega) only [InI, Int.toNat_natCast, Int.tmod_eq_emod_of_nonneg, Int.tdiv_eq_ediv_of_nonneg, true_implies, true_or, or_true, mm_l18, mm_l19, mm_l20, mm_l21, mm_l22] at *)
    all_goals first | omega | exact h9 | skip
  | succ j ih =>
    intro i s hi
    obtain ⟨K, hK, hK2⟩ : ∃ K : Nat → mm_K, (∀ t ls st M d u, K t ls st M d u → rr_X5_digest Q t ls st M d u) ∧ (∀ t ls st M d u, rr_X5_digest Q t ls st M d u → K t ls st M d u) := ⟨rr_X5_digest Q, fun _ _ _ _ _ _ h => h, fun _ _ _ _ _ _ h => h⟩
    have st := fun s => hK2 _ _ _ _ _ _ (ih (i + 1) s (by omega))
    clear ih
    refine mm_run_at (stop := [15, 33]) (S := K) kkX5_digest 90 ?_ (fun _ _ _ _ _ _ _ h => hK _ _ _ _ _ _ h)
    repeat' (first | with_reducible assumption | with_reducible exact True.intro | with_reducible exact mm_i17 | with_reducible exact mm_i18 | with_reducible exact mm_i19 | with_reducible exact mm_i20 | with_reducible exact mm_i21 | with_reducible exact mm_i22 | ((with_reducible show mm_rv _ _ _ _ _); first | exact True.intro | exact mm_i17 | exact mm_i18 | exact mm_i19 | exact mm_i20 | exact mm_i21 | exact mm_i22) | ((with_reducible show mm_bool _ _); first | exact True.intro | exact Or.inl rfl | exact Or.inr rfl | (show (_ : Int) = 0 ∨ _ = 1)) | rfl | with_reducible exact Or.inl rfl | with_reducible exact Or.inr rfl | exact Nat.le_of_ble_eq_true rfl | refine And.intro ?_ ?_ | intro _)
    all_goals (try simp (disch := omega) only [InI, Int.toNat_natCast, Int.tmod_eq_emod_of_nonneg, Int.tdiv_eq_ediv_of_nonneg, true_implies, true_or, or_true, mm_l18, mm_l19, mm_l20, mm_l21, mm_l22] at *)
    all_goals first | omega | exact st _ | skip
set_option maxRecDepth 20000 in
theorem rn_X5_digest : mm_RN flX5 ct_X5_digest mm_x0 [(281, 7692)] 3 0 4 kdX5_digest sp_X5_digest := by
  intro av M d Q h
  unfold sp_X5_digest at h
  split at h
  · rename_i o
    obtain ⟨rfl, ha, hq⟩ := h
    obtain ⟨M1, e0, ha1, -, e17, eo⟩ := xS (v := 0) ha
    have hP1 : xQ M M1 := by rw [← e0]; exact xQ_s ha
    have k33 : ∀ s, rr_X5_digest Q 33 [some (mm_R 17), some (mm_L s), none, some (mm_I 3)] [] M1 d 0 := by
      intro s
      have k81 := fun s => lp2_X5_digest (d := d) (Q := Q) ha1 (fun M' r h => hq M' r (hP1.tr h)) 3 0 s (by omega)
      obtain ⟨K, hK, hK2⟩ : ∃ K : Nat → mm_K, (∀ t ls st M d u, K t ls st M d u → rr_X5_digest Q t ls st M d u) ∧ (∀ t ls st M d u, rr_X5_digest Q t ls st M d u → K t ls st M d u) := ⟨rr_X5_digest Q, fun _ _ _ _ _ _ h => h, fun _ _ _ _ _ _ h => h⟩
      have k81 := fun s => hK2 _ _ _ _ _ _ (k81 s)
      have hl := ha1.l
      have h10 := ha1.2
      have k71 : ∀ s2 a r, r = 0 ∨ r = 1 → K 71 [some (mm_R 17), some (mm_L s2), none, some (mm_I 3)] [mm_I r, mm_L a] M1 d 0 := by
        intro s2 a r hr
        refine hK2 _ _ _ _ _ _ ?_
        refine mm_run_at (stop := [81]) (S := K) kkX5_digest 90 ?_ (fun _ _ _ _ _ _ _ h => hK _ _ _ _ _ _ h)
        repeat' (first | with_reducible assumption | with_reducible exact True.intro | with_reducible exact mm_i17 | with_reducible exact mm_i18 | with_reducible exact mm_i19 | with_reducible exact mm_i20 | with_reducible exact mm_i21 | with_reducible exact mm_i22 | ((with_reducible show mm_rv _ _ _ _ _); first | exact True.intro | exact mm_i17 | exact mm_i18 | exact mm_i19 | exact mm_i20 | exact mm_i21 | exact mm_i22) | ((with_reducible show mm_bool _ _); first | exact True.intro | exact Or.inl rfl | exact Or.inr rfl | (show (_ : Int) = 0 ∨ _ = 1)) | rfl | with_reducible exact Or.inl rfl | with_reducible exact Or.inr rfl | exact Nat.le_of_ble_eq_true rfl | refine And.intro ?_ ?_ | intro _)
        all_goals (try simp (disch := omega) only [InI, Int.toNat_natCast, Int.tmod_eq_emod_of_nonneg, Int.tdiv_eq_ediv_of_nonneg, true_implies, true_or, or_true, mm_l18, mm_l19, mm_l20, mm_l21, mm_l22] at *)
        all_goals first | omega | exact k81 _ | skip
      have k59 : ∀ s2 a r, r = 0 ∨ r = 1 → K 59 [some (mm_R 17), some (mm_L s2), none, some (mm_I 3)] [mm_I r, mm_L a] M1 d 0 := by
        intro s2 a r hr
        refine hK2 _ _ _ _ _ _ ?_
        refine mm_run_at (stop := [71]) (S := K) kkX5_digest 90 ?_ (fun _ _ _ _ _ _ _ h => hK _ _ _ _ _ _ h)
        repeat' (first | with_reducible assumption | with_reducible exact True.intro | with_reducible exact mm_i17 | with_reducible exact mm_i18 | with_reducible exact mm_i19 | with_reducible exact mm_i20 | with_reducible exact mm_i21 | with_reducible exact mm_i22 | ((with_reducible show mm_rv _ _ _ _ _); first | exact True.intro | exact mm_i17 | exact mm_i18 | exact mm_i19 | exact mm_i20 | exact mm_i21 | exact mm_i22) | ((with_reducible show mm_bool _ _); first | exact True.intro | exact Or.inl rfl | exact Or.inr rfl | (show (_ : Int) = 0 ∨ _ = 1)) | rfl | with_reducible exact Or.inl rfl | with_reducible exact Or.inr rfl | exact Nat.le_of_ble_eq_true rfl | refine And.intro ?_ ?_ | intro _)
        all_goals (try simp (disch := omega) only [InI, Int.toNat_natCast, Int.tmod_eq_emod_of_nonneg, Int.tdiv_eq_ediv_of_nonneg, true_implies, true_or, or_true, mm_l18, mm_l19, mm_l20, mm_l21, mm_l22] at *)
        all_goals first | omega | exact k71 _ _ _ (by omega) | skip
      have k53 : ∀ s2, K 53 [some (mm_R 17), some (mm_L s2), none, some (mm_I 3)] [] M1 d 0 := by
        intro s2
        refine hK2 _ _ _ _ _ _ ?_
        refine mm_run_at (stop := [59]) (S := K) kkX5_digest 90 ?_ (fun _ _ _ _ _ _ _ h => hK _ _ _ _ _ _ h)
        repeat' (first | with_reducible assumption | with_reducible exact True.intro | with_reducible exact mm_i17 | with_reducible exact mm_i18 | with_reducible exact mm_i19 | with_reducible exact mm_i20 | with_reducible exact mm_i21 | with_reducible exact mm_i22 | ((with_reducible show mm_rv _ _ _ _ _); first | exact True.intro | exact mm_i17 | exact mm_i18 | exact mm_i19 | exact mm_i20 | exact mm_i21 | exact mm_i22) | ((with_reducible show mm_bool _ _); first | exact True.intro | exact Or.inl rfl | exact Or.inr rfl | (show (_ : Int) = 0 ∨ _ = 1)) | rfl | with_reducible exact Or.inl rfl | with_reducible exact Or.inr rfl | exact Nat.le_of_ble_eq_true rfl | refine And.intro ?_ ?_ | intro _)
        all_goals (try simp (disch := omega) only [InI, Int.toNat_natCast, Int.tmod_eq_emod_of_nonneg, Int.tdiv_eq_ediv_of_nonneg, true_implies, true_or, or_true, mm_l18, mm_l19, mm_l20, mm_l21, mm_l22] at *)
        all_goals first | omega | exact k59 _ _ _ (by omega) | skip
      refine mm_run_at (stop := [53]) (S := K) kkX5_digest 90 ?_ (fun _ _ _ _ _ _ _ h => hK _ _ _ _ _ _ h)
      repeat' (first | with_reducible assumption | with_reducible exact True.intro | with_reducible exact mm_i17 | with_reducible exact mm_i18 | with_reducible exact mm_i19 | with_reducible exact mm_i20 | with_reducible exact mm_i21 | with_reducible exact mm_i22 | ((with_reducible show mm_rv _ _ _ _ _); first | exact True.intro | exact mm_i17 | exact mm_i18 | exact mm_i19 | exact mm_i20 | exact mm_i21 | exact mm_i22) | ((with_reducible show mm_bool _ _); first | exact True.intro | exact Or.inl rfl | exact Or.inr rfl | (show (_ : Int) = 0 ∨ _ = 1)) | rfl | with_reducible exact Or.inl rfl | with_reducible exact Or.inr rfl | exact Nat.le_of_ble_eq_true rfl | refine And.intro ?_ ?_ | intro _)
      all_goals (try simp (disch := omega) only [InI, Int.toNat_natCast, Int.tmod_eq_emod_of_nonneg, Int.tdiv_eq_ediv_of_nonneg, true_implies, true_or, or_true, mm_l18, mm_l19, mm_l20, mm_l21, mm_l22] at *)
      all_goals first | omega | exact k53 _ | skip
    have k15 := fun s => lp_X5_digest (d := d) (Q := Q) ha1 k33 3 0 s (by omega)
    subst e0
    obtain ⟨K, hK, hK2⟩ : ∃ K : Nat → mm_K, (∀ t ls st M d u, K t ls st M d u → rr_X5_digest Q t ls st M d u) ∧ (∀ t ls st M d u, rr_X5_digest Q t ls st M d u → K t ls st M d u) := ⟨rr_X5_digest Q, fun _ _ _ _ _ _ h => h, fun _ _ _ _ _ _ h => h⟩
    refine ⟨Nat.le_of_ble_eq_true rfl, mm_run_at (stop := [15]) (S := K) kkX5_digest 90 ?_ (fun _ _ _ _ _ _ _ h => hK _ _ _ _ _ _ h)⟩
    have k15 := fun s => hK2 _ _ _ _ _ _ (k15 s)
    clear k33
    repeat' (first | with_reducible assumption | with_reducible exact True.intro | with_reducible exact mm_i17 | with_reducible exact mm_i18 | with_reducible exact mm_i19 | with_reducible exact mm_i20 | with_reducible exact mm_i21 | with_reducible exact mm_i22 | ((with_reducible show mm_rv _ _ _ _ _); first | exact True.intro | exact mm_i17 | exact mm_i18 | exact mm_i19 | exact mm_i20 | exact mm_i21 | exact mm_i22) | ((with_reducible show mm_bool _ _); first | exact True.intro | exact Or.inl rfl | exact Or.inr rfl | (show (_ : Int) = 0 ∨ _ = 1)) | rfl | with_reducible exact Or.inl rfl | with_reducible exact Or.inr rfl | exact Nat.le_of_ble_eq_true rfl | refine And.intro ?_ ?_ | intro _)
    all_goals (try simp (disch := omega) only [InI, Int.toNat_natCast, Int.tmod_eq_emod_of_nonneg, Int.tdiv_eq_ediv_of_nonneg, true_implies, true_or, or_true, mm_l18, mm_l19, mm_l20, mm_l21, mm_l22] at *)
    all_goals first | omega | exact k15 _ | skip
  · exact h.elim
theorem me_X5_digest {l : Launch} (hl : l.stackTraces = false) : mm_Met l yX5_digest cX5_digest 4 (some .long) [] 15 300 0 sp_X5_digest := mm_mt hl rn_X5_digest ⟨by decide, rfl⟩ kkX5_digest rfl ⟨by decide, by decide⟩ flkX5 ((by
  intro q hq
  simp only [List.mem_cons, List.not_mem_nil, or_false] at hq
  rcases hq with rfl
  · exact mm_T_U _ (mm_t8 51 rfl rfl))) (⟨mm_pe (me_X5_addTown hl) mwX5_addTown (mm_t8 52 rfl rfl) (Nat.le_of_ble_eq_true rfl) (Nat.le_of_ble_eq_true rfl), mm_pe (me_X5_addWalk hl) mwX5_addWalk (mm_t8 60 rfl rfl) (Nat.le_of_ble_eq_true rfl) (Nat.le_of_ble_eq_true rfl), mm_pe (me_X5_placeTold hl) mwX5_placeTold (mm_t8 11 rfl rfl) (Nat.le_of_ble_eq_true rfl) (Nat.le_of_ble_eq_true rfl), mm_pe (me_X5_add hl) mwX5_add (mm_t8 56 rfl rfl) (Nat.le_of_ble_eq_true rfl) (Nat.le_of_ble_eq_true rfl), mm_pe (me_X5_canGo hl) mwX5_canGo (mm_t7 215 rfl rfl) (Nat.le_of_ble_eq_true rfl) (Nat.le_of_ble_eq_true rfl), mm_pe (me_X5_one hl) mwX5_one (mm_t6 170 rfl rfl) (Nat.le_of_ble_eq_true rfl) (Nat.le_of_ble_eq_true rfl), mm_pe (me_X5_houseOf hl) mwX5_houseOf (mm_t8 19 rfl rfl) (Nat.le_of_ble_eq_true rfl) (Nat.le_of_ble_eq_true rfl), mm_pe (me_X5_isAllSo hl) mwX5_isAllSo (mm_t8 31 rfl rfl) (Nat.le_of_ble_eq_true rfl) (Nat.le_of_ble_eq_true rfl), trivial⟩) (mm_xe0 _)

