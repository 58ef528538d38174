section
/-! the model: digest -/
theorem at_X5_digest_0 : mm_at 0 kdX5_digest = [(0, .aload_n 0, 0), (1, .iconst 0, 0), (2, .putfield 32, 0), (5, .aload_n 0, 0), (6, .ldc2_w 281, 0), (9, .invokevirtual 283, 0), (12, .lstore_n 1, 0), (13, .iconst 0, 0), (14, .istore_n 3, 0), (15, .iload_n 3, 0), (16, .iconst 3, 0), (17, .if_icmp .ge 16, 33), (20, .aload_n 0, 0), (21, .lload_n 1, 0), (22, .iload_n 3, 0), (23, .invokevirtual 287, 0), (26, .lstore_n 1, 0), (27, .iinc 3 1, 0), (30, .goto (-15), 15), (33, .lload_n 1, 0), (34, .aload_n 0, 0), (35, .iconst 1, 0), (36, .invokevirtual 254, 0), (39, .i2l, 0), (40, .invokestatic 277, 0), (43, .aload_n 0, 0), (44, .iconst 0, 0), (45, .invokevirtual 254, 0), (48, .i2l, 0), (49, .invokestatic 277, 0), (52, .lstore_n 1, 0), (53, .lload_n 1, 0), (54, .aload_n 0, 0), (55, .iconst 1, 0), (56, .invokevirtual 244, 0), (59, .invokestatic 56, 0), (62, .i2l, 0), (63, .invokestatic 277, 0), (66, .aload_n 0, 0), (67, .iconst 0, 0), (68, .invokevirtual 244, 0), (71, .invokestatic 56, 0), (74, .i2l, 0), (75, .invokestatic 277, 0), (78, .lstore_n 1, 0), (79, .iconst 0, 0), (80, .istore_n 3, 0), (81, .iload_n 3, 0), (82, .iconst 3, 0), (83, .if_icmp .ge 20, 103), (86, .lload_n 1, 0), (87, .aload_n 0, 0), (88, .iload_n 3, 0), (89, .invokevirtual 260, 0), (92, .i2l, 0), (93, .invokestatic 277, 0), (96, .lstore_n 1, 0), (97, .iinc 3 1, 0), (100, .goto (-19), 81), (103, .lload_n 1, 0), (104, .aload_n 0, 0), (105, .invokevirtual 272, 0), (108, .invokestatic 56, 0), (111, .i2l, 0), (112, .invokestatic 277, 0), (115, .lreturn, 0)] := rfl
theorem at_X5_digest_15 : mm_at 15 kdX5_digest = [(15, .iload_n 3, 0), (16, .iconst 3, 0), (17, .if_icmp .ge 16, 33), (20, .aload_n 0, 0), (21, .lload_n 1, 0), (22, .iload_n 3, 0), (23, .invokevirtual 287, 0), (26, .lstore_n 1, 0), (27, .iinc 3 1, 0), (30, .goto (-15), 15), (33, .lload_n 1, 0), (34, .aload_n 0, 0), (35, .iconst 1, 0), (36, .invokevirtual 254, 0), (39, .i2l, 0), (40, .invokestatic 277, 0), (43, .aload_n 0, 0), (44, .iconst 0, 0), (45, .invokevirtual 254, 0), (48, .i2l, 0), (49, .invokestatic 277, 0), (52, .lstore_n 1, 0), (53, .lload_n 1, 0), (54, .aload_n 0, 0), (55, .iconst 1, 0), (56, .invokevirtual 244, 0), (59, .invokestatic 56, 0), (62, .i2l, 0), (63, .invokestatic 277, 0), (66, .aload_n 0, 0), (67, .iconst 0, 0), (68, .invokevirtual 244, 0), (71, .invokestatic 56, 0), (74, .i2l, 0), (75, .invokestatic 277, 0), (78, .lstore_n 1, 0), (79, .iconst 0, 0), (80, .istore_n 3, 0), (81, .iload_n 3, 0), (82, .iconst 3, 0), (83, .if_icmp .ge 20, 103), (86, .lload_n 1, 0), (87, .aload_n 0, 0), (88, .iload_n 3, 0), (89, .invokevirtual 260, 0), (92, .i2l, 0), (93, .invokestatic 277, 0), (96, .lstore_n 1, 0), (97, .iinc 3 1, 0), (100, .goto (-19), 81), (103, .lload_n 1, 0), (104, .aload_n 0, 0), (105, .invokevirtual 272, 0), (108, .invokestatic 56, 0), (111, .i2l, 0), (112, .invokestatic 277, 0), (115, .lreturn, 0)] := rfl
theorem at_X5_digest_33 : mm_at 33 kdX5_digest = [(33, .lload_n 1, 0), (34, .aload_n 0, 0), (35, .iconst 1, 0), (36, .invokevirtual 254, 0), (39, .i2l, 0), (40, .invokestatic 277, 0), (43, .aload_n 0, 0), (44, .iconst 0, 0), (45, .invokevirtual 254, 0), (48, .i2l, 0), (49, .invokestatic 277, 0), (52, .lstore_n 1, 0), (53, .lload_n 1, 0), (54, .aload_n 0, 0), (55, .iconst 1, 0), (56, .invokevirtual 244, 0), (59, .invokestatic 56, 0), (62, .i2l, 0), (63, .invokestatic 277, 0), (66, .aload_n 0, 0), (67, .iconst 0, 0), (68, .invokevirtual 244, 0), (71, .invokestatic 56, 0), (74, .i2l, 0), (75, .invokestatic 277, 0), (78, .lstore_n 1, 0), (79, .iconst 0, 0), (80, .istore_n 3, 0), (81, .iload_n 3, 0), (82, .iconst 3, 0), (83, .if_icmp .ge 20, 103), (86, .lload_n 1, 0), (87, .aload_n 0, 0), (88, .iload_n 3, 0), (89, .invokevirtual 260, 0), (92, .i2l, 0), (93, .invokestatic 277, 0), (96, .lstore_n 1, 0), (97, .iinc 3 1, 0), (100, .goto (-19), 81), (103, .lload_n 1, 0), (104, .aload_n 0, 0), (105, .invokevirtual 272, 0), (108, .invokestatic 56, 0), (111, .i2l, 0), (112, .invokestatic 277, 0), (115, .lreturn, 0)] := rfl
theorem at_X5_digest_81 : mm_at 81 kdX5_digest = [(81, .iload_n 3, 0), (82, .iconst 3, 0), (83, .if_icmp .ge 20, 103), (86, .lload_n 1, 0), (87, .aload_n 0, 0), (88, .iload_n 3, 0), (89, .invokevirtual 260, 0), (92, .i2l, 0), (93, .invokestatic 277, 0), (96, .lstore_n 1, 0), (97, .iinc 3 1, 0), (100, .goto (-19), 81), (103, .lload_n 1, 0), (104, .aload_n 0, 0), (105, .invokevirtual 272, 0), (108, .invokestatic 56, 0), (111, .i2l, 0), (112, .invokestatic 277, 0), (115, .lreturn, 0)] := rfl
theorem at_X5_digest_103 : mm_at 103 kdX5_digest = [(103, .lload_n 1, 0), (104, .aload_n 0, 0), (105, .invokevirtual 272, 0), (108, .invokestatic 56, 0), (111, .i2l, 0), (112, .invokestatic 277, 0), (115, .lreturn, 0)] := rfl
def sp_X5_digest : mm_S := fun av M d Q => match av with
  | [.inr (.inr (.inl o))] =>  o = 17 ∧ xA M ∧ ∀ M' r, xQ M M' ∧ dgR (vX M) r → Q (.inl (some (mm_L r))) M' d
  | _ => False
def ct_X5_digest : List (Nat × mm_Ca) := [(283, (0, 2, 14, sp_X5_addTown, 0)), (287, (0, 3, 14, sp_X5_addWalk, 0)), (254, (0, 2, 14, sp_X5_placeTold, 0)), (277, (1, 2, 0, sp_X5_add, 0)), (244, (0, 2, 14, sp_X5_canGo, 0)), (56, (1, 1, 0, sp_X5_one, 0)), (260, (0, 2, 14, sp_X5_houseOf, 0)), (272, (0, 1, 14, sp_X5_isAllSo, 0))]
abbrev rr_X5_digest (Q : mm_Q) := mm_run (mm_look flX5) (mm_look ct_X5_digest) mm_x0 (mm_look ([(281, 7692)] : List (Nat × Int))) (fun _ => none) 3 0 (fun _ _ => none) Q kdX5_digest
set_option maxRecDepth 20000 in
theorem lp2_X5_digest {M : mm_M} {d : List Nat} {Q : mm_Q} {S : Int} (ha : xA M) (hq : ∀ M' r5, ((xQ M M' ∧ (r5 = 0 ∨ r5 = 1)) ∧ sndR (vX M) r5) → Q (.inl (some (mm_L (g4 S (mm_w (M 17 14)) (mm_w (M 17 15)) (mm_w (M 17 16)) 3 * 31 + mm_w r5)))) M' d) : ∀ (j i : Nat), i + j = 3 → rr_X5_digest Q 81 [some (mm_R 17), some (mm_L (g4 S (mm_w (M 17 14)) (mm_w (M 17 15)) (mm_w (M 17 16)) i)), none, some (mm_I i)] [] M d 0 := by
  intro j
  induction j with
  | zero =>
    intro i hi
    have e : i = 3 := by omega
    subst e
    obtain ⟨K, hK, hK2⟩ : ∃ K : Nat → mm_K, (∀ t ls st M d u, K t ls st M d u → rr_X5_digest Q t ls st M d u) ∧ (∀ t ls st M d u, rr_X5_digest Q t ls st M d u → K t ls st M d u) := ⟨rr_X5_digest Q, fun _ _ _ _ _ _ h => h, fun _ _ _ _ _ _ h => h⟩
    refine mm_run_at (stop := [86]) (S := K) kkX5_digest 90 ?_ (fun _ _ _ _ _ _ _ h => hK _ _ _ _ _ _ h)
    repeat' (first | with_reducible assumption | with_reducible exact mm_i17 | with_reducible exact mm_i18 | with_reducible exact mm_i19 | with_reducible exact mm_i20 | with_reducible exact mm_i21 | with_reducible exact mm_i22 | ((with_reducible show mm_rv _ _ _ _ _); first | exact True.intro | exact mm_i17 | exact mm_i18 | exact mm_i19 | exact mm_i20 | exact mm_i21 | exact mm_i22) | ((with_reducible show mm_bool _ _); first | exact True.intro | exact Or.inl rfl | exact Or.inr rfl | (show (_ : Int) = 0 ∨ _ = 1)) | refine And.intro ?_ ?_ | intro _ | with_reducible exact True.intro | exact rfl | with_reducible exact Or.inl rfl | with_reducible exact Or.inr rfl | exact Nat.le_of_ble_eq_true rfl)
    all_goals (try simp (disch := omega) only [InI, Int.toNat_natCast, Int.tmod_eq_emod_of_nonneg, Int.tdiv_eq_ediv_of_nonneg, true_implies, true_or, or_true, mm_l18, mm_l19, mm_l20, mm_l21, mm_l22] at *)
    all_goals first | omega | exact hq _ _ (by assumption) | skip
  | succ j ih =>
    intro i hi
    obtain ⟨K, hK, hK2⟩ : ∃ K : Nat → mm_K, (∀ t ls st M d u, K t ls st M d u → rr_X5_digest Q t ls st M d u) ∧ (∀ t ls st M d u, rr_X5_digest Q t ls st M d u → K t ls st M d u) := ⟨rr_X5_digest Q, fun _ _ _ _ _ _ h => h, fun _ _ _ _ _ _ h => h⟩
    have st : K 81 [some (mm_R 17), some (mm_L (g4 S (mm_w (M 17 14)) (mm_w (M 17 15)) (mm_w (M 17 16)) i * 31 + mm_w (if (i : Int) = 0 then M 17 14 else if (i : Int) = 1 then M 17 15 else M 17 16))), none, some (mm_I ((i : Int) + 1))] [] M d 0 := by
      rw [g4_w (by omega) rfl rfl rfl]
      exact hK2 _ _ _ _ _ _ (ih (i + 1) (by omega))
    clear ih hq
    refine mm_run_at (stop := [81, 103]) (S := K) kkX5_digest 90 ?_ (fun _ _ _ _ _ _ _ h => hK _ _ _ _ _ _ h)
    repeat' (first | with_reducible assumption | with_reducible exact mm_i17 | with_reducible exact mm_i18 | with_reducible exact mm_i19 | with_reducible exact mm_i20 | with_reducible exact mm_i21 | with_reducible exact mm_i22 | ((with_reducible show mm_rv _ _ _ _ _); first | exact True.intro | exact mm_i17 | exact mm_i18 | exact mm_i19 | exact mm_i20 | exact mm_i21 | exact mm_i22) | ((with_reducible show mm_bool _ _); first | exact True.intro | exact Or.inl rfl | exact Or.inr rfl | (show (_ : Int) = 0 ∨ _ = 1)) | refine And.intro ?_ ?_ | intro _ | with_reducible exact True.intro | exact rfl | with_reducible exact Or.inl rfl | with_reducible exact Or.inr rfl | exact Nat.le_of_ble_eq_true rfl)
    all_goals (try simp (disch := omega) only [InI, Int.toNat_natCast, Int.tmod_eq_emod_of_nonneg, Int.tdiv_eq_ediv_of_nonneg, true_implies, true_or, or_true, mm_l18, mm_l19, mm_l20, mm_l21, mm_l22] at *)
    all_goals first | omega | exact st | skip
set_option maxRecDepth 20000 in
theorem st_X5_digest {M : mm_M} {d : List Nat} {Q : mm_Q} {i S : Int} {w v : Nat} (ha : xA M) (hi : 0 ≤ i ∧ i < 3) (ew : wk i = w) (ev : wk ((i + 1) % 3) = v) (h : ∀ t, tuR (vX M) w v t → rr_X5_digest Q 15 [some (mm_R 17), some (mm_L (dgW (vX M) S w t)), none, some (mm_I (i + 1))] [] M d 0) : rr_X5_digest Q 15 [some (mm_R 17), some (mm_L S), none, some (mm_I i)] [] M d 0 := by
  subst ew ev
  obtain ⟨K, hK, hK2⟩ : ∃ K : Nat → mm_K, (∀ t ls st M d u, K t ls st M d u → rr_X5_digest Q t ls st M d u) ∧ (∀ t ls st M d u, rr_X5_digest Q t ls st M d u → K t ls st M d u) := ⟨rr_X5_digest Q, fun _ _ _ _ _ _ h => h, fun _ _ _ _ _ _ h => h⟩
  have h := fun t ht => hK2 _ _ _ _ _ _ (h t ht)
  refine mm_run_at (stop := [15, 33]) (S := K) kkX5_digest 90 ?_ (fun _ _ _ _ _ _ _ h => hK _ _ _ _ _ _ h)
  repeat' (first | with_reducible assumption | with_reducible exact mm_i17 | with_reducible exact mm_i18 | with_reducible exact mm_i19 | with_reducible exact mm_i20 | with_reducible exact mm_i21 | with_reducible exact mm_i22 | ((with_reducible show mm_rv _ _ _ _ _); first | exact True.intro | exact mm_i17 | exact mm_i18 | exact mm_i19 | exact mm_i20 | exact mm_i21 | exact mm_i22) | ((with_reducible show mm_bool _ _); first | exact True.intro | exact Or.inl rfl | exact Or.inr rfl | (show (_ : Int) = 0 ∨ _ = 1)) | refine And.intro ?_ ?_ | intro _ | with_reducible exact True.intro | exact rfl | with_reducible exact Or.inl rfl | with_reducible exact Or.inr rfl | exact Nat.le_of_ble_eq_true rfl)
  all_goals (try simp (disch := omega) only [InI, Int.toNat_natCast, Int.tmod_eq_emod_of_nonneg, Int.tdiv_eq_ediv_of_nonneg, true_implies, true_or, or_true, mm_l18, mm_l19, mm_l20, mm_l21, mm_l22] at *)
  all_goals first | omega | exact h _ (by assumption) | skip
set_option maxRecDepth 20000 in
theorem rn_X5_digest : mm_RN flX5 ct_X5_digest mm_x0 [(281, 7692)] 3 0 4 kdX5_digest sp_X5_digest := by
  intro av M d Q h
  unfold sp_X5_digest at h
  split at h
  · rename_i o
    obtain ⟨rfl, ha, hq⟩ := h
    obtain ⟨M1, e0, ha1, -, e17, eo⟩ := xS (v := 0) ha
    have hP1 : xQ M M1 := by rw [← e0]; exact xQ_s ha
    have ev1 : vX M1 = vX M := by rw [← e0]; exact vX_u0
    have hq1 : ∀ M' r, xQ M1 M' ∧ dgR (vX M1) r → Q (.inl (some (mm_L r))) M' d := fun M' r h => hq M' r ⟨hP1.tr h.1, by rw [← ev1]; exact h.2⟩
    have k15 : ∀ S, (∀ r sd, sndR (vX M1) sd → r = dgE (vX M1) S sd → dgR (vX M1) r) → rr_X5_digest Q 15 [some (mm_R 17), some (mm_L S), none, some (mm_I (0 + 1 + 1 + 1))] [] M1 d 0 := by
      intro S hS
      have p1 := paX (f := 1) ha1
      have p0 := paX (f := 0) ha1
      have h1 := hsX (f := 1) ha1
      have h0 := hsX (f := 0) ha1
      have bp : InI (paF (vX M1) 1) ∧ InI (paF (vX M1) 0) := by
        rw [← p1, ← p0]
        have hp := ha1.p
        by_cases e : M1 17 10 ≠ -1 ∧ M1 17 13 = 0
        · have hp := hp e.1 e.2
          have hv := ha1.v (k := (M1 17 10).toNat) (by omega)
          have hv1 := hv.1
          rw [if_pos e, if_pos e, if_neg (show ¬ (1 : Int) = 0 by omega), if_pos (show (0 : Int) = 0 from rfl)]
          exact ⟨⟨by omega, by omega⟩, ⟨by omega, by omega⟩⟩
        · rw [if_neg e, if_neg e]
          exact ⟨⟨by omega, by omega⟩, ⟨by omega, by omega⟩⟩
      have hl := ha1.l
      have h10 := ha1.2
      obtain ⟨x, hx⟩ : ∃ x, x = (S * 31 + paF (vX M1) 1) * 31 + paF (vX M1) 0 := ⟨_, rfl⟩
      obtain ⟨y, hy⟩ : ∃ y, y = (x * 31 + ind1 (hsP (vX M1) 1)) * 31 + ind1 (hsP (vX M1) 0) := ⟨_, rfl⟩
      have k81 : rr_X5_digest Q 81 [some (mm_R 17), some (mm_L y), none, some (mm_I 0)] [] M1 d 0 := lp2_X5_digest (d := d) (Q := Q) (S := y) ha1 (fun M' r5 g5 => hq1 M' _ ⟨g5.1.1, hS _ r5 g5.2 (by
        rw [mw_01 g5.1.2, hy, hx]
        first | done | rfl)⟩) 3 0 (by omega)
      obtain ⟨K, hK, hK2⟩ : ∃ K : Nat → mm_K, (∀ t ls st M d u, K t ls st M d u → rr_X5_digest Q t ls st M d u) ∧ (∀ t ls st M d u, rr_X5_digest Q t ls st M d u → K t ls st M d u) := ⟨rr_X5_digest Q, fun _ _ _ _ _ _ h => h, fun _ _ _ _ _ _ h => h⟩
      have k81 := hK2 _ _ _ _ _ _ k81
      have k71 : ∀ a, a = ind1 (hsP (vX M1) 1) → ∀ r, ((r = 0 ∨ r = 1) ∧ (r = 1 ↔ hsP (vX M1) 0)) → K 71 [some (mm_R 17), some (mm_L x), none, some (mm_I (0 + 1 + 1 + 1))] [mm_I r, mm_L (x * 31 + a)] M1 d 0 := by
        intro a e r hr
        have k81 : K 81 [some (mm_R 17), some (mm_L ((x * 31 + a) * 31 + mm_w r)), none, some (mm_I 0)] [] M1 d 0 := by
          rw [mw_b01 hr, e, ← hy]
          exact k81
        have h4 := hr.1
        clear hr hq hq1 hS p1 p0 h1 h0 e hy hx
        refine hK2 _ _ _ _ _ _ ?_
        refine mm_run_at (stop := [81]) (S := K) kkX5_digest 90 ?_ (fun _ _ _ _ _ _ _ h => hK _ _ _ _ _ _ h)
        repeat' (first | with_reducible assumption | with_reducible exact mm_i17 | with_reducible exact mm_i18 | with_reducible exact mm_i19 | with_reducible exact mm_i20 | with_reducible exact mm_i21 | with_reducible exact mm_i22 | ((with_reducible show mm_rv _ _ _ _ _); first | exact True.intro | exact mm_i17 | exact mm_i18 | exact mm_i19 | exact mm_i20 | exact mm_i21 | exact mm_i22) | ((with_reducible show mm_bool _ _); first | exact True.intro | exact Or.inl rfl | exact Or.inr rfl | (show (_ : Int) = 0 ∨ _ = 1)) | refine And.intro ?_ ?_ | intro _ | with_reducible exact True.intro | exact rfl | with_reducible exact Or.inl rfl | with_reducible exact Or.inr rfl | exact Nat.le_of_ble_eq_true rfl)
        all_goals (try simp (disch := omega) only [InI, Int.toNat_natCast, Int.tmod_eq_emod_of_nonneg, Int.tdiv_eq_ediv_of_nonneg, true_implies, true_or, or_true, mm_l18, mm_l19, mm_l20, mm_l21, mm_l22] at *)
        all_goals first | omega | exact k81 | skip
      have k59 : ∀ r, ((r = 0 ∨ r = 1) ∧ (r = 1 ↔ hsP (vX M1) 1)) → K 59 [some (mm_R 17), some (mm_L x), none, some (mm_I (0 + 1 + 1 + 1))] [mm_I r, mm_L x] M1 d 0 := by
        intro r hr
        have k71 : ∀ r2, ((r2 = 0 ∨ r2 = 1) ∧ (r2 = 1 ↔ (M1 17 10 ≠ -1 ∧ M1 17 13 = 0 ∧ ((0 : Int) ≠ 0 → M1 17 11 < M1 21 (M1 17 10).toNat) ∧ ((0 : Int) = 0 → 0 < M1 17 11)))) → K 71 [some (mm_R 17), some (mm_L x), none, some (mm_I (0 + 1 + 1 + 1))] [mm_I r2, mm_L (x * 31 + mm_w r)] M1 d 0 := fun r2 g => k71 _ (mw_b01 hr) r2 ⟨g.1, g.2.trans h0⟩
        have h4 := hr.1
        clear hr hq hq1 hS p1 p0 h1 h0 hy hx k81
        refine hK2 _ _ _ _ _ _ ?_
        refine mm_run_at (stop := [71]) (S := K) kkX5_digest 90 ?_ (fun _ _ _ _ _ _ _ h => hK _ _ _ _ _ _ h)
        repeat' (first | with_reducible assumption | with_reducible exact mm_i17 | with_reducible exact mm_i18 | with_reducible exact mm_i19 | with_reducible exact mm_i20 | with_reducible exact mm_i21 | with_reducible exact mm_i22 | ((with_reducible show mm_rv _ _ _ _ _); first | exact True.intro | exact mm_i17 | exact mm_i18 | exact mm_i19 | exact mm_i20 | exact mm_i21 | exact mm_i22) | ((with_reducible show mm_bool _ _); first | exact True.intro | exact Or.inl rfl | exact Or.inr rfl | (show (_ : Int) = 0 ∨ _ = 1)) | refine And.intro ?_ ?_ | intro _ | with_reducible exact True.intro | exact rfl | with_reducible exact Or.inl rfl | with_reducible exact Or.inr rfl | exact Nat.le_of_ble_eq_true rfl)
        all_goals (try simp (disch := omega) only [InI, Int.toNat_natCast, Int.tmod_eq_emod_of_nonneg, Int.tdiv_eq_ediv_of_nonneg, true_implies, true_or, or_true, mm_l18, mm_l19, mm_l20, mm_l21, mm_l22] at *)
        all_goals first | omega | exact k71 _ (by assumption) | skip
      have k53 : ∀ a b, a = paF (vX M1) 1 → b = paF (vX M1) 0 → K 53 [some (mm_R 17), some (mm_L ((S * 31 + mm_w a) * 31 + mm_w b)), none, some (mm_I (0 + 1 + 1 + 1))] [] M1 d 0 := by
        intro a b g1 g2
        have k59 : ∀ r, ((r = 0 ∨ r = 1) ∧ (r = 1 ↔ (M1 17 10 ≠ -1 ∧ M1 17 13 = 0 ∧ ((1 : Int) ≠ 0 → M1 17 11 < M1 21 (M1 17 10).toNat) ∧ ((1 : Int) = 0 → 0 < M1 17 11)))) → K 59 [some (mm_R 17), some (mm_L x), none, some (mm_I (0 + 1 + 1 + 1))] [mm_I r, mm_L x] M1 d 0 := fun r g => k59 r ⟨g.1, g.2.trans h1⟩
        rw [mw_id (x := a) (by rw [g1]; exact bp.1), mw_id (x := b) (by rw [g2]; exact bp.2), g1, g2, ← hx]
        clear hq hq1 hS p1 p0 h1 h0 hy hx k81 k71 bp g1 g2
        refine hK2 _ _ _ _ _ _ ?_
        refine mm_run_at (stop := [59]) (S := K) kkX5_digest 90 ?_ (fun _ _ _ _ _ _ _ h => hK _ _ _ _ _ _ h)
        repeat' (first | with_reducible assumption | with_reducible exact mm_i17 | with_reducible exact mm_i18 | with_reducible exact mm_i19 | with_reducible exact mm_i20 | with_reducible exact mm_i21 | with_reducible exact mm_i22 | ((with_reducible show mm_rv _ _ _ _ _); first | exact True.intro | exact mm_i17 | exact mm_i18 | exact mm_i19 | exact mm_i20 | exact mm_i21 | exact mm_i22) | ((with_reducible show mm_bool _ _); first | exact True.intro | exact Or.inl rfl | exact Or.inr rfl | (show (_ : Int) = 0 ∨ _ = 1)) | refine And.intro ?_ ?_ | intro _ | with_reducible exact True.intro | exact rfl | with_reducible exact Or.inl rfl | with_reducible exact Or.inr rfl | exact Nat.le_of_ble_eq_true rfl)
        all_goals (try simp (disch := omega) only [InI, Int.toNat_natCast, Int.tmod_eq_emod_of_nonneg, Int.tdiv_eq_ediv_of_nonneg, true_implies, true_or, or_true, mm_l18, mm_l19, mm_l20, mm_l21, mm_l22] at *)
        all_goals first | omega | exact k59 _ (by assumption) | skip
      clear hq hq1 hS h1 h0 hy hx k81 k71 k59 bp
      refine mm_run_at (stop := [20, 53]) (S := K) kkX5_digest 90 ?_ (fun _ _ _ _ _ _ _ h => hK _ _ _ _ _ _ h)
      repeat' (first | with_reducible assumption | with_reducible exact mm_i17 | with_reducible exact mm_i18 | with_reducible exact mm_i19 | with_reducible exact mm_i20 | with_reducible exact mm_i21 | with_reducible exact mm_i22 | ((with_reducible show mm_rv _ _ _ _ _); first | exact True.intro | exact mm_i17 | exact mm_i18 | exact mm_i19 | exact mm_i20 | exact mm_i21 | exact mm_i22) | ((with_reducible show mm_bool _ _); first | exact True.intro | exact Or.inl rfl | exact Or.inr rfl | (show (_ : Int) = 0 ∨ _ = 1)) | refine And.intro ?_ ?_ | intro _ | with_reducible exact True.intro | exact rfl | with_reducible exact Or.inl rfl | with_reducible exact Or.inr rfl | exact Nat.le_of_ble_eq_true rfl)
      all_goals (try simp (disch := omega) only [InI, Int.toNat_natCast, Int.tmod_eq_emod_of_nonneg, Int.tdiv_eq_ediv_of_nonneg, true_implies, true_or, or_true, mm_l18, mm_l19, mm_l20, mm_l21, mm_l22] at *)
      all_goals first | omega | exact k53 _ _ p1 p0 | skip
    have k0 : ∀ r kd, kdR (vX M1 3) (vX M1 4) (vX M1 2 4).toNat (vX M1 2 5) kd → r = dgT (vX M1) 7692 kd → rr_X5_digest Q 15 [some (mm_R 17), some (mm_L r), none, some (mm_I 0)] [] M1 d 0 := fun r kd hk hr =>
      st_X5_digest (i := 0) (w := 8) (v := 10) ha1 (by omega) (by decide) (by decide) (fun t8 h8 =>
      st_X5_digest (i := 0 + 1) (w := 10) (v := 12) ha1 (by omega) (by decide) (by decide) (fun t10 h10 =>
      st_X5_digest (i := 0 + 1 + 1) (w := 12) (v := 8) ha1 (by omega) (by decide) (by decide) (fun t12 h12 =>
      k15 _ (fun r2 sd hs hr2 => ⟨vX M1, kd, t8, t10, t12, sd, .rf, hk, h8, h10, h12, hs, by rw [hr2, hr]⟩))))
    clear k15 hq hq1
    subst e0
    obtain ⟨K, hK, hK2⟩ : ∃ K : Nat → mm_K, (∀ t ls st M d u, K t ls st M d u → rr_X5_digest Q t ls st M d u) ∧ (∀ t ls st M d u, rr_X5_digest Q t ls st M d u → K t ls st M d u) := ⟨rr_X5_digest Q, fun _ _ _ _ _ _ h => h, fun _ _ _ _ _ _ h => h⟩
    refine ⟨Nat.le_of_ble_eq_true rfl, mm_run_at (stop := [15]) (S := K) kkX5_digest 90 ?_ (fun _ _ _ _ _ _ _ h => hK _ _ _ _ _ _ h)⟩
    have k0 := fun r kd b1 b2 => hK2 _ _ _ _ _ _ (k0 r kd b1 b2)
    repeat' (first | with_reducible assumption | with_reducible exact mm_i17 | with_reducible exact mm_i18 | with_reducible exact mm_i19 | with_reducible exact mm_i20 | with_reducible exact mm_i21 | with_reducible exact mm_i22 | ((with_reducible show mm_rv _ _ _ _ _); first | exact True.intro | exact mm_i17 | exact mm_i18 | exact mm_i19 | exact mm_i20 | exact mm_i21 | exact mm_i22) | ((with_reducible show mm_bool _ _); first | exact True.intro | exact Or.inl rfl | exact Or.inr rfl | (show (_ : Int) = 0 ∨ _ = 1)) | refine And.intro ?_ ?_ | intro _ | with_reducible exact True.intro | exact rfl | with_reducible exact Or.inl rfl | with_reducible exact Or.inr rfl | exact Nat.le_of_ble_eq_true rfl)
    all_goals (try simp (disch := omega) only [InI, Int.toNat_natCast, Int.tmod_eq_emod_of_nonneg, Int.tdiv_eq_ediv_of_nonneg, true_implies, true_or, or_true, mm_l18, mm_l19, mm_l20, mm_l21, mm_l22] at *)
    all_goals first | omega | exact k0 _ _ (by assumption) (by assumption) | skip
  · exact h.elim
theorem me_X5_digest {l : Launch} (hl : l.stackTraces = false) : mm_Met l yX5_digest cX5_digest 4 (some .long) [] 15 300 0 sp_X5_digest := mm_mt hl rn_X5_digest ⟨plX5, rfl⟩ kkX5_digest rfl ⟨Nat.le_of_ble_eq_true rfl, Nat.le_of_ble_eq_true rfl⟩ flkX5 ((by
  intro q hq
  simp only [List.mem_cons, List.not_mem_nil, or_false] at hq
  rcases hq with rfl
  · exact mm_T_U _ (mm_t8 51 rfl rfl))) (⟨mm_pe (me_X5_addTown hl) mwX5_addTown (mm_t8 52 rfl rfl) (Nat.le_of_ble_eq_true rfl) (Nat.le_of_ble_eq_true rfl), mm_pe (me_X5_addWalk hl) mwX5_addWalk (mm_t8 60 rfl rfl) (Nat.le_of_ble_eq_true rfl) (Nat.le_of_ble_eq_true rfl), mm_pe (me_X5_placeTold hl) mwX5_placeTold (mm_t8 11 rfl rfl) (Nat.le_of_ble_eq_true rfl) (Nat.le_of_ble_eq_true rfl), mm_pe (me_X5_add hl) mwX5_add (mm_t8 56 rfl rfl) (Nat.le_of_ble_eq_true rfl) (Nat.le_of_ble_eq_true rfl), mm_pe (me_X5_canGo hl) mwX5_canGo (mm_t7 215 rfl rfl) (Nat.le_of_ble_eq_true rfl) (Nat.le_of_ble_eq_true rfl), mm_pe (me_X5_one hl) mwX5_one (mm_t6 170 rfl rfl) (Nat.le_of_ble_eq_true rfl) (Nat.le_of_ble_eq_true rfl), mm_pe (me_X5_houseOf hl) mwX5_houseOf (mm_t8 19 rfl rfl) (Nat.le_of_ble_eq_true rfl) (Nat.le_of_ble_eq_true rfl), mm_pe (me_X5_isAllSo hl) mwX5_isAllSo (mm_t8 31 rfl rfl) (Nat.le_of_ble_eq_true rfl) (Nat.le_of_ble_eq_true rfl), trivial⟩) (mm_xe0 _) n9X5
end
section
/-! the system's methods that texts are made by: they never throw; a text's content is not looked at -/
/-- a JDK method's call table, entry by entry -/
def mm_PJs (l : Launch) (own : String) (fr lo : Nat) : List (Nat × mm_Ca) → Prop
  | [] => True
  | q :: r => mm_sem l own fr lo q.1 q.2 ∧ mm_PJs l own fr lo r
theorem mm_PJs_look {l : Launch} {own : String} {fr lo idx : Nat} {ca : mm_Ca} : ∀ t : List (Nat × mm_Ca), mm_PJs l own fr lo t → mm_look t idx = some ca → mm_sem l own fr lo idx ca
  | [], _, h => by simp [mm_look] at h
  | q :: r, hp, h => by
    simp only [mm_look] at h
    cases e : q.1 == idx
    · rw [e] at h
      exact mm_PJs_look r hp.2 h
    · rw [e] at h
      have e1 := eq_of_beq e
      simp only [cond_true, Option.some.injEq] at h
      rw [← e1, ← h]
      exact hp.1
theorem mm_mtJ {l : Launch} {y : MethodName} {b : ByteArray} {maxL : Nat} {ret : Option FieldType} {fr lo mu rt : Nat} {own : String} {sp : mm_S} {cd : List mm_E} {fl : List (Nat × Nat × Nat)} {ct : List (Nat × mm_Ca)}
    (h : mm_RN fl ct mm_x0 [] rt mu maxL cd sp) (hy : plainFor y = true ∧ y.cls = own) (hk : mm_chk b cd = true) (hrt : mm_rtOK rt ret = true) (hfl : 5 < fr ∧ 82 ≤ lo)
    (hf : ∀ q ∈ fl, mm_lj own mm_U q.2.1 q.2.2 q.1) (hPE : mm_PJs l own fr lo ct) (h91 : ∀ q ∈ fl, q.2.2 = 91 → y.name = "<init>") : mm_Jet l y b maxL ret fr lo mu sp :=
  mm_methJ (F := mm_look fl) (C := mm_look ct) (LC := mm_look ([] : List (Nat × Int))) hy.1 hy.2 hk hrt hfl.1 hfl.2 ⟨fun k rc n e => hf (k, rc, n) (mm_look_mem fl e), fun k x e => nomatch e⟩ (fun idx ca e => mm_PJs_look ct hPE e) (fun k rc e => h91 (k, rc, 91) (mm_look_mem fl e) rfl) (fun av M d Q hs => h av M d Q hs)
theorem mm_mtX {l : Launch} {y : MethodName} {b : ByteArray} {maxL : Nat} {ret : Option FieldType} {fr lo mu rt : Nat} {own : String} {sp : mm_S} {cd : List mm_E} {fl : List (Nat × Nat × Nat)} {ct : List (Nat × mm_Ca)} {xt : Nat → Nat → Nat → Option Nat} {lc : List (Nat × Int)}
    (hl : l.stackTraces = false) (h : mm_RN fl ct xt lc rt mu maxL cd sp) (hy : plainName y.cls = true ∧ y.cls = own) (hk : mm_chk b cd = true) (hrt : mm_rtOK rt ret = true) (hfl : 5 < fr ∧ 82 ≤ lo)
    (hf : ∀ q ∈ fl, mm_lj own mm_U q.2.1 q.2.2 q.1) (hlc : ∀ q ∈ lc, Jvm.Cond.constantLong own q.1 (Int64.ofInt q.2) ∈ mm_U) (hPE : mm_PEs l own (mm_rm fr lo mu) ct) (hXE : ∀ idx is ic k, xt idx is ic = some k → mm_XE own mm_U idx is ic k) (hn9 : ∀ q ∈ fl, q.2.2 ≠ 91) : mm_Met l y b maxL ret [] fr lo mu sp :=
  mm_meth (F := mm_look fl) (C := mm_look ct) (X0 := xt) (LC := mm_look lc) hl hy.1 hy.2 hk hrt hfl.1 hfl.2 ⟨fun k rc n e => hf (k, rc, n) (mm_look_mem fl e), fun k x e => hlc (k, x) (mm_look_mem lc e)⟩ (fun idx ca e => mm_PEs_look ct hPE e) hXE (fun k rc e => hn9 _ (mm_look_mem fl e) rfl) (fun av M d Q hs => h av M d Q hs)
/-- what was there before stays: the base -/
def bX (M0 : mm_M) (d0 : List Nat) (M : mm_M) (d : List Nat) : Prop := (∃ d1, d = d0 ++ d1) ∧ ∀ o, o ∈ mm_ids d0 → o ≠ 0 → M o = M0 o ∧ mm_kd M o = mm_kd M0 o ∧ mm_ln M o = mm_ln M0 o
/-- a new object of kind k -/
def bO (d0 : List Nat) (M : mm_M) (d : List Nat) (o k : Nat) : Prop := mm_is M d o k ∧ 100 ≤ o ∧ o ∉ d0
theorem bX.rf {M : mm_M} {d : List Nat} : bX M d M d := ⟨⟨[], by simp⟩, fun _ _ _ => ⟨rfl, rfl, rfl⟩⟩
theorem mm_ids_new {d : List Nat} {o : Nat} (ho : 100 ≤ o) (hd : o ∉ d) : o ∉ mm_ids d := by
  intro h
  rcases List.mem_append.mp h with h | h
  · simp only [mm_st, List.mem_cons, List.not_mem_nil, or_false] at h
    omega
  · exact hd h
theorem bX.same {M0 M M' : mm_M} {d0 d : List Nat} {o : Nat} (h : bX M0 d0 M d) (ho : 100 ≤ o ∧ o ∉ d0) (e : ∀ x, x ≠ o → M' x = M x) : bX M0 d0 M' d := by
  refine ⟨h.1, fun x hx h0 => ?_⟩
  have hxo : x ≠ o := fun q => mm_ids_new ho.1 ho.2 (q ▸ hx)
  have ek := mm_kd_up (M := M) (M' := M') (o' := x) (by omega) e
  rw [e x hxo, ek.1, ek.2]
  exact h.2 x hx h0
theorem bO.same {d0 d : List Nat} {M M' : mm_M} {x k o : Nat} (h : bO d0 M d x k) (ho : 100 ≤ o) (e : ∀ x, x ≠ o → M' x = M x) : bO d0 M' d x k := by
  have ek := mm_kd_up (M := M) (M' := M') (o' := x) (by omega) e
  exact ⟨⟨by rw [ek.1]; exact h.1.1, h.1.2⟩, h.2⟩
theorem bX.new {M0 M : mm_M} {d0 d : List Nat} {o k : Nat} {n : Int} (h : bX M0 d0 M d) (ho : 100 ≤ o) (hd : o ∉ d) : bX M0 d0 (mm_nob M o k n) (d ++ [o]) := by
  obtain ⟨⟨d1, rfl⟩, h2⟩ := h
  refine ⟨⟨d1 ++ [o], by simp⟩, fun x hx h0 => ?_⟩
  have hxo : x ≠ o := fun q => mm_ids_new ho (fun z => hd (List.mem_append_left _ z)) (q ▸ hx)
  have ek := mm_nob_kd2 (M := M) (k := k) (n := n) ho hxo
  rw [mm_nob_o hxo h0, ek.1, ek.2]
  exact h2 x hx h0
theorem bO.new {d0 d : List Nat} {M : mm_M} {x k o k' : Nat} {n : Int} (h : bO d0 M d x k) (ho : 100 ≤ o) (hd : o ∉ d) : bO d0 (mm_nob M o k' n) (d ++ [o]) x k := by
  have hxo : x ≠ o := fun q => mm_ids_new ho hd (q ▸ h.1.2)
  have ek := mm_nob_kd2 (M := M) (k := k') (n := n) ho hxo
  refine ⟨⟨by rw [ek.1]; exact h.1.1, ?_⟩, h.2⟩
  rcases List.mem_append.mp h.1.2 with z | z
  · exact List.mem_append_left _ z
  · exact List.mem_append_right _ (List.mem_append_left _ z)
theorem bO.mk' {M0 M : mm_M} {d0 d : List Nat} {o k : Nat} {n : Int} (h : bX M0 d0 M d) (ho : 100 ≤ o) (hd : o ∉ d) (hn : 0 ≤ n) : bO d0 (mm_nob M o k n) (d ++ [o]) o k := by
  obtain ⟨⟨d1, rfl⟩, h2⟩ := h
  exact ⟨⟨(mm_nob_kd ho hn).1, List.mem_append_right _ (List.mem_append_right _ (by simp))⟩, ho, fun z => hd (List.mem_append_left _ z)⟩
/-- a text under way: b holds n letters, and has room for q at least -/
def sC (M0 : mm_M) (d0 : List Nat) (M : mm_M) (d : List Nat) (b : Nat) (n q : Int) : Prop := bX M0 d0 M d ∧ bO d0 M d b 16 ∧ M b 1 = 0 ∧ M b 3 = n ∧ 0 ≤ n ∧ bO d0 M d (M b 0).toNat 3 ∧ n ≤ (mm_ln M (M b 0).toNat : Int) ∧ q ≤ (mm_ln M (M b 0).toNat : Int) ∧ mm_ln M (M b 0).toNat ≤ 220
theorem sC.w {M0 M : mm_M} {d0 d : List Nat} {b : Nat} {n q q' : Int} (h : sC M0 d0 M d b n q) (hq : q' ≤ q ∨ q' ≤ n) : sC M0 d0 M d b n q' := by
  obtain ⟨h1, h2, h3, h4, h5, h7, h8, h9, h10⟩ := h
  exact ⟨h1, h2, h3, h4, h5, h7, h8, by omega, h10⟩
theorem bO.ne {d0 d : List Nat} {M : mm_M} {x y k k' : Nat} (h : bO d0 M d x k) (h' : bO d0 M d y k') (hk : k ≠ k') : x ≠ y := by
  intro e
  subst e
  exact hk (h.1.1.symm.trans h'.1.1)
theorem sC.row {M0 M M' : mm_M} {d0 d : List Nat} {b a k : Nat} {n q : Int} (h : sC M0 d0 M d b n q) (ha : bO d0 M d a k) (hk : k ≠ 16) (e : ∀ x, x ≠ a → M' x = M x) : sC M0 d0 M' d b n q := by
  obtain ⟨h1, h2, h3, h4, h5, h7, h8, h9, h10⟩ := h
  have hne := h2.ne ha (Ne.symm hk)
  have ek := mm_kd_up (M := M) (M' := M') (o' := (M b 0).toNat) (by have := ha.2.1; omega) e
  have eb := e b hne
  refine ⟨h1.same ha.2 e, h2.same ha.2.1 e, by rw [eb]; exact h3, by rw [eb]; exact h4, h5, by rw [eb]; exact h7.same ha.2.1 e, ?_⟩
  rw [eb, ek.2]
  exact ⟨h8, h9, h10⟩
theorem sC.cnt {M0 M : mm_M} {d0 d : List Nat} {b : Nat} {n q n' : Int} (h : sC M0 d0 M d b n q) (h0 : 0 ≤ n' ∧ n' ≤ q) : sC M0 d0 (mm_up M b 3 n') d b n' q := by
  obtain ⟨h1, h2, h3, h4, h5, h7, h8, h9, h10⟩ := h
  have e : ∀ x, x ≠ b → mm_up M b 3 n' x = M x := mm_up_o
  have ek := mm_kd_up (M := M) (M' := mm_up M b 3 n') (o' := (M b 0).toNat) (by have := h2.2.1; omega) e
  have e0 : mm_up M b 3 n' b 0 = M b 0 := by simp [mm_up]
  refine ⟨h1.same h2.2 e, h2.same h2.2.1 e, by simpa [mm_up] using h3, by simp [mm_up], h0.1, by rw [e0]; exact h7.same h2.2.1 e, ?_⟩
  rw [e0, ek.2]
  exact ⟨by omega, h9, h10⟩
theorem sC.set {M0 M : mm_M} {d0 d : List Nat} {b o : Nat} {n q : Int} (h1 : bX M0 d0 M d) (h2 : bO d0 M d b 16) (h3 : M b 1 = 0) (h4 : M b 3 = n) (h5 : 0 ≤ n) (h7 : bO d0 M d o 3) (h8 : n ≤ (mm_ln M o : Int) ∧ q ≤ (mm_ln M o : Int) ∧ mm_ln M o ≤ 220) : sC M0 d0 (mm_up M b 0 (o : Int)) d b n q := by
  have e : ∀ x, x ≠ b → mm_up M b 0 (o : Int) x = M x := mm_up_o
  have ek := mm_kd_up (M := M) (M' := mm_up M b 0 (o : Int)) (o' := o) (by have := h2.2.1; omega) e
  have e0 : (mm_up M b 0 (o : Int) b 0).toNat = o := by simp [mm_up]
  refine ⟨h1.same h2.2 e, h2.same h2.2.1 e, by simpa [mm_up] using h3, by simpa [mm_up] using h4, h5, by rw [e0]; exact h7.same h2.2.1 e, ?_⟩
  rw [e0, ek.2]
  exact h8
theorem sC.new {M0 M : mm_M} {d0 d : List Nat} {b o k : Nat} {n q n' : Int} (h : sC M0 d0 M d b n q) (ho : 100 ≤ o) (hd : o ∉ d) : sC M0 d0 (mm_nob M o k n') (d ++ [o]) b n q := by
  obtain ⟨h1, h2, h3, h4, h5, h7, h8, h9, h10⟩ := h
  have hb : b ≠ o := fun z => mm_ids_new ho hd (z ▸ h2.1.2)
  have ha : (M b 0).toNat ≠ o := fun z => mm_ids_new ho hd (z ▸ h7.1.2)
  have eb : mm_nob M o k n' b = M b := mm_nob_o hb (by have := h2.2.1; omega)
  have ek := mm_nob_kd2 (M := M) (k := k) (n := n') ho ha
  refine ⟨h1.new ho hd, h2.new ho hd, by rw [eb]; exact h3, by rw [eb]; exact h4, h5, by rw [eb]; exact h7.new ho hd, ?_⟩
  rw [eb, ek.2]
  exact ⟨h8, h9, h10⟩
/-- an object and its row through a change elsewhere, a change of itself, a new object -/
theorem isU {M : mm_M} {d : List Nat} {o i a k : Nat} {x : Int} (h : mm_is M d a k) (ho : o ≠ 0) : mm_is (mm_up M o i x) d a k := ⟨by rw [(mm_kd_up (M := M) (M' := mm_up M o i x) (o' := a) ho mm_up_o).1]; exact h.1, h.2⟩
theorem lnU {M : mm_M} {o i a : Nat} {x : Int} (ho : o ≠ 0) : mm_ln (mm_up M o i x) a = mm_ln M a := (mm_kd_up (M := M) (M' := mm_up M o i x) (o' := a) ho mm_up_o).2
theorem isY {M : mm_M} {d : List Nat} {o a k : Nat} {h9 : Nat → Int} (h : mm_is M d a k) (ho : o ≠ 0) : mm_is (mm_any M o h9) d a k := ⟨by rw [(mm_kd_up (M := M) (M' := mm_any M o h9) (o' := a) ho mm_any_o).1]; exact h.1, h.2⟩
theorem lnY {M : mm_M} {o a : Nat} {h9 : Nat → Int} (ho : o ≠ 0) : mm_ln (mm_any M o h9) a = mm_ln M a := (mm_kd_up (M := M) (M' := mm_any M o h9) (o' := a) ho mm_any_o).2
theorem isN {M : mm_M} {d : List Nat} {o a k k' : Nat} {n : Int} (h : mm_is M d a k) (ho : 100 ≤ o) (hd : o ∉ d) : mm_is (mm_nob M o k' n) (d ++ [o]) a k ∧ mm_ln (mm_nob M o k' n) a = mm_ln M a := by
  have hne : a ≠ o := fun z => mm_ids_new ho hd (z ▸ h.2)
  have ek := mm_nob_kd2 (M := M) (k := k') (n := n) ho hne
  refine ⟨⟨by rw [ek.1]; exact h.1, ?_⟩, ek.2⟩
  rcases List.mem_append.mp h.2 with z | z
  · exact List.mem_append_left _ z
  · exact List.mem_append_right _ (List.mem_append_left _ z)
theorem isNo {M : mm_M} {d : List Nat} {o k : Nat} {n : Int} (ho : 100 ≤ o) (hn : 0 ≤ n) : mm_is (mm_nob M o k n) (d ++ [o]) o k ∧ mm_ln (mm_nob M o k n) o = n.toNat := by
  have ek := mm_nob_kd (M := M) (k := k) ho hn
  exact ⟨⟨ek.1, List.mem_append_right _ (by simp)⟩, ek.2⟩
theorem mm_is.c {M : mm_M} {d : List Nat} {o k : Nat} (h : mm_is M d o k) : mm_isC M d o k := ⟨h.1, Or.inl h.2⟩
theorem tp0 (x : Int) : x / 2 ^ (0 : Int).toNat = x := by simp
theorem tm0 (x : Int) : x * 2 ^ (0 : Int).toNat = x := by simp
theorem mm_up_any {M : mm_M} {a i : Nat} {x : Int} : mm_up M a i x = mm_any M a (fun k => if k = i then x else M a k) := by
  funext y k
  by_cases hy : y = a
  · subst hy
    by_cases hk : k = i <;> simp [mm_up, mm_any, hk]
  · simp [mm_up, mm_any, hy]
theorem mm_any_any {M : mm_M} {a : Nat} {h h' : Nat → Int} : mm_any (mm_any M a h) a h' = mm_any M a h' := by
  funext y k
  by_cases hy : y = a <;> simp [mm_any, hy]
theorem mj5 {A B C D E S : Prop} (a : A) (b : B) (c : C) (d : D) (e : E) (s : S) : A ∧ B ∧ C ∧ D ∧ E ∧ S := ⟨a, b, c, d, e, s⟩
def sp_J_max : mm_S := fun av M d Q => match av with
  | [.inl a, .inl b] => InI a ∧ InI b ∧ ∀ r, (b ≤ a → r = a) ∧ (a < b → r = b) → Q (.inl (some (mm_I r))) M d
  | _ => False
def sp_J_min : mm_S := fun av M d Q => match av with
  | [.inl a, .inl b] => InI a ∧ InI b ∧ ∀ r, (a ≤ b → r = a) ∧ (b < a → r = b) → Q (.inl (some (mm_I r))) M d
  | _ => False
theorem mm_semMax {l : Launch} {own : String} {idx FR LO : Nat} (hl : Jvm.Cond.methodLink own idx Lib.Math.max.name ∈ mm_T) (hs : Jvm.Cond.static Lib.Math.max.name ∈ mm_T) (hi : Jvm.Cond.initialized "java/lang/Math" ∈ mm_T) (hc : Jvm.Cond.code Lib.Math.max.name Lib.Math.max.code 2 (some .int) ∈ mm_T) (h1 : 1 ≤ FR) (h2 : 21 ≤ LO) : mm_sem l own FR LO idx (1, 2, 0, sp_J_max, 0) := by
  intro p e R s m args below meth c Qm cc nL D E Ad A MU X hG hR hRf hRl pc ls st M d u Kn QX hd hn hrv hcat hu hsp kn H locs L hL hP hD hS
  have ww : ∀ w ∈ mm_T, w.before args s = true := fun w h => X.2.2.2.2.1 _ (mm_T_U _ h)
  dsimp only at hsp hd hn hcat hu
  match st, hn, hsp, hcat with
  | v :: w :: r, _, hsp, hcat =>
    simp only [List.take_succ_cons, List.take_zero, List.reverse_cons, List.reverse_nil, List.nil_append, List.cons_append, List.drop_succ_cons, List.drop_zero] at hsp hcat
    unfold sp_J_max at hsp
    split at hsp
    · rename_i a b heq
      cases heq
      obtain ⟨ha, hb, hq⟩ := hsp
      refine va_mmax (x := Int32.ofInt a) (y := Int32.ofInt b) X.1 X.2.1 (X.2.2.1.trans hL.1.symm) X.2.2.2.1 (ww _ hl) (ww _ hs) (ww _ hi) (ww _ hc) (by omega) (by rw [mm_catsum]; omega) (by omega) (by omega) hd ?_
      by_cases h : a < b
      · rw [if_pos ((mm_lt ha hb).mpr h)]
        exact kn _ _ _ _ _ (hq b ⟨fun _ => by omega, fun _ => rfl⟩) H locs L hL hP hD hS
      · rw [if_neg (fun z => h ((mm_lt ha hb).mp z))]
        exact kn _ _ _ _ _ (hq a ⟨fun _ => rfl, fun _ => by omega⟩) H locs L hL hP hD hS
    · exact hsp.elim
theorem mm_semMin {l : Launch} {own : String} {idx FR LO : Nat} (hl : Jvm.Cond.methodLink own idx Lib.Math.min.name ∈ mm_T) (hs : Jvm.Cond.static Lib.Math.min.name ∈ mm_T) (hi : Jvm.Cond.initialized "java/lang/Math" ∈ mm_T) (hc : Jvm.Cond.code Lib.Math.min.name Lib.Math.min.code 2 (some .int) ∈ mm_T) (h1 : 1 ≤ FR) (h2 : 21 ≤ LO) : mm_sem l own FR LO idx (1, 2, 0, sp_J_min, 0) := by
  intro p e R s m args below meth c Qm cc nL D E Ad A MU X hG hR hRf hRl pc ls st M d u Kn QX hd hn hrv hcat hu hsp kn H locs L hL hP hD hS
  have ww : ∀ w ∈ mm_T, w.before args s = true := fun w h => X.2.2.2.2.1 _ (mm_T_U _ h)
  dsimp only at hsp hd hn hcat hu
  match st, hn, hsp, hcat with
  | v :: w :: r, _, hsp, hcat =>
    simp only [List.take_succ_cons, List.take_zero, List.reverse_cons, List.reverse_nil, List.nil_append, List.cons_append, List.drop_succ_cons, List.drop_zero] at hsp hcat
    unfold sp_J_min at hsp
    split at hsp
    · rename_i a b heq
      cases heq
      obtain ⟨ha, hb, hq⟩ := hsp
      refine va_mmin (x := Int32.ofInt a) (y := Int32.ofInt b) X.1 X.2.1 (X.2.2.1.trans hL.1.symm) X.2.2.2.1 (ww _ hl) (ww _ hs) (ww _ hi) (ww _ hc) (by omega) (by rw [mm_catsum]; omega) (by omega) (by omega) hd ?_
      by_cases h : b < a
      · rw [if_pos ((mm_lt hb ha).mpr h)]
        exact kn _ _ _ _ _ (hq b ⟨fun _ => by omega, fun _ => rfl⟩) H locs L hL hP hD hS
      · rw [if_neg (fun z => h ((mm_lt hb ha).mp z))]
        exact kn _ _ _ _ _ (hq a ⟨fun _ => rfl, fun _ => by omega⟩) H locs L hL hP hD hS
    · exact hsp.elim
def kdJ_newLength : List mm_E := [(0, .iload_n 0, 0), (1, .iload_n 1, 0), (2, .iload_n 2, 0), (3, .invokestatic 194, 0), (6, .iadd, 0), (7, .istore_n 3, 0), (8, .iconst 0, 0), (9, .iload_n 3, 0), (10, .if_icmp .ge 11, 21), (13, .iload_n 3, 0), (14, .ldc 200, 0), (16, .if_icmp .gt 5, 21), (19, .iload_n 3, 0), (20, .ireturn, 0), (21, .iload_n 0, 0), (22, .iload_n 1, 0), (23, .invokestatic 201, 0), (26, .ireturn, 0)]
theorem kkJ_newLength : mm_chk prog_23_method_27_code kdJ_newLength = true := mm_fck 0 (by decide +kernel)
def yJ_newLength : MethodName := ⟨"jdk/internal/util/ArraysSupport", "newLength", "(III)I"⟩
theorem jw_newLength : mm_JW yJ_newLength prog_23_method_27_code 4 (some .int) := ⟨(mm_t4 236 rfl rfl), (mm_t1 16 rfl rfl), ⟨by decide, by decide⟩⟩
def sp_J_newLength : mm_S := fun av M d Q => match av with
  | [.inl a, .inl b, .inl c] =>  (0 ≤ a ∧ a ≤ 1000) ∧ (0 ≤ b ∧ b ≤ 1000) ∧ (1 ≤ c ∧ c ≤ 1000) ∧ ∀ r, (c ≤ b → r = a + b) ∧ (b < c → r = a + c) → Q (.inl (some (mm_I r))) M d
  | _ => False
def ct_J_newLength : List (Nat × mm_Ca) := [(194, (1, 2, 0, sp_J_max, 0))]
def flJ_newLength : List (Nat × Nat × Nat) := [(200, 0, 96)]
theorem flJ_newLength_k : ∀ q ∈ flJ_newLength, mm_lj "jdk/internal/util/ArraysSupport" mm_U q.2.1 q.2.2 q.1 := by
  intro q hq
  simp only [flJ_newLength, List.mem_cons, List.not_mem_nil, or_false] at hq
  subst hq
  · exact Or.inr ⟨by decide, (List.forall_mem_cons.mpr ⟨mm_T_U _ (mm_t5 0 rfl rfl), (fun _ h => nomatch h)⟩), (fun h => absurd h (by decide)), (fun h => absurd h (by decide))⟩
abbrev rr_J_newLength (Q : mm_Q) := mm_run (mm_look flJ_newLength) (mm_look ct_J_newLength) mm_x0 (mm_look ([] : List (Nat × Int))) (fun _ => none) 1 0 (fun _ _ => none) Q kdJ_newLength
set_option maxRecDepth 20000 in
theorem rn_J_newLength : mm_RN flJ_newLength ct_J_newLength mm_x0 [] 1 0 4 kdJ_newLength sp_J_newLength := by
  intro av M d Q h
  unfold sp_J_newLength at h
  split at h
  · rename_i a b c
    obtain ⟨ha, hb, hc, hq⟩ := h
    obtain ⟨K, hK, hK2⟩ : ∃ K : Nat → mm_K, (∀ t ls st M d u, K t ls st M d u → rr_J_newLength Q t ls st M d u) ∧ (∀ t ls st M d u, rr_J_newLength Q t ls st M d u → K t ls st M d u) := ⟨rr_J_newLength Q, fun _ _ _ _ _ _ h => h, fun _ _ _ _ _ _ h => h⟩
    refine ⟨Nat.le_of_ble_eq_true rfl, mm_run_at (stop := []) (S := K) kkJ_newLength 90 ?_ (fun _ _ _ _ _ _ _ h => hK _ _ _ _ _ _ h)⟩
    repeat' (first | with_reducible assumption | ((with_reducible show mm_rv _ _ _ _ _); first | exact True.intro) | ((with_reducible show mm_bool _ _); first | exact True.intro | exact Or.inl rfl | exact Or.inr rfl | (show (_ : Int) = 0 ∨ _ = 1)) | refine And.intro ?_ ?_ | intro _ | with_reducible exact True.intro | exact rfl | with_reducible exact Or.inl rfl | with_reducible exact Or.inr rfl | exact Nat.le_of_ble_eq_true rfl)
    all_goals (try simp (disch := omega) only [InI, Int.toNat_natCast, Int.tmod_eq_emod_of_nonneg, Int.tdiv_eq_ediv_of_nonneg, true_implies, true_or, or_true, mm_l18, mm_l19, mm_l20, mm_l21, mm_l22] at *)
    all_goals first | omega | (exact hq _ ⟨fun _ => by omega, fun _ => by omega⟩) | skip
  · exact h.elim
theorem je_newLength {l : Launch} : mm_Jet l yJ_newLength prog_23_method_27_code 4 (some .int) 6 100 0 sp_J_newLength := mm_mtJ (own := "jdk/internal/util/ArraysSupport") rn_J_newLength ⟨by decide +kernel, rfl⟩ kkJ_newLength rfl ⟨by decide, by decide⟩ flJ_newLength_k (⟨mm_semMax (mm_t4 237 rfl rfl) (mm_t4 238 rfl rfl) (mm_t1 17 rfl rfl) (mm_t4 239 rfl rfl) (Nat.le_of_ble_eq_true rfl) (Nat.le_of_ble_eq_true rfl), trivial⟩) (by decide)
def kdJ_canEncode : List mm_E := [(0, .iload_n 0, 0), (1, .sipush 255, 0), (4, .if_icmp .gt 7, 11), (7, .iconst 1, 0), (8, .goto 4, 12), (11, .iconst 0, 0), (12, .ireturn, 0)]
theorem kkJ_canEncode : mm_chk prog_18_method_3_code kdJ_canEncode = true := mm_fck 0 (by decide +kernel)
def yJ_canEncode : MethodName := ⟨"java/lang/StringLatin1", "canEncode", "(C)Z"⟩
theorem jw_canEncode : mm_JW yJ_canEncode prog_18_method_3_code 1 (some .boolean) := ⟨(mm_t5 28 rfl rfl), (mm_t1 20 rfl rfl), ⟨by decide, by decide⟩⟩
def sp_J_canEncode : mm_S := fun av M d Q => match av with
  | [.inl c] =>  (0 ≤ c ∧ c ≤ 255) ∧ Q (.inl (some (mm_I 1))) M d
  | _ => False
def ct_J_canEncode : List (Nat × mm_Ca) := []
def flJ_canEncode : List (Nat × Nat × Nat) := []
theorem flJ_canEncode_k : ∀ q ∈ flJ_canEncode, mm_lj "java/lang/StringLatin1" mm_U q.2.1 q.2.2 q.1 := fun _ h => nomatch h
abbrev rr_J_canEncode (Q : mm_Q) := mm_run (mm_look flJ_canEncode) (mm_look ct_J_canEncode) mm_x0 (mm_look ([] : List (Nat × Int))) (fun _ => none) 2 0 (fun _ _ => none) Q kdJ_canEncode
set_option maxRecDepth 20000 in
theorem rn_J_canEncode : mm_RN flJ_canEncode ct_J_canEncode mm_x0 [] 2 0 1 kdJ_canEncode sp_J_canEncode := by
  intro av M d Q h
  unfold sp_J_canEncode at h
  split at h
  · rename_i c
    obtain ⟨hc, hq⟩ := h
    obtain ⟨K, hK, hK2⟩ : ∃ K : Nat → mm_K, (∀ t ls st M d u, K t ls st M d u → rr_J_canEncode Q t ls st M d u) ∧ (∀ t ls st M d u, rr_J_canEncode Q t ls st M d u → K t ls st M d u) := ⟨rr_J_canEncode Q, fun _ _ _ _ _ _ h => h, fun _ _ _ _ _ _ h => h⟩
    refine ⟨Nat.le_of_ble_eq_true rfl, mm_run_at (stop := []) (S := K) kkJ_canEncode 90 ?_ (fun _ _ _ _ _ _ _ h => hK _ _ _ _ _ _ h)⟩
    repeat' (first | with_reducible assumption | ((with_reducible show mm_rv _ _ _ _ _); first | exact True.intro) | ((with_reducible show mm_bool _ _); first | exact True.intro | exact Or.inl rfl | exact Or.inr rfl | (show (_ : Int) = 0 ∨ _ = 1)) | refine And.intro ?_ ?_ | intro _ | with_reducible exact True.intro | exact rfl | with_reducible exact Or.inl rfl | with_reducible exact Or.inr rfl | exact Nat.le_of_ble_eq_true rfl)
    all_goals (try simp (disch := omega) only [InI, Int.toNat_natCast, Int.tmod_eq_emod_of_nonneg, Int.tdiv_eq_ediv_of_nonneg, true_implies, true_or, or_true, mm_l18, mm_l19, mm_l20, mm_l21, mm_l22] at *)
    all_goals first | omega | skip
  · exact h.elim
theorem je_canEncode {l : Launch} : mm_Jet l yJ_canEncode prog_18_method_3_code 1 (some .boolean) 6 100 0 sp_J_canEncode := mm_mtJ (own := "java/lang/StringLatin1") rn_J_canEncode ⟨by decide +kernel, rfl⟩ kkJ_canEncode rfl ⟨by decide, by decide⟩ flJ_canEncode_k (trivial) (by decide)
def kdJ_stringSize : List mm_E := [(0, .iconst 1, 0), (1, .istore_n 1, 0), (2, .iload_n 0, 0), (3, .ifCond .lt 8, 11), (6, .iconst 0, 0), (7, .istore_n 1, 0), (8, .iload_n 0, 0), (9, .ineg, 0), (10, .istore_n 0, 0), (11, .bipush (-10), 0), (13, .istore_n 2, 0), (14, .iconst 1, 0), (15, .istore_n 3, 0), (16, .iload_n 3, 0), (17, .bipush 10, 0), (19, .if_icmp .ge 23, 42), (22, .iload_n 0, 0), (23, .iload_n 2, 0), (24, .if_icmp .le 7, 31), (27, .iload_n 3, 0), (28, .iload_n 1, 0), (29, .iadd, 0), (30, .ireturn, 0), (31, .bipush 10, 0), (33, .iload_n 2, 0), (34, .imul, 0), (35, .istore_n 2, 0), (36, .iinc 3 1, 0), (39, .goto (-23), 16), (42, .bipush 10, 0), (44, .iload_n 1, 0), (45, .iadd, 0), (46, .ireturn, 0)]
theorem kkJ_stringSize : mm_chk prog_13_method_13_code kdJ_stringSize = true := mm_fck 0 (by decide +kernel)
def yJ_stringSize : MethodName := ⟨"java/lang/Integer", "stringSize", "(I)I"⟩
theorem jw_stringSize : mm_JW yJ_stringSize prog_13_method_13_code 4 (some .int) := ⟨(mm_t5 88 rfl rfl), (mm_t1 22 rfl rfl), ⟨by decide, by decide⟩⟩
def sp_J_stringSize : mm_S := fun av M d Q => match av with
  | [.inl x] =>  (0 ≤ x ∧ x < 100) ∧ ∀ r, (x < 10 → r = 1) ∧ (10 ≤ x → r = 2) → Q (.inl (some (mm_I r))) M d
  | _ => False
def ct_J_stringSize : List (Nat × mm_Ca) := []
def flJ_stringSize : List (Nat × Nat × Nat) := []
theorem flJ_stringSize_k : ∀ q ∈ flJ_stringSize, mm_lj "java/lang/Integer" mm_U q.2.1 q.2.2 q.1 := fun _ h => nomatch h
abbrev rr_J_stringSize (Q : mm_Q) := mm_run (mm_look flJ_stringSize) (mm_look ct_J_stringSize) mm_x0 (mm_look ([] : List (Nat × Int))) (fun _ => none) 1 0 (fun _ _ => none) Q kdJ_stringSize
set_option maxRecDepth 20000 in
theorem rn_J_stringSize : mm_RN flJ_stringSize ct_J_stringSize mm_x0 [] 1 0 4 kdJ_stringSize sp_J_stringSize := by
  intro av M d Q h
  unfold sp_J_stringSize at h
  split at h
  · rename_i x
    obtain ⟨hx, hq⟩ := h
    obtain ⟨K, hK, hK2⟩ : ∃ K : Nat → mm_K, (∀ t ls st M d u, K t ls st M d u → rr_J_stringSize Q t ls st M d u) ∧ (∀ t ls st M d u, rr_J_stringSize Q t ls st M d u → K t ls st M d u) := ⟨rr_J_stringSize Q, fun _ _ _ _ _ _ h => h, fun _ _ _ _ _ _ h => h⟩
    have k16b : ∀ p i : Int, p = -100 → i = 2 → 10 ≤ x → K 16 [some (mm_I (-x)), some (mm_I 0), some (mm_I p), some (mm_I i)] [] M d 0 := by
      intro p i hp hi hx1
      refine hK2 _ _ _ _ _ _ ?_
      refine mm_run_at (stop := [16]) (S := K) kkJ_stringSize 90 ?_ (fun _ _ _ _ _ _ _ h => hK _ _ _ _ _ _ h)
      repeat' (first | with_reducible assumption | ((with_reducible show mm_rv _ _ _ _ _); first | exact True.intro) | ((with_reducible show mm_bool _ _); first | exact True.intro | exact Or.inl rfl | exact Or.inr rfl | (show (_ : Int) = 0 ∨ _ = 1)) | refine And.intro ?_ ?_ | intro _ | with_reducible exact True.intro | exact rfl | with_reducible exact Or.inl rfl | with_reducible exact Or.inr rfl | exact Nat.le_of_ble_eq_true rfl)
      all_goals (try simp (disch := omega) only [InI, Int.toNat_natCast, Int.tmod_eq_emod_of_nonneg, Int.tdiv_eq_ediv_of_nonneg, true_implies, true_or, or_true, mm_l18, mm_l19, mm_l20, mm_l21, mm_l22] at *)
      all_goals first | omega | (exact hq _ ⟨fun _ => by omega, fun _ => by omega⟩) | skip
    have k16a : ∀ p i : Int, p = -10 → i = 1 → K 16 [some (mm_I (-x)), some (mm_I 0), some (mm_I p), some (mm_I i)] [] M d 0 := by
      intro p i hp hi
      refine hK2 _ _ _ _ _ _ ?_
      refine mm_run_at (stop := [16]) (S := K) kkJ_stringSize 90 ?_ (fun _ _ _ _ _ _ _ h => hK _ _ _ _ _ _ h)
      repeat' (first | with_reducible assumption | ((with_reducible show mm_rv _ _ _ _ _); first | exact True.intro) | ((with_reducible show mm_bool _ _); first | exact True.intro | exact Or.inl rfl | exact Or.inr rfl | (show (_ : Int) = 0 ∨ _ = 1)) | refine And.intro ?_ ?_ | intro _ | with_reducible exact True.intro | exact rfl | with_reducible exact Or.inl rfl | with_reducible exact Or.inr rfl | exact Nat.le_of_ble_eq_true rfl)
      all_goals (try simp (disch := omega) only [InI, Int.toNat_natCast, Int.tmod_eq_emod_of_nonneg, Int.tdiv_eq_ediv_of_nonneg, true_implies, true_or, or_true, mm_l18, mm_l19, mm_l20, mm_l21, mm_l22] at *)
      all_goals first | omega | (exact hq _ ⟨fun _ => by omega, fun _ => by omega⟩) | exact k16b _ _ (by omega) (by omega) (by omega) | skip
    refine ⟨Nat.le_of_ble_eq_true rfl, ?_⟩
    refine mm_run_at (stop := [16]) (S := K) kkJ_stringSize 90 ?_ (fun _ _ _ _ _ _ _ h => hK _ _ _ _ _ _ h)
    repeat' (first | with_reducible assumption | ((with_reducible show mm_rv _ _ _ _ _); first | exact True.intro) | ((with_reducible show mm_bool _ _); first | exact True.intro | exact Or.inl rfl | exact Or.inr rfl | (show (_ : Int) = 0 ∨ _ = 1)) | refine And.intro ?_ ?_ | intro _ | with_reducible exact True.intro | exact rfl | with_reducible exact Or.inl rfl | with_reducible exact Or.inr rfl | exact Nat.le_of_ble_eq_true rfl)
    all_goals (try simp (disch := omega) only [InI, Int.toNat_natCast, Int.tmod_eq_emod_of_nonneg, Int.tdiv_eq_ediv_of_nonneg, true_implies, true_or, or_true, mm_l18, mm_l19, mm_l20, mm_l21, mm_l22] at *)
    all_goals first | omega | exact k16a _ _ rfl rfl | skip
  · exact h.elim
theorem je_stringSize {l : Launch} : mm_Jet l yJ_stringSize prog_13_method_13_code 4 (some .int) 6 100 0 sp_J_stringSize := mm_mtJ (own := "java/lang/Integer") rn_J_stringSize ⟨by decide +kernel, rfl⟩ kkJ_stringSize rfl ⟨by decide, by decide⟩ flJ_stringSize_k (trivial) (by decide)
def kdJ_getChars : List mm_E := [(0, .iload_n 1, 0), (1, .istore 5, 0), (3, .iload_n 0, 0), (4, .ifCond .ge 7, 11), (7, .iconst 1, 0), (8, .goto 4, 12), (11, .iconst 0, 0), (12, .istore 6, 0), (14, .iload 6, 0), (16, .ifCond .ne 6, 22), (19, .iload_n 0, 0), (20, .ineg, 0), (21, .istore_n 0, 0), (22, .iload_n 0, 0), (23, .bipush (-100), 0), (25, .if_icmp .gt 47, 72), (28, .iload_n 0, 0), (29, .bipush 100, 0), (31, .idiv, 0), (32, .istore_n 3, 0), (33, .iload_n 3, 0), (34, .bipush 100, 0), (36, .imul, 0), (37, .iload_n 0, 0), (38, .isub, 0), (39, .istore 4, 0), (41, .iload_n 3, 0), (42, .istore_n 0, 0), (43, .aload_n 2, 0), (44, .iinc 5 (-1), 0), (47, .iload 5, 0), (49, .getstatic 83, 0), (52, .iload 4, 0), (54, .baload, 0), (55, .bastore, 0), (56, .aload_n 2, 0), (57, .iinc 5 (-1), 0), (60, .iload 5, 0), (62, .getstatic 87, 0), (65, .iload 4, 0), (67, .baload, 0), (68, .bastore, 0), (69, .goto (-47), 22), (72, .aload_n 2, 0), (73, .iinc 5 (-1), 0), (76, .iload 5, 0), (78, .getstatic 83, 0), (81, .iload_n 0, 0), (82, .ineg, 0), (83, .baload, 0), (84, .bastore, 0), (85, .iload_n 0, 0), (86, .bipush (-9), 0), (88, .if_icmp .ge 16, 104), (91, .aload_n 2, 0), (92, .iinc 5 (-1), 0), (95, .iload 5, 0), (97, .getstatic 87, 0), (100, .iload_n 0, 0), (101, .ineg, 0), (102, .baload, 0), (103, .bastore, 0), (104, .iload 6, 0), (106, .ifCond .eq 12, 118), (109, .aload_n 2, 0), (110, .iinc 5 (-1), 0), (113, .iload 5, 0), (115, .bipush 45, 0), (117, .bastore, 0), (118, .iload 5, 0), (120, .ireturn, 0)]
theorem kkJ_getChars : mm_chk prog_13_method_12_code kdJ_getChars = true := mm_fck 0 (by decide +kernel)
def yJ_getChars : MethodName := ⟨"java/lang/Integer", "getChars", "(II[B)I"⟩
theorem jw_getChars : mm_JW yJ_getChars prog_13_method_12_code 7 (some .int) := ⟨(mm_t5 91 rfl rfl), (mm_t1 22 rfl rfl), ⟨by decide, by decide⟩⟩
def sp_J_getChars : mm_S := fun av M d Q => match av with
  | [.inl x, .inl i, .inr (.inr (.inl a))] =>  (0 ≤ x ∧ x < 100) ∧ mm_is M d a 3 ∧ (x < 10 → 1 ≤ i) ∧ (10 ≤ x → 2 ≤ i) ∧ i ≤ (mm_ln M a : Int) ∧ mm_ln M a ≤ 220 ∧ ∀ h9 r, Q (.inl (some (mm_I r))) (mm_any M a h9) d
  | _ => False
def ct_J_getChars : List (Nat × mm_Ca) := []
def flJ_getChars : List (Nat × Nat × Nat) := [(83, 24, 98), (87, 25, 98)]
theorem flJ_getChars_k : ∀ q ∈ flJ_getChars, mm_lj "java/lang/Integer" mm_U q.2.1 q.2.2 q.1 := by
  intro q hq
  simp only [flJ_getChars, List.mem_cons, List.not_mem_nil, or_false] at hq
  rcases hq with rfl | rfl
  · exact Or.inr ⟨by decide, (List.forall_mem_cons.mpr ⟨mm_T_U _ (mm_t5 92 rfl rfl), (fun _ h => nomatch h)⟩), (fun h => absurd h (by decide)), (fun h => absurd h (by decide))⟩
  · exact Or.inr ⟨by decide, (List.forall_mem_cons.mpr ⟨mm_T_U _ (mm_t5 94 rfl rfl), (fun _ h => nomatch h)⟩), (fun h => absurd h (by decide)), (fun h => absurd h (by decide))⟩
abbrev rr_J_getChars (Q : mm_Q) := mm_run (mm_look flJ_getChars) (mm_look ct_J_getChars) mm_x0 (mm_look ([] : List (Nat × Int))) (fun _ => none) 1 0 (fun _ _ => none) Q kdJ_getChars
set_option maxRecDepth 20000 in
theorem rn_J_getChars : mm_RN flJ_getChars ct_J_getChars mm_x0 [] 1 0 7 kdJ_getChars sp_J_getChars := by
  intro av M d Q h
  unfold sp_J_getChars at h
  split at h
  · rename_i x i a
    obtain ⟨hx, ha, h1, h2, h3, h4, hq⟩ := h
    have hne := mm_is0 ha
    obtain ⟨K, hK, hK2⟩ : ∃ K : Nat → mm_K, (∀ t ls st M d u, K t ls st M d u → rr_J_getChars Q t ls st M d u) ∧ (∀ t ls st M d u, rr_J_getChars Q t ls st M d u → K t ls st M d u) := ⟨rr_J_getChars Q, fun _ _ _ _ _ _ h => h, fun _ _ _ _ _ _ h => h⟩
    have k22 : K 22 [some (mm_I (-x)), some (mm_I i), some (mm_R a), none, none, some (mm_I i), some (mm_I 0)] [] M d 0 := by
      refine hK2 _ _ _ _ _ _ ?_
      refine mm_run_at (stop := [22, 28]) (S := K) kkJ_getChars 90 ?_ (fun _ _ _ _ _ _ _ h => hK _ _ _ _ _ _ h)
      repeat' (first | with_reducible assumption | ((with_reducible show mm_rv _ _ _ _ _); first | exact True.intro | exact isU ha hne) | exact isU ha hne | ((with_reducible show mm_bool _ _); first | exact True.intro | exact Or.inl rfl | exact Or.inr rfl | (show (_ : Int) = 0 ∨ _ = 1)) | refine And.intro ?_ ?_ | intro _ | with_reducible exact True.intro | exact rfl | with_reducible exact Or.inl rfl | with_reducible exact Or.inr rfl | exact Nat.le_of_ble_eq_true rfl)
      all_goals (try simp (disch := omega) only [lnU hne, InI, Int.toNat_natCast, Int.tmod_eq_emod_of_nonneg, Int.tdiv_eq_ediv_of_nonneg, true_implies, true_or, or_true, mm_l18, mm_l19, mm_l20, mm_l21, mm_l22] at *)
      all_goals first | omega | (simp only [mm_up_any, mm_any_any]; exact hq _ _) | skip
    refine ⟨Nat.le_of_ble_eq_true rfl, ?_⟩
    refine mm_run_at (stop := [22]) (S := K) kkJ_getChars 90 ?_ (fun _ _ _ _ _ _ _ h => hK _ _ _ _ _ _ h)
    repeat' (first | with_reducible assumption | ((with_reducible show mm_rv _ _ _ _ _); first | exact True.intro) | ((with_reducible show mm_bool _ _); first | exact True.intro | exact Or.inl rfl | exact Or.inr rfl | (show (_ : Int) = 0 ∨ _ = 1)) | refine And.intro ?_ ?_ | intro _ | with_reducible exact True.intro | exact rfl | with_reducible exact Or.inl rfl | with_reducible exact Or.inr rfl | exact Nat.le_of_ble_eq_true rfl)
    all_goals (try simp (disch := omega) only [InI, Int.toNat_natCast, Int.tmod_eq_emod_of_nonneg, Int.tdiv_eq_ediv_of_nonneg, true_implies, true_or, or_true, mm_l18, mm_l19, mm_l20, mm_l21, mm_l22] at *)
    all_goals first | omega | exact k22 | skip
  · exact h.elim
theorem je_getChars {l : Launch} : mm_Jet l yJ_getChars prog_13_method_12_code 7 (some .int) 6 100 0 sp_J_getChars := mm_mtJ (own := "java/lang/Integer") rn_J_getChars ⟨by decide +kernel, rfl⟩ kkJ_getChars rfl ⟨by decide, by decide⟩ flJ_getChars_k (trivial) (by decide)
def kdJ_checkLength : List mm_E := [(0, .iload_n 1, 0), (1, .iload_n 0, 0), (2, .if_icmp .ge 35, 37), (5, .new 43, 0), (8, .dup, 0), (9, .new 45, 0), (12, .dup, 0), (13, .invokespecial 47, 0), (16, .iload_n 0, 0), (17, .invokevirtual 54, 0), (20, .ldc_w 337, 0), (23, .invokevirtual 50, 0), (26, .iload_n 1, 0), (27, .invokevirtual 54, 0), (30, .invokevirtual 61, 0), (33, .invokespecial 65, 0), (36, .athrow, 0), (37, .return_, 0)]
theorem kkJ_checkLength : mm_chk prog_22_method_131_code kdJ_checkLength = true := mm_fck 0 (by decide +kernel)
def yJ_checkLength : MethodName := ⟨"java/util/Arrays", "checkLength", "(II)V"⟩
theorem jw_checkLength : mm_JW yJ_checkLength prog_22_method_131_code 2 none := ⟨(mm_t5 148 rfl rfl), (mm_t1 18 rfl rfl), ⟨by decide, by decide⟩⟩
def sp_J_checkLength : mm_S := fun av M d Q => match av with
  | [.inl a, .inl b] =>  (a = 0 ∧ 0 ≤ b ∧ b ≤ 1000) ∧ Q (.inl none) M d
  | _ => False
def ct_J_checkLength : List (Nat × mm_Ca) := []
def flJ_checkLength : List (Nat × Nat × Nat) := []
theorem flJ_checkLength_k : ∀ q ∈ flJ_checkLength, mm_lj "java/util/Arrays" mm_U q.2.1 q.2.2 q.1 := fun _ h => nomatch h
abbrev rr_J_checkLength (Q : mm_Q) := mm_run (mm_look flJ_checkLength) (mm_look ct_J_checkLength) mm_x0 (mm_look ([] : List (Nat × Int))) (fun _ => none) 0 0 (fun _ _ => none) Q kdJ_checkLength
set_option maxRecDepth 20000 in
theorem rn_J_checkLength : mm_RN flJ_checkLength ct_J_checkLength mm_x0 [] 0 0 2 kdJ_checkLength sp_J_checkLength := by
  intro av M d Q h
  unfold sp_J_checkLength at h
  split at h
  · rename_i a b
    obtain ⟨⟨rfl, hb⟩, hq⟩ := h
    obtain ⟨K, hK, hK2⟩ : ∃ K : Nat → mm_K, (∀ t ls st M d u, K t ls st M d u → rr_J_checkLength Q t ls st M d u) ∧ (∀ t ls st M d u, rr_J_checkLength Q t ls st M d u → K t ls st M d u) := ⟨rr_J_checkLength Q, fun _ _ _ _ _ _ h => h, fun _ _ _ _ _ _ h => h⟩
    refine ⟨Nat.le_of_ble_eq_true rfl, mm_run_at (stop := []) (S := K) kkJ_checkLength 90 ?_ (fun _ _ _ _ _ _ _ h => hK _ _ _ _ _ _ h)⟩
    repeat' (first | with_reducible assumption | ((with_reducible show mm_rv _ _ _ _ _); first | exact True.intro) | ((with_reducible show mm_bool _ _); first | exact True.intro | exact Or.inl rfl | exact Or.inr rfl | (show (_ : Int) = 0 ∨ _ = 1)) | refine And.intro ?_ ?_ | intro _ | with_reducible exact True.intro | exact rfl | with_reducible exact Or.inl rfl | with_reducible exact Or.inr rfl | exact Nat.le_of_ble_eq_true rfl)
    all_goals (try simp (disch := omega) only [InI, Int.toNat_natCast, Int.tmod_eq_emod_of_nonneg, Int.tdiv_eq_ediv_of_nonneg, true_implies, true_or, or_true, mm_l18, mm_l19, mm_l20, mm_l21, mm_l22] at *)
    all_goals first | omega | skip
  · exact h.elim
theorem je_checkLength {l : Launch} : mm_Jet l yJ_checkLength prog_22_method_131_code 2 none 6 100 0 sp_J_checkLength := mm_mtJ (own := "java/util/Arrays") rn_J_checkLength ⟨by decide +kernel, rfl⟩ kkJ_checkLength rfl ⟨by decide, by decide⟩ flJ_checkLength_k (trivial) (by decide)
def kdJ_copyOf : List mm_E := [(0, .iload_n 1, 0), (1, .aload_n 0, 0), (2, .arraylength, 0), (3, .if_icmp .ne 11, 14), (6, .aload_n 0, 0), (7, .invokevirtual 310, 0), (10, .checkcast 311, 0), (13, .areturn, 0), (14, .iload_n 1, 0), (15, .newarray .byte, 0), (17, .astore_n 2, 0), (18, .aload_n 0, 0), (19, .iconst 0, 0), (20, .aload_n 2, 0), (21, .iconst 0, 0), (22, .aload_n 0, 0), (23, .arraylength, 0), (24, .iload_n 1, 0), (25, .invokestatic 304, 0), (28, .invokestatic 150, 0), (31, .aload_n 2, 0), (32, .areturn, 0)]
theorem kkJ_copyOf : mm_chk prog_22_method_121_code kdJ_copyOf = true := mm_fck 0 (by decide +kernel)
def yJ_copyOf : MethodName := ⟨"java/util/Arrays", "copyOf", "([BI)[B"⟩
theorem jw_copyOf : mm_JW yJ_copyOf prog_22_method_121_code 3 (some (.array .byte)) := ⟨(mm_t5 7 rfl rfl), (mm_t1 18 rfl rfl), ⟨by decide, by decide⟩⟩
def sp_J_copyOf : mm_S := fun av M d Q => match av with
  | [.inr (.inr (.inl a)), .inl n] =>  mm_is M d a 3 ∧ (mm_ln M a : Int) < n ∧ n ≤ 220 ∧ ∀ o h9, 100 ≤ o → o ∉ d → Q (.inl (some (mm_R o))) (mm_any (mm_nob M o 3 n) o h9) (d ++ [o])
  | _ => False
def ct_J_copyOf : List (Nat × mm_Ca) := [(304, (1, 2, 0, sp_J_min, 0))]
def flJ_copyOf : List (Nat × Nat × Nat) := [(310, 0, 94), (311, 0, 93), (150, 0, 95)]
theorem flJ_copyOf_k : ∀ q ∈ flJ_copyOf, mm_lj "java/util/Arrays" mm_U q.2.1 q.2.2 q.1 := by
  intro q hq
  simp only [flJ_copyOf, List.mem_cons, List.not_mem_nil, or_false] at hq
  rcases hq with rfl | rfl | rfl
  · exact Or.inr ⟨by decide, (List.forall_mem_cons.mpr ⟨mm_T_U _ (mm_t5 8 rfl rfl), (List.forall_mem_cons.mpr ⟨mm_T_U _ (mm_t5 9 rfl rfl), (List.forall_mem_cons.mpr ⟨mm_T_U _ (mm_t5 10 rfl rfl), (List.forall_mem_cons.mpr ⟨mm_T_U _ (mm_t5 11 rfl rfl), (List.forall_mem_cons.mpr ⟨mm_T_U _ (mm_t5 12 rfl rfl), (fun _ h => nomatch h)⟩)⟩)⟩)⟩)⟩), (fun h => absurd h (by decide)), (fun h => absurd h (by decide))⟩
  · exact Or.inr ⟨by decide, (List.forall_mem_cons.mpr ⟨mm_T_U _ (mm_t5 14 rfl rfl), (fun _ h => nomatch h)⟩), (fun h => absurd h (by decide)), (fun h => absurd h (by decide))⟩
  · exact Or.inr ⟨by decide, (List.forall_mem_cons.mpr ⟨mm_T_U _ (mm_t5 18 rfl rfl), (List.forall_mem_cons.mpr ⟨mm_T_U _ (mm_t5 20 rfl rfl), (List.forall_mem_cons.mpr ⟨mm_T_U _ (mm_t5 19 rfl rfl), (List.forall_mem_cons.mpr ⟨mm_T_U _ (mm_t1 19 rfl rfl), (fun _ h => nomatch h)⟩)⟩)⟩)⟩), (fun h => absurd h (by decide)), (fun h => absurd h (by decide))⟩
abbrev rr_J_copyOf (Q : mm_Q) := mm_run (mm_look flJ_copyOf) (mm_look ct_J_copyOf) mm_x0 (mm_look ([] : List (Nat × Int))) (fun _ => none) 24 19 (fun _ _ => none) Q kdJ_copyOf
set_option maxRecDepth 20000 in
theorem rn_J_copyOf : mm_RN flJ_copyOf ct_J_copyOf mm_x0 [] 24 19 3 kdJ_copyOf sp_J_copyOf := by
  intro av M d Q h
  unfold sp_J_copyOf at h
  split at h
  · rename_i a n
    obtain ⟨ha, h1, h2, hq⟩ := h
    obtain ⟨K, hK, hK2⟩ : ∃ K : Nat → mm_K, (∀ t ls st M d u, K t ls st M d u → rr_J_copyOf Q t ls st M d u) ∧ (∀ t ls st M d u, rr_J_copyOf Q t ls st M d u → K t ls st M d u) := ⟨rr_J_copyOf Q, fun _ _ _ _ _ _ h => h, fun _ _ _ _ _ _ h => h⟩
    have k17 : ∀ o, 100 ≤ o → o ∉ d → K 17 [some (mm_R a), some (mm_I n), none] [mm_R o] (mm_nob M o 3 n) (d ++ [o]) (1 + n.toNat / 12) := by
      intro o ho hd
      have hq := hq o
      obtain ⟨b1, b2⟩ := isN (k' := 3) (n := n) ha ho hd
      obtain ⟨b3, b4⟩ := isNo (M := M) (d := d) (k := 3) (n := n) ho (by omega)
      obtain ⟨M1, e1⟩ : ∃ M1, mm_nob M o 3 n = M1 := ⟨_, rfl⟩
      rw [e1] at b1 b2 b3 b4 hq ⊢
      refine hK2 _ _ _ _ _ _ ?_
      refine mm_run_at (stop := []) (S := K) kkJ_copyOf 90 ?_ (fun _ _ _ _ _ _ _ h => hK _ _ _ _ _ _ h)
      repeat' (first | with_reducible assumption | ((with_reducible show mm_rv _ _ _ _ _); first | exact True.intro | exact b1.c) | exact b1.c | ((with_reducible show mm_bool _ _); first | exact True.intro | exact Or.inl rfl | exact Or.inr rfl | (show (_ : Int) = 0 ∨ _ = 1)) | refine And.intro ?_ ?_ | intro _ | with_reducible exact True.intro | exact rfl | with_reducible exact Or.inl rfl | with_reducible exact Or.inr rfl | exact Nat.le_of_ble_eq_true rfl)
      all_goals (try simp (disch := omega) only [b2, b4, InI, Int.toNat_natCast, Int.tmod_eq_emod_of_nonneg, Int.tdiv_eq_ediv_of_nonneg, true_implies, true_or, or_true, mm_l18, mm_l19, mm_l20, mm_l21, mm_l22] at *)
      all_goals first | omega | exact hq _ ho hd | skip
    refine ⟨Nat.le_of_ble_eq_true rfl, ?_⟩
    refine mm_run_at (stop := [17]) (S := K) kkJ_copyOf 90 ?_ (fun _ _ _ _ _ _ _ h => hK _ _ _ _ _ _ h)
    repeat' (first | with_reducible assumption | ((with_reducible show mm_rv _ _ _ _ _); first | exact True.intro | exact ha.c) | exact ha.c | ((with_reducible show mm_bool _ _); first | exact True.intro | exact Or.inl rfl | exact Or.inr rfl | (show (_ : Int) = 0 ∨ _ = 1)) | refine And.intro ?_ ?_ | intro _ | with_reducible exact True.intro | exact rfl | with_reducible exact Or.inl rfl | with_reducible exact Or.inr rfl | exact Nat.le_of_ble_eq_true rfl)
    all_goals (try simp (disch := omega) only [InI, Int.toNat_natCast, Int.tmod_eq_emod_of_nonneg, Int.tdiv_eq_ediv_of_nonneg, true_implies, true_or, or_true, mm_l18, mm_l19, mm_l20, mm_l21, mm_l22] at *)
    all_goals first | omega | exact k17 _ (by assumption) (by assumption) | skip
  · exact h.elim
theorem je_copyOf {l : Launch} : mm_Jet l yJ_copyOf prog_22_method_121_code 3 (some (.array .byte)) 6 100 19 sp_J_copyOf := mm_mtJ (own := "java/util/Arrays") rn_J_copyOf ⟨by decide +kernel, rfl⟩ kkJ_copyOf rfl ⟨by decide, by decide⟩ flJ_copyOf_k (⟨mm_semMin (mm_t5 15 rfl rfl) (mm_t5 16 rfl rfl) (mm_t1 17 rfl rfl) (mm_t5 17 rfl rfl) (Nat.le_of_ble_eq_true rfl) (Nat.le_of_ble_eq_true rfl), trivial⟩) (by decide)
def kdJ_copyOfRangeByte : List mm_E := [(0, .iload_n 1, 0), (1, .iload_n 2, 0), (2, .invokestatic 343, 0), (5, .iload_n 2, 0), (6, .iload_n 1, 0), (7, .isub, 0), (8, .istore_n 3, 0), (9, .iload_n 3, 0), (10, .newarray .byte, 0), (12, .astore 4, 0), (14, .aload_n 0, 0), (15, .iload_n 1, 0), (16, .aload 4, 0), (18, .iconst 0, 0), (19, .aload_n 0, 0), (20, .arraylength, 0), (21, .iload_n 1, 0), (22, .isub, 0), (23, .iload_n 3, 0), (24, .invokestatic 304, 0), (27, .invokestatic 150, 0), (30, .aload 4, 0), (32, .areturn, 0)]
theorem kkJ_copyOfRangeByte : mm_chk prog_22_method_133_code kdJ_copyOfRangeByte = true := mm_fck 0 (by decide +kernel)
def yJ_copyOfRangeByte : MethodName := ⟨"java/util/Arrays", "copyOfRangeByte", "([BII)[B"⟩
theorem jw_copyOfRangeByte : mm_JW yJ_copyOfRangeByte prog_22_method_133_code 5 (some (.array .byte)) := ⟨(mm_t5 145 rfl rfl), (mm_t1 18 rfl rfl), ⟨by decide, by decide⟩⟩
def sp_J_copyOfRangeByte : mm_S := fun av M d Q => match av with
  | [.inr (.inr (.inl a)), .inl z, .inl n] =>  z = 0 ∧ mm_is M d a 3 ∧ (0 ≤ n ∧ n ≤ (mm_ln M a : Int)) ∧ mm_ln M a ≤ 220 ∧ ∀ o h9, 100 ≤ o → o ∉ d → Q (.inl (some (mm_R o))) (mm_any (mm_nob M o 3 n) o h9) (d ++ [o])
  | _ => False
def ct_J_copyOfRangeByte : List (Nat × mm_Ca) := [(343, (1, 2, 0, sp_J_checkLength, 0)), (304, (1, 2, 0, sp_J_min, 0))]
def flJ_copyOfRangeByte : List (Nat × Nat × Nat) := [(150, 0, 95)]
theorem flJ_copyOfRangeByte_k : ∀ q ∈ flJ_copyOfRangeByte, mm_lj "java/util/Arrays" mm_U q.2.1 q.2.2 q.1 := by
  intro q hq
  simp only [flJ_copyOfRangeByte, List.mem_cons, List.not_mem_nil, or_false] at hq
  subst hq
  · exact Or.inr ⟨by decide, (List.forall_mem_cons.mpr ⟨mm_T_U _ (mm_t5 18 rfl rfl), (List.forall_mem_cons.mpr ⟨mm_T_U _ (mm_t5 20 rfl rfl), (List.forall_mem_cons.mpr ⟨mm_T_U _ (mm_t5 19 rfl rfl), (List.forall_mem_cons.mpr ⟨mm_T_U _ (mm_t1 19 rfl rfl), (fun _ h => nomatch h)⟩)⟩)⟩)⟩), (fun h => absurd h (by decide)), (fun h => absurd h (by decide))⟩
abbrev rr_J_copyOfRangeByte (Q : mm_Q) := mm_run (mm_look flJ_copyOfRangeByte) (mm_look ct_J_copyOfRangeByte) mm_x0 (mm_look ([] : List (Nat × Int))) (fun _ => none) 24 19 (fun _ _ => none) Q kdJ_copyOfRangeByte
set_option maxRecDepth 20000 in
theorem rn_J_copyOfRangeByte : mm_RN flJ_copyOfRangeByte ct_J_copyOfRangeByte mm_x0 [] 24 19 5 kdJ_copyOfRangeByte sp_J_copyOfRangeByte := by
  intro av M d Q h
  unfold sp_J_copyOfRangeByte at h
  split at h
  · rename_i a z n
    obtain ⟨rfl, ha, h1, h2, hq⟩ := h
    obtain ⟨K, hK, hK2⟩ : ∃ K : Nat → mm_K, (∀ t ls st M d u, K t ls st M d u → rr_J_copyOfRangeByte Q t ls st M d u) ∧ (∀ t ls st M d u, rr_J_copyOfRangeByte Q t ls st M d u → K t ls st M d u) := ⟨rr_J_copyOfRangeByte Q, fun _ _ _ _ _ _ h => h, fun _ _ _ _ _ _ h => h⟩
    have k12 : ∀ o (m : Int), m = n → 100 ≤ o → o ∉ d → K 12 [some (mm_R a), some (mm_I 0), some (mm_I n), some (mm_I m), none] [mm_R o] (mm_nob M o 3 m) (d ++ [o]) (1 + m.toNat / 12) := by
      intro o m hm ho hd
      subst hm
      have hq := hq o
      obtain ⟨b1, b2⟩ := isN (k' := 3) (n := m) ha ho hd
      obtain ⟨b3, b4⟩ := isNo (M := M) (d := d) (k := 3) (n := m) ho (by omega)
      obtain ⟨M1, e1⟩ : ∃ M1, mm_nob M o 3 m = M1 := ⟨_, rfl⟩
      rw [e1] at b1 b2 b3 b4 hq ⊢
      refine hK2 _ _ _ _ _ _ ?_
      refine mm_run_at (stop := []) (S := K) kkJ_copyOfRangeByte 90 ?_ (fun _ _ _ _ _ _ _ h => hK _ _ _ _ _ _ h)
      repeat' (first | with_reducible assumption | ((with_reducible show mm_rv _ _ _ _ _); first | exact True.intro | exact b1.c) | exact b1.c | ((with_reducible show mm_bool _ _); first | exact True.intro | exact Or.inl rfl | exact Or.inr rfl | (show (_ : Int) = 0 ∨ _ = 1)) | refine And.intro ?_ ?_ | intro _ | with_reducible exact True.intro | exact rfl | with_reducible exact Or.inl rfl | with_reducible exact Or.inr rfl | exact Nat.le_of_ble_eq_true rfl)
      all_goals (try simp (disch := omega) only [b2, b4, InI, Int.toNat_natCast, Int.tmod_eq_emod_of_nonneg, Int.tdiv_eq_ediv_of_nonneg, true_implies, true_or, or_true, mm_l18, mm_l19, mm_l20, mm_l21, mm_l22] at *)
      all_goals first | omega | exact hq _ ho hd | skip
    refine ⟨Nat.le_of_ble_eq_true rfl, ?_⟩
    refine mm_run_at (stop := [12]) (S := K) kkJ_copyOfRangeByte 90 ?_ (fun _ _ _ _ _ _ _ h => hK _ _ _ _ _ _ h)
    repeat' (first | with_reducible assumption | ((with_reducible show mm_rv _ _ _ _ _); first | exact True.intro | exact ha.c) | exact ha.c | ((with_reducible show mm_bool _ _); first | exact True.intro | exact Or.inl rfl | exact Or.inr rfl | (show (_ : Int) = 0 ∨ _ = 1)) | refine And.intro ?_ ?_ | intro _ | with_reducible exact True.intro | exact rfl | with_reducible exact Or.inl rfl | with_reducible exact Or.inr rfl | exact Nat.le_of_ble_eq_true rfl)
    all_goals (try simp (disch := omega) only [InI, Int.toNat_natCast, Int.tmod_eq_emod_of_nonneg, Int.tdiv_eq_ediv_of_nonneg, true_implies, true_or, or_true, mm_l18, mm_l19, mm_l20, mm_l21, mm_l22] at *)
    all_goals first | omega | exact k12 _ _ (by omega) (by assumption) (by assumption) | skip
  · exact h.elim
theorem je_copyOfRangeByte {l : Launch} : mm_Jet l yJ_copyOfRangeByte prog_22_method_133_code 5 (some (.array .byte)) 7 121 19 sp_J_copyOfRangeByte := mm_mtJ (own := "java/util/Arrays") rn_J_copyOfRangeByte ⟨by decide +kernel, rfl⟩ kkJ_copyOfRangeByte rfl ⟨by decide, by decide⟩ flJ_copyOfRangeByte_k (⟨mm_semS (je_checkLength (l := l)) jw_checkLength (mm_t5 146 rfl rfl) (mm_t5 147 rfl rfl) (by decide +kernel) (Nat.le_of_ble_eq_true rfl) (Nat.le_of_ble_eq_true rfl), mm_semMin (mm_t5 15 rfl rfl) (mm_t5 16 rfl rfl) (mm_t1 17 rfl rfl) (mm_t5 17 rfl rfl) (Nat.le_of_ble_eq_true rfl) (Nat.le_of_ble_eq_true rfl), trivial⟩) (by decide)
def kdJ_copyOfRange : List mm_E := [(0, .iload_n 1, 0), (1, .ifCond .ne 9, 10), (4, .iload_n 2, 0), (5, .aload_n 0, 0), (6, .arraylength, 0), (7, .if_icmp .eq 10, 17), (10, .aload_n 0, 0), (11, .iload_n 1, 0), (12, .iload_n 2, 0), (13, .invokestatic 339, 0), (16, .areturn, 0), (17, .aload_n 0, 0), (18, .invokevirtual 310, 0), (21, .checkcast 311, 0), (24, .areturn, 0)]
theorem kkJ_copyOfRange : mm_chk prog_22_method_132_code kdJ_copyOfRange = true := mm_fck 0 (by decide +kernel)
def yJ_copyOfRange : MethodName := ⟨"java/util/Arrays", "copyOfRange", "([BII)[B"⟩
theorem jw_copyOfRange : mm_JW yJ_copyOfRange prog_22_method_132_code 3 (some (.array .byte)) := ⟨(mm_t5 142 rfl rfl), (mm_t1 18 rfl rfl), ⟨by decide, by decide⟩⟩
def sp_J_copyOfRange : mm_S := fun av M d Q => match av with
  | [.inr (.inr (.inl a)), .inl z, .inl n] =>  z = 0 ∧ mm_is M d a 3 ∧ (0 ≤ n ∧ n ≤ (mm_ln M a : Int)) ∧ mm_ln M a ≤ 220 ∧ ∀ o h9, 100 ≤ o → o ∉ d → Q (.inl (some (mm_R o))) (mm_any (mm_nob M o 3 n) o h9) (d ++ [o])
  | _ => False
def ct_J_copyOfRange : List (Nat × mm_Ca) := [(339, (1, 3, 0, sp_J_copyOfRangeByte, 19))]
def flJ_copyOfRange : List (Nat × Nat × Nat) := [(310, 0, 94), (311, 0, 93)]
theorem flJ_copyOfRange_k : ∀ q ∈ flJ_copyOfRange, mm_lj "java/util/Arrays" mm_U q.2.1 q.2.2 q.1 := by
  intro q hq
  simp only [flJ_copyOfRange, List.mem_cons, List.not_mem_nil, or_false] at hq
  rcases hq with rfl | rfl
  · exact Or.inr ⟨by decide, (List.forall_mem_cons.mpr ⟨mm_T_U _ (mm_t5 8 rfl rfl), (List.forall_mem_cons.mpr ⟨mm_T_U _ (mm_t5 9 rfl rfl), (List.forall_mem_cons.mpr ⟨mm_T_U _ (mm_t5 10 rfl rfl), (List.forall_mem_cons.mpr ⟨mm_T_U _ (mm_t5 11 rfl rfl), (List.forall_mem_cons.mpr ⟨mm_T_U _ (mm_t5 12 rfl rfl), (fun _ h => nomatch h)⟩)⟩)⟩)⟩)⟩), (fun h => absurd h (by decide)), (fun h => absurd h (by decide))⟩
  · exact Or.inr ⟨by decide, (List.forall_mem_cons.mpr ⟨mm_T_U _ (mm_t5 14 rfl rfl), (fun _ h => nomatch h)⟩), (fun h => absurd h (by decide)), (fun h => absurd h (by decide))⟩
abbrev rr_J_copyOfRange (Q : mm_Q) := mm_run (mm_look flJ_copyOfRange) (mm_look ct_J_copyOfRange) mm_x0 (mm_look ([] : List (Nat × Int))) (fun _ => none) 24 19 (fun _ _ => none) Q kdJ_copyOfRange
set_option maxRecDepth 20000 in
theorem rn_J_copyOfRange : mm_RN flJ_copyOfRange ct_J_copyOfRange mm_x0 [] 24 19 3 kdJ_copyOfRange sp_J_copyOfRange := by
  intro av M d Q h
  unfold sp_J_copyOfRange at h
  split at h
  · rename_i a z n
    obtain ⟨rfl, ha, h1, h2, hq⟩ := h
    obtain ⟨K, hK, hK2⟩ : ∃ K : Nat → mm_K, (∀ t ls st M d u, K t ls st M d u → rr_J_copyOfRange Q t ls st M d u) ∧ (∀ t ls st M d u, rr_J_copyOfRange Q t ls st M d u → K t ls st M d u) := ⟨rr_J_copyOfRange Q, fun _ _ _ _ _ _ h => h, fun _ _ _ _ _ _ h => h⟩
    have k21 : ∀ o (h9 : Nat → Int), n = (mm_ln M a : Int) → 100 ≤ o → o ∉ d → K 21 [some (mm_R a), some (mm_I 0), some (mm_I n)] [mm_R o] (mm_any (mm_nob M o 3 (mm_ln M a : Int)) o h9) (d ++ [o]) (1 + mm_ln M a / 12) := by
      intro o h9 hn ho hd
      obtain ⟨b3, b4⟩ := isNo (M := M) (d := d) (k := 3) (n := n) ho (by omega)
      rw [← hn]
      refine hK2 _ _ _ _ _ _ ?_
      refine mm_run_at (stop := []) (S := K) kkJ_copyOfRange 90 ?_ (fun _ _ _ _ _ _ _ h => hK _ _ _ _ _ _ h)
      repeat' (first | with_reducible assumption | ((with_reducible show mm_rv _ _ _ _ _); first | exact True.intro | exact isY b3 (by omega)) | exact isY b3 (by omega) | ((with_reducible show mm_bool _ _); first | exact True.intro | exact Or.inl rfl | exact Or.inr rfl | (show (_ : Int) = 0 ∨ _ = 1)) | refine And.intro ?_ ?_ | intro _ | with_reducible exact True.intro | exact rfl | with_reducible exact Or.inl rfl | with_reducible exact Or.inr rfl | exact Nat.le_of_ble_eq_true rfl)
      all_goals (try simp (disch := omega) only [InI, Int.toNat_natCast, Int.tmod_eq_emod_of_nonneg, Int.tdiv_eq_ediv_of_nonneg, true_implies, true_or, or_true, mm_l18, mm_l19, mm_l20, mm_l21, mm_l22] at *)
      all_goals first | omega | exact hq _ _ ho hd | skip
    refine ⟨Nat.le_of_ble_eq_true rfl, ?_⟩
    refine mm_run_at (stop := [21]) (S := K) kkJ_copyOfRange 90 ?_ (fun _ _ _ _ _ _ _ h => hK _ _ _ _ _ _ h)
    repeat' (first | with_reducible assumption | ((with_reducible show mm_rv _ _ _ _ _); first | exact True.intro | exact ha.c) | exact ha.c | ((with_reducible show mm_bool _ _); first | exact True.intro | exact Or.inl rfl | exact Or.inr rfl | (show (_ : Int) = 0 ∨ _ = 1)) | refine And.intro ?_ ?_ | intro _ | with_reducible exact True.intro | exact rfl | with_reducible exact Or.inl rfl | with_reducible exact Or.inr rfl | exact Nat.le_of_ble_eq_true rfl)
    all_goals (try simp (disch := omega) only [InI, Int.toNat_natCast, Int.tmod_eq_emod_of_nonneg, Int.tdiv_eq_ediv_of_nonneg, true_implies, true_or, or_true, mm_l18, mm_l19, mm_l20, mm_l21, mm_l22] at *)
    all_goals first | omega | exact k21 _ _ (by omega) (by assumption) (by assumption) | exact hq _ _ (by assumption) (by assumption) | skip
  · exact h.elim
theorem je_copyOfRange {l : Launch} : mm_Jet l yJ_copyOfRange prog_22_method_132_code 3 (some (.array .byte)) 8 145 19 sp_J_copyOfRange := mm_mtJ (own := "java/util/Arrays") rn_J_copyOfRange ⟨by decide +kernel, rfl⟩ kkJ_copyOfRange rfl ⟨by decide, by decide⟩ flJ_copyOfRange_k (⟨mm_semS (je_copyOfRangeByte (l := l)) jw_copyOfRangeByte (mm_t5 143 rfl rfl) (mm_t5 144 rfl rfl) (by decide +kernel) (Nat.le_of_ble_eq_true rfl) (Nat.le_of_ble_eq_true rfl), trivial⟩) (by decide)
def kdJ_isLatin1 : List mm_E := [(0, .getstatic 18, 0), (3, .ifCond .eq 14, 17), (6, .aload_n 0, 0), (7, .getfield 22, 0), (10, .ifCond .ne 7, 17), (13, .iconst 1, 0), (14, .goto 4, 18), (17, .iconst 0, 0), (18, .ireturn, 0)]
theorem kkJ_isLatin1 : mm_chk prog_8_method_68_code kdJ_isLatin1 = true := mm_fck 0 (by decide +kernel)
def yJ_isLatin1 : MethodName := ⟨"java/lang/AbstractStringBuilder", "isLatin1", "()Z"⟩
theorem jw_isLatin1 : mm_JW yJ_isLatin1 prog_8_method_68_code 1 (some .boolean) := ⟨(mm_t5 25 rfl rfl), (mm_t1 12 rfl rfl), ⟨by decide, by decide⟩⟩
def sp_J_isLatin1 : mm_S := fun av M d Q => match av with
  | [.inr (.inr (.inl b))] =>  mm_is M d b 16 ∧ M b 1 = 0 ∧ Q (.inl (some (mm_I 1))) M d
  | _ => False
def ct_J_isLatin1 : List (Nat × mm_Ca) := []
def flJ_isLatin1 : List (Nat × Nat × Nat) := [(22, 16, 1), (18, 0, 98)]
theorem flJ_isLatin1_k : ∀ q ∈ flJ_isLatin1, mm_lj "java/lang/AbstractStringBuilder" mm_U q.2.1 q.2.2 q.1 := by
  intro q hq
  simp only [flJ_isLatin1, List.mem_cons, List.not_mem_nil, or_false] at hq
  rcases hq with rfl | rfl
  · exact Or.inl ⟨by decide, Or.inl (mm_T_U _ (mm_t4 207 rfl rfl))⟩
  · exact Or.inr ⟨by decide, (List.forall_mem_cons.mpr ⟨mm_T_U _ (mm_t4 197 rfl rfl), (fun _ h => nomatch h)⟩), (fun h => absurd h (by decide)), (fun h => absurd h (by decide))⟩
abbrev rr_J_isLatin1 (Q : mm_Q) := mm_run (mm_look flJ_isLatin1) (mm_look ct_J_isLatin1) mm_x0 (mm_look ([] : List (Nat × Int))) (fun _ => none) 2 0 (fun _ _ => none) Q kdJ_isLatin1
set_option maxRecDepth 20000 in
theorem rn_J_isLatin1 : mm_RN flJ_isLatin1 ct_J_isLatin1 mm_x0 [] 2 0 1 kdJ_isLatin1 sp_J_isLatin1 := by
  intro av M d Q h
  unfold sp_J_isLatin1 at h
  split at h
  · rename_i b
    obtain ⟨hb, h1, hq⟩ := h
    obtain ⟨K, hK, hK2⟩ : ∃ K : Nat → mm_K, (∀ t ls st M d u, K t ls st M d u → rr_J_isLatin1 Q t ls st M d u) ∧ (∀ t ls st M d u, rr_J_isLatin1 Q t ls st M d u → K t ls st M d u) := ⟨rr_J_isLatin1 Q, fun _ _ _ _ _ _ h => h, fun _ _ _ _ _ _ h => h⟩
    refine ⟨Nat.le_of_ble_eq_true rfl, mm_run_at (stop := []) (S := K) kkJ_isLatin1 90 ?_ (fun _ _ _ _ _ _ _ h => hK _ _ _ _ _ _ h)⟩
    repeat' (first | with_reducible assumption | ((with_reducible show mm_rv _ _ _ _ _); first | exact True.intro) | ((with_reducible show mm_bool _ _); first | exact True.intro | exact Or.inl rfl | exact Or.inr rfl | (show (_ : Int) = 0 ∨ _ = 1)) | refine And.intro ?_ ?_ | intro _ | with_reducible exact True.intro | exact rfl | with_reducible exact Or.inl rfl | with_reducible exact Or.inr rfl | exact Nat.le_of_ble_eq_true rfl)
    all_goals (try simp (disch := omega) only [h1, InI, Int.toNat_natCast, Int.tmod_eq_emod_of_nonneg, Int.tdiv_eq_ediv_of_nonneg, true_implies, true_or, or_true, mm_l18, mm_l19, mm_l20, mm_l21, mm_l22] at *)
    all_goals first | omega | skip
  · exact h.elim
theorem je_isLatin1 {l : Launch} : mm_Jet l yJ_isLatin1 prog_8_method_68_code 1 (some .boolean) 6 100 0 sp_J_isLatin1 := mm_mtJ (own := "java/lang/AbstractStringBuilder") rn_J_isLatin1 ⟨by decide +kernel, rfl⟩ kkJ_isLatin1 rfl ⟨by decide, by decide⟩ flJ_isLatin1_k (trivial) (by decide)
def kdJ_getValue : List mm_E := [(0, .aload_n 0, 0), (1, .getfield 15, 0), (4, .areturn, 0)]
theorem kkJ_getValue : mm_chk prog_8_method_64_code kdJ_getValue = true := mm_fck 0 (by decide +kernel)
def yJ_getValue : MethodName := ⟨"java/lang/AbstractStringBuilder", "getValue", "()[B"⟩
theorem jw_getValue : mm_JW yJ_getValue prog_8_method_64_code 1 (some (.array .byte)) := ⟨(mm_t5 130 rfl rfl), (mm_t1 12 rfl rfl), ⟨by decide, by decide⟩⟩
def sp_J_getValue : mm_S := fun av M d Q => match av with
  | [.inr (.inr (.inl b))] =>  mm_is M d b 16 ∧ Q (.inl (some (mm_R (M b 0).toNat))) M d
  | _ => False
def ct_J_getValue : List (Nat × mm_Ca) := []
def flJ_getValue : List (Nat × Nat × Nat) := [(15, 16, 0)]
theorem flJ_getValue_k : ∀ q ∈ flJ_getValue, mm_lj "java/lang/AbstractStringBuilder" mm_U q.2.1 q.2.2 q.1 := by
  intro q hq
  simp only [flJ_getValue, List.mem_cons, List.not_mem_nil, or_false] at hq
  subst hq
  · exact Or.inl ⟨by decide, Or.inl (mm_T_U _ (mm_t4 206 rfl rfl))⟩
abbrev rr_J_getValue (Q : mm_Q) := mm_run (mm_look flJ_getValue) (mm_look ct_J_getValue) mm_x0 (mm_look ([] : List (Nat × Int))) (fun _ => none) 24 0 (fun _ _ => none) Q kdJ_getValue
set_option maxRecDepth 20000 in
theorem rn_J_getValue : mm_RN flJ_getValue ct_J_getValue mm_x0 [] 24 0 1 kdJ_getValue sp_J_getValue := by
  intro av M d Q h
  unfold sp_J_getValue at h
  split at h
  · rename_i b
    obtain ⟨hb, hq⟩ := h
    obtain ⟨K, hK, hK2⟩ : ∃ K : Nat → mm_K, (∀ t ls st M d u, K t ls st M d u → rr_J_getValue Q t ls st M d u) ∧ (∀ t ls st M d u, rr_J_getValue Q t ls st M d u → K t ls st M d u) := ⟨rr_J_getValue Q, fun _ _ _ _ _ _ h => h, fun _ _ _ _ _ _ h => h⟩
    refine ⟨Nat.le_of_ble_eq_true rfl, mm_run_at (stop := []) (S := K) kkJ_getValue 90 ?_ (fun _ _ _ _ _ _ _ h => hK _ _ _ _ _ _ h)⟩
    repeat' (first | with_reducible assumption | ((with_reducible show mm_rv _ _ _ _ _); first | exact True.intro) | ((with_reducible show mm_bool _ _); first | exact True.intro | exact Or.inl rfl | exact Or.inr rfl | (show (_ : Int) = 0 ∨ _ = 1)) | refine And.intro ?_ ?_ | intro _ | with_reducible exact True.intro | exact rfl | with_reducible exact Or.inl rfl | with_reducible exact Or.inr rfl | exact Nat.le_of_ble_eq_true rfl)
    all_goals (try simp (disch := omega) only [InI, Int.toNat_natCast, Int.tmod_eq_emod_of_nonneg, Int.tdiv_eq_ediv_of_nonneg, true_implies, true_or, or_true, mm_l18, mm_l19, mm_l20, mm_l21, mm_l22] at *)
    all_goals first | omega | skip
  · exact h.elim
theorem je_getValue {l : Launch} : mm_Jet l yJ_getValue prog_8_method_64_code 1 (some (.array .byte)) 6 100 0 sp_J_getValue := mm_mtJ (own := "java/lang/AbstractStringBuilder") rn_J_getValue ⟨by decide +kernel, rfl⟩ kkJ_getValue rfl ⟨by decide, by decide⟩ flJ_getValue_k (trivial) (by decide)
def kdJ_alength : List mm_E := [(0, .aload_n 0, 0), (1, .getfield 79, 0), (4, .ireturn, 0)]
theorem kkJ_alength : mm_chk prog_8_method_6_code kdJ_alength = true := mm_fck 0 (by decide +kernel)
def yJ_alength : MethodName := ⟨"java/lang/AbstractStringBuilder", "length", "()I"⟩
theorem jw_alength : mm_JW yJ_alength prog_8_method_6_code 1 (some .int) := ⟨(mm_t5 138 rfl rfl), (mm_t1 12 rfl rfl), ⟨by decide, by decide⟩⟩
def sp_J_alength : mm_S := fun av M d Q => match av with
  | [.inr (.inr (.inl b))] =>  mm_is M d b 16 ∧ Q (.inl (some (mm_I (M b 3)))) M d
  | _ => False
def ct_J_alength : List (Nat × mm_Ca) := []
def flJ_alength : List (Nat × Nat × Nat) := [(79, 16, 3)]
theorem flJ_alength_k : ∀ q ∈ flJ_alength, mm_lj "java/lang/AbstractStringBuilder" mm_U q.2.1 q.2.2 q.1 := by
  intro q hq
  simp only [flJ_alength, List.mem_cons, List.not_mem_nil, or_false] at hq
  subst hq
  · exact Or.inl ⟨by decide, Or.inl (mm_T_U _ (mm_t4 209 rfl rfl))⟩
abbrev rr_J_alength (Q : mm_Q) := mm_run (mm_look flJ_alength) (mm_look ct_J_alength) mm_x0 (mm_look ([] : List (Nat × Int))) (fun _ => none) 1 0 (fun _ _ => none) Q kdJ_alength
set_option maxRecDepth 20000 in
theorem rn_J_alength : mm_RN flJ_alength ct_J_alength mm_x0 [] 1 0 1 kdJ_alength sp_J_alength := by
  intro av M d Q h
  unfold sp_J_alength at h
  split at h
  · rename_i b
    obtain ⟨hb, hq⟩ := h
    obtain ⟨K, hK, hK2⟩ : ∃ K : Nat → mm_K, (∀ t ls st M d u, K t ls st M d u → rr_J_alength Q t ls st M d u) ∧ (∀ t ls st M d u, rr_J_alength Q t ls st M d u → K t ls st M d u) := ⟨rr_J_alength Q, fun _ _ _ _ _ _ h => h, fun _ _ _ _ _ _ h => h⟩
    refine ⟨Nat.le_of_ble_eq_true rfl, mm_run_at (stop := []) (S := K) kkJ_alength 90 ?_ (fun _ _ _ _ _ _ _ h => hK _ _ _ _ _ _ h)⟩
    repeat' (first | with_reducible assumption | ((with_reducible show mm_rv _ _ _ _ _); first | exact True.intro) | ((with_reducible show mm_bool _ _); first | exact True.intro | exact Or.inl rfl | exact Or.inr rfl | (show (_ : Int) = 0 ∨ _ = 1)) | refine And.intro ?_ ?_ | intro _ | with_reducible exact True.intro | exact rfl | with_reducible exact Or.inl rfl | with_reducible exact Or.inr rfl | exact Nat.le_of_ble_eq_true rfl)
    all_goals (try simp (disch := omega) only [InI, Int.toNat_natCast, Int.tmod_eq_emod_of_nonneg, Int.tdiv_eq_ediv_of_nonneg, true_implies, true_or, or_true, mm_l18, mm_l19, mm_l20, mm_l21, mm_l22] at *)
    all_goals first | omega | skip
  · exact h.elim
theorem je_alength {l : Launch} : mm_Jet l yJ_alength prog_8_method_6_code 1 (some .int) 6 100 0 sp_J_alength := mm_mtJ (own := "java/lang/AbstractStringBuilder") rn_J_alength ⟨by decide +kernel, rfl⟩ kkJ_alength rfl ⟨by decide, by decide⟩ flJ_alength_k (trivial) (by decide)
def kdJ_blength : List mm_E := [(0, .aload_n 0, 0), (1, .invokespecial 343, 0), (4, .ireturn, 0)]
theorem kkJ_blength : mm_chk prog_17_method_93_code kdJ_blength = true := mm_fck 0 (by decide +kernel)
def yJ_blength : MethodName := ⟨"java/lang/StringBuilder", "length", "()I"⟩
theorem jw_blength : mm_JW yJ_blength prog_17_method_93_code 1 (some .int) := ⟨(mm_t5 136 rfl rfl), (mm_t1 13 rfl rfl), ⟨by decide, by decide⟩⟩
def sp_J_blength : mm_S := fun av M d Q => match av with
  | [.inr (.inr (.inl b))] =>  mm_is M d b 16 ∧ Q (.inl (some (mm_I (M b 3)))) M d
  | _ => False
def ct_J_blength : List (Nat × mm_Ca) := [(343, (2, 1, 16, sp_J_alength, 0))]
def flJ_blength : List (Nat × Nat × Nat) := []
theorem flJ_blength_k : ∀ q ∈ flJ_blength, mm_lj "java/lang/StringBuilder" mm_U q.2.1 q.2.2 q.1 := fun _ h => nomatch h
abbrev rr_J_blength (Q : mm_Q) := mm_run (mm_look flJ_blength) (mm_look ct_J_blength) mm_x0 (mm_look ([] : List (Nat × Int))) (fun _ => none) 1 0 (fun _ _ => none) Q kdJ_blength
set_option maxRecDepth 20000 in
theorem rn_J_blength : mm_RN flJ_blength ct_J_blength mm_x0 [] 1 0 1 kdJ_blength sp_J_blength := by
  intro av M d Q h
  unfold sp_J_blength at h
  split at h
  · rename_i b
    obtain ⟨hb, hq⟩ := h
    obtain ⟨K, hK, hK2⟩ : ∃ K : Nat → mm_K, (∀ t ls st M d u, K t ls st M d u → rr_J_blength Q t ls st M d u) ∧ (∀ t ls st M d u, rr_J_blength Q t ls st M d u → K t ls st M d u) := ⟨rr_J_blength Q, fun _ _ _ _ _ _ h => h, fun _ _ _ _ _ _ h => h⟩
    refine ⟨Nat.le_of_ble_eq_true rfl, mm_run_at (stop := []) (S := K) kkJ_blength 90 ?_ (fun _ _ _ _ _ _ _ h => hK _ _ _ _ _ _ h)⟩
    repeat' (first | with_reducible assumption | ((with_reducible show mm_rv _ _ _ _ _); first | exact True.intro | exact hb) | exact hb | ((with_reducible show mm_bool _ _); first | exact True.intro | exact Or.inl rfl | exact Or.inr rfl | (show (_ : Int) = 0 ∨ _ = 1)) | refine And.intro ?_ ?_ | intro _ | with_reducible exact True.intro | exact rfl | with_reducible exact Or.inl rfl | with_reducible exact Or.inr rfl | exact Nat.le_of_ble_eq_true rfl)
    all_goals (try simp (disch := omega) only [InI, Int.toNat_natCast, Int.tmod_eq_emod_of_nonneg, Int.tdiv_eq_ediv_of_nonneg, true_implies, true_or, or_true, mm_l18, mm_l19, mm_l20, mm_l21, mm_l22] at *)
    all_goals first | omega | skip
  · exact h.elim
theorem je_blength {l : Launch} : mm_Jet l yJ_blength prog_17_method_93_code 1 (some .int) 7 120 0 sp_J_blength := mm_mtJ (own := "java/lang/StringBuilder") rn_J_blength ⟨by decide +kernel, rfl⟩ kkJ_blength rfl ⟨by decide, by decide⟩ flJ_blength_k (⟨mm_semV (C := RXB) (T := TXB) (N := 4) (x := ⟨"java/lang/AbstractStringBuilder", "length", "()I"⟩) (je_alength (l := l)) jw_alength (mm_t5 137 rfl rfl) (mm_t5 132 rfl rfl) (Or.inr ⟨by decide, rfl⟩) (by decide +kernel) (Nat.le_of_ble_eq_true rfl) (Nat.le_of_ble_eq_true rfl) (Or.inr (Or.inr (Or.inr ⟨rfl, rfl, by decide, (mm_t5 133 rfl rfl), (mm_t4 218 rfl rfl), 4, (mm_t4 189 rfl rfl)⟩))), trivial⟩) (by decide)
def kdJ_newCapacity : List mm_E := [(0, .aload_n 0, 0), (1, .getfield 15, 0), (4, .arraylength, 0), (5, .istore_n 2, 0), (6, .iload_n 1, 0), (7, .aload_n 0, 0), (8, .getfield 22, 0), (11, .ishl, 0), (12, .istore_n 3, 0), (13, .iload_n 3, 0), (14, .iload_n 2, 0), (15, .isub, 0), (16, .istore 4, 0), (18, .iload_n 2, 0), (19, .iload 4, 0), (21, .iload_n 2, 0), (22, .iconst 2, 0), (23, .aload_n 0, 0), (24, .getfield 22, 0), (27, .ishl, 0), (28, .iadd, 0), (29, .invokestatic 114, 0), (32, .istore 5, 0), (34, .iload 5, 0), (36, .ldc 39, 0), (38, .if_icmp .ne 13, 51), (41, .new 120, 0), (44, .dup, 0), (45, .ldc 122, 0), (47, .invokespecial 124, 0), (50, .athrow, 0), (51, .iload 5, 0), (53, .aload_n 0, 0), (54, .getfield 22, 0), (57, .ishr, 0), (58, .ireturn, 0)]
theorem kkJ_newCapacity : mm_chk prog_8_method_10_code kdJ_newCapacity = true := mm_fck 0 (by decide +kernel)
def yJ_newCapacity : MethodName := ⟨"java/lang/AbstractStringBuilder", "newCapacity", "(I)I"⟩
theorem jw_newCapacity : mm_JW yJ_newCapacity prog_8_method_10_code 6 (some .int) := ⟨(mm_t4 233 rfl rfl), (mm_t1 12 rfl rfl), ⟨by decide, by decide⟩⟩
def sp_J_newCapacity : mm_S := fun av M d Q => match av with
  | [.inr (.inr (.inl b)), .inl q] =>  mm_is M d b 16 ∧ M b 1 = 0 ∧ mm_is M d (M b 0).toNat 3 ∧ mm_ln M (M b 0).toNat ≤ 220 ∧ ((mm_ln M (M b 0).toNat : Int) < q ∧ q ≤ 103) ∧ ∀ r, q ≤ r ∧ r ≤ 206 → Q (.inl (some (mm_I r))) M d
  | _ => False
def ct_J_newCapacity : List (Nat × mm_Ca) := [(114, (1, 3, 0, sp_J_newLength, 0))]
def flJ_newCapacity : List (Nat × Nat × Nat) := [(15, 16, 0), (22, 16, 1), (39, 1, 96), (3, 0, 90)]
theorem flJ_newCapacity_k : ∀ q ∈ flJ_newCapacity, mm_lj "java/lang/AbstractStringBuilder" mm_U q.2.1 q.2.2 q.1 := by
  intro q hq
  simp only [flJ_newCapacity, List.mem_cons, List.not_mem_nil, or_false] at hq
  rcases hq with rfl | rfl | rfl | rfl
  · exact Or.inl ⟨by decide, Or.inl (mm_T_U _ (mm_t4 206 rfl rfl))⟩
  · exact Or.inl ⟨by decide, Or.inl (mm_T_U _ (mm_t4 207 rfl rfl))⟩
  · exact Or.inr ⟨by decide, (List.forall_mem_cons.mpr ⟨mm_T_U _ (mm_t5 4 rfl rfl), (fun _ h => nomatch h)⟩), (fun h => absurd h (by decide)), (fun h => absurd h (by decide))⟩
  · exact Or.inr ⟨by decide, (List.forall_mem_cons.mpr ⟨mm_T_U _ (mm_t4 196 rfl rfl), (List.forall_mem_cons.mpr ⟨mm_T_U _ (mm_t1 29 rfl rfl), (List.forall_mem_cons.mpr ⟨mm_T_U _ (mm_t1 30 rfl rfl), (fun _ h => nomatch h)⟩)⟩)⟩), (fun h => absurd h (by decide)), (fun h => absurd h (by decide))⟩
abbrev rr_J_newCapacity (Q : mm_Q) := mm_run (mm_look flJ_newCapacity) (mm_look ct_J_newCapacity) mm_x0 (mm_look ([] : List (Nat × Int))) (fun _ => none) 21 0 (fun _ _ => none) Q kdJ_newCapacity
set_option maxRecDepth 20000 in
theorem rn_J_newCapacity : mm_RN flJ_newCapacity ct_J_newCapacity mm_x0 [] 21 0 6 kdJ_newCapacity sp_J_newCapacity := by
  intro av M d Q h
  unfold sp_J_newCapacity at h
  split at h
  · rename_i b q
    obtain ⟨hb, h1, ha, h2, h3, hq⟩ := h
    obtain ⟨K, hK, hK2⟩ : ∃ K : Nat → mm_K, (∀ t ls st M d u, K t ls st M d u → rr_J_newCapacity Q t ls st M d u) ∧ (∀ t ls st M d u, rr_J_newCapacity Q t ls st M d u → K t ls st M d u) := ⟨rr_J_newCapacity Q, fun _ _ _ _ _ _ h => h, fun _ _ _ _ _ _ h => h⟩
    refine ⟨Nat.le_of_ble_eq_true rfl, mm_run_at (stop := []) (S := K) kkJ_newCapacity 90 ?_ (fun _ _ _ _ _ _ _ h => hK _ _ _ _ _ _ h)⟩
    repeat' (first | with_reducible assumption | ((with_reducible show mm_rv _ _ _ _ _); first | exact True.intro | exact ha.c) | exact ha.c | ((with_reducible show mm_bool _ _); first | exact True.intro | exact Or.inl rfl | exact Or.inr rfl | (show (_ : Int) = 0 ∨ _ = 1)) | refine And.intro ?_ ?_ | intro _ | with_reducible exact True.intro | exact rfl | with_reducible exact Or.inl rfl | with_reducible exact Or.inr rfl | exact Nat.le_of_ble_eq_true rfl)
    all_goals (try simp (disch := omega) only [h1, tp0, tm0, InI, Int.toNat_natCast, Int.tmod_eq_emod_of_nonneg, Int.tdiv_eq_ediv_of_nonneg, true_implies, true_or, or_true, mm_l18, mm_l19, mm_l20, mm_l21, mm_l22] at *)
    all_goals first | omega | exact hq _ ⟨by omega, by omega⟩ | skip
  · exact h.elim
theorem je_newCapacity {l : Launch} : mm_Jet l yJ_newCapacity prog_8_method_10_code 6 (some .int) 7 123 0 sp_J_newCapacity := mm_mtJ (own := "java/lang/AbstractStringBuilder") rn_J_newCapacity ⟨by decide +kernel, rfl⟩ kkJ_newCapacity rfl ⟨by decide, by decide⟩ flJ_newCapacity_k (⟨mm_semS (je_newLength (l := l)) jw_newLength (mm_t4 234 rfl rfl) (mm_t4 235 rfl rfl) (by decide +kernel) (Nat.le_of_ble_eq_true rfl) (Nat.le_of_ble_eq_true rfl), trivial⟩) (by decide)
def kdJ_ensure : List mm_E := [(0, .aload_n 0, 0), (1, .getfield 15, 0), (4, .arraylength, 0), (5, .aload_n 0, 0), (6, .getfield 22, 0), (9, .ishr, 0), (10, .istore_n 2, 0), (11, .iload_n 1, 0), (12, .iload_n 2, 0), (13, .isub, 0), (14, .ifCond .le 24, 38), (17, .aload_n 0, 0), (18, .aload_n 0, 0), (19, .getfield 15, 0), (22, .aload_n 0, 0), (23, .iload_n 1, 0), (24, .invokevirtual 104, 0), (27, .aload_n 0, 0), (28, .getfield 22, 0), (31, .ishl, 0), (32, .invokestatic 108, 0), (35, .putfield 15, 0), (38, .return_, 0)]
theorem kkJ_ensure : mm_chk prog_8_method_9_code kdJ_ensure = true := mm_fck 0 (by decide +kernel)
def yJ_ensure : MethodName := ⟨"java/lang/AbstractStringBuilder", "ensureCapacityInternal", "(I)V"⟩
theorem jw_ensure : mm_JW yJ_ensure prog_8_method_9_code 3 none := ⟨(mm_t4 229 rfl rfl), (mm_t1 12 rfl rfl), ⟨by decide, by decide⟩⟩
def sp_J_ensure : mm_S := fun av M d Q => match av with
  | [.inr (.inr (.inl b)), .inl q] =>  ∃ M0 d0 n, sC M0 d0 M d b n 0 ∧ (0 ≤ q ∧ q ≤ 103) ∧ ∀ M' d', sC M0 d0 M' d' b n q → Q (.inl none) M' d'
  | _ => False
def ct_J_ensure : List (Nat × mm_Ca) := [(104, (0, 2, 16, sp_J_newCapacity, 0)), (108, (1, 2, 0, sp_J_copyOf, 19))]
def flJ_ensure : List (Nat × Nat × Nat) := [(15, 16, 0), (22, 16, 1)]
theorem flJ_ensure_k : ∀ q ∈ flJ_ensure, mm_lj "java/lang/AbstractStringBuilder" mm_U q.2.1 q.2.2 q.1 := by
  intro q hq
  simp only [flJ_ensure, List.mem_cons, List.not_mem_nil, or_false] at hq
  rcases hq with rfl | rfl
  · exact Or.inl ⟨by decide, Or.inl (mm_T_U _ (mm_t4 206 rfl rfl))⟩
  · exact Or.inl ⟨by decide, Or.inl (mm_T_U _ (mm_t4 207 rfl rfl))⟩
abbrev rr_J_ensure (Q : mm_Q) := mm_run (mm_look flJ_ensure) (mm_look ct_J_ensure) mm_x0 (mm_look ([] : List (Nat × Int))) (fun _ => none) 20 19 (fun _ _ => none) Q kdJ_ensure
set_option maxRecDepth 20000 in
theorem rn_J_ensure : mm_RN flJ_ensure ct_J_ensure mm_x0 [] 20 19 3 kdJ_ensure sp_J_ensure := by
  intro av M d Q h
  unfold sp_J_ensure at h
  split at h
  · rename_i b q
    obtain ⟨M0, d0, n, hs, hq1, hq⟩ := h
    obtain ⟨h1, h2, h3, h4, h5, h7, h8, h9, h10⟩ := id hs
    have hb := h2.1
    have ha := h7.1
    obtain ⟨K, hK, hK2⟩ : ∃ K : Nat → mm_K, (∀ t ls st M d u, K t ls st M d u → rr_J_ensure Q t ls st M d u) ∧ (∀ t ls st M d u, rr_J_ensure Q t ls st M d u → K t ls st M d u) := ⟨rr_J_ensure Q, fun _ _ _ _ _ _ h => h, fun _ _ _ _ _ _ h => h⟩
    have k35 : ∀ o (h9 : Nat → Int) (r v : Int), q ≤ r → r ≤ 206 → (mm_ln M (M b 0).toNat : Int) < q → 100 ≤ o → o ∉ d → K 35 [some (mm_R b), some (mm_I q), some (mm_I v)] [mm_R o, mm_R b] (mm_any (mm_nob M o 3 r) o h9) (d ++ [o]) 19 := by
      intro o h9 r v hr1 hr2 hlt ho hd
      obtain ⟨b1, b2⟩ := isN (k' := 3) (n := r) hb ho hd
      have hbo : b ≠ o := fun z => mm_ids_new ho hd (z ▸ hb.2)
      have hb0 : b ≠ 0 := mm_is0 (rc := 15) hb
      have e9 : ∀ x, x ≠ o → mm_any (mm_nob M o 3 r) o h9 x = mm_nob M o 3 r x := mm_any_o
      have eb : mm_any (mm_nob M o 3 r) o h9 b = M b := by rw [e9 b hbo, mm_nob_o hbo hb0]
      have g1 := (h1.new (k := 3) (n := r) ho hd).same ⟨ho, fun z => hd (h1.1.elim (fun d1 e => by rw [e]; exact List.mem_append_left _ z))⟩ e9
      have g2 := (h2.new (k' := 3) (n := r) ho hd).same ho e9
      have g3 := (bO.mk' (k := 3) (n := r) h1 ho hd (by omega)).same ho e9
      have g4 : mm_ln (mm_any (mm_nob M o 3 r) o h9) o = r.toNat := by rw [lnY (by omega), (isNo (M := M) (d := d) (k := 3) (n := r) ho (by omega)).2]
      have fin := hq _ _ (sC.set (q := q) g1 g2 (by rw [eb]; exact h3) (by rw [eb]; exact h4) h5 g3 ⟨by rw [g4]; omega, by rw [g4]; omega, by rw [g4]; omega⟩)
      have g5 := g2.1
      obtain ⟨M1, e1⟩ : ∃ M1, mm_any (mm_nob M o 3 r) o h9 = M1 := ⟨_, rfl⟩
      rw [e1] at g5 fin ⊢
      refine hK2 _ _ _ _ _ _ ?_
      refine mm_run_at (stop := []) (S := K) kkJ_ensure 90 ?_ (fun _ _ _ _ _ _ _ h => hK _ _ _ _ _ _ h)
      repeat' (first | with_reducible assumption | ((with_reducible show mm_rv _ _ _ _ _); first | exact True.intro) | ((with_reducible show mm_bool _ _); first | exact True.intro | exact Or.inl rfl | exact Or.inr rfl | (show (_ : Int) = 0 ∨ _ = 1)) | refine And.intro ?_ ?_ | intro _ | with_reducible exact True.intro | exact rfl | with_reducible exact Or.inl rfl | with_reducible exact Or.inr rfl | exact Nat.le_of_ble_eq_true rfl)
      all_goals (try simp (disch := omega) only [InI, Int.toNat_natCast, Int.tmod_eq_emod_of_nonneg, Int.tdiv_eq_ediv_of_nonneg, true_implies, true_or, or_true, mm_l18, mm_l19, mm_l20, mm_l21, mm_l22] at *)
      all_goals first | omega | skip
    have sret : q - (mm_ln M (M b 0).toNat : Int) ≤ 0 → Q (.inl none) M d := fun z => hq _ _ ⟨h1, h2, h3, h4, h5, h7, h8, by omega, h10⟩
    refine ⟨Nat.le_of_ble_eq_true rfl, ?_⟩
    refine mm_run_at (stop := [35]) (S := K) kkJ_ensure 90 ?_ (fun _ _ _ _ _ _ _ h => hK _ _ _ _ _ _ h)
    repeat' (first | with_reducible assumption | ((with_reducible show mm_rv _ _ _ _ _); first | exact True.intro | exact ha.c | exact hb) | exact ha.c | exact hb | ((with_reducible show mm_bool _ _); first | exact True.intro | exact Or.inl rfl | exact Or.inr rfl | (show (_ : Int) = 0 ∨ _ = 1)) | refine And.intro ?_ ?_ | intro _ | with_reducible exact True.intro | exact rfl | with_reducible exact Or.inl rfl | with_reducible exact Or.inr rfl | exact Nat.le_of_ble_eq_true rfl)
    all_goals (try simp (disch := omega) only [h3, tp0, tm0, InI, Int.toNat_natCast, Int.tmod_eq_emod_of_nonneg, Int.tdiv_eq_ediv_of_nonneg, true_implies, true_or, or_true, mm_l18, mm_l19, mm_l20, mm_l21, mm_l22] at *)
    all_goals first | omega | exact k35 _ _ _ _ (by omega) (by omega) (by omega) (by assumption) (by assumption) | exact sret (by assumption) | skip
  · exact h.elim
theorem je_ensure {l : Launch} : mm_Jet l yJ_ensure prog_8_method_9_code 3 none 8 148 19 sp_J_ensure := mm_mtJ (own := "java/lang/AbstractStringBuilder") rn_J_ensure ⟨by decide +kernel, rfl⟩ kkJ_ensure rfl ⟨by decide, by decide⟩ flJ_ensure_k (⟨mm_semV (C := RXB) (T := TXB) (N := 4) (x := ⟨"java/lang/AbstractStringBuilder", "newCapacity", "(I)I"⟩) (je_newCapacity (l := l)) jw_newCapacity (mm_t4 230 rfl rfl) (mm_t4 232 rfl rfl) (Or.inr ⟨by decide, rfl⟩) (by decide +kernel) (Nat.le_of_ble_eq_true rfl) (Nat.le_of_ble_eq_true rfl) (Or.inl ⟨rfl, rfl, fun _ _ h => h _ (List.mem_append_right _ (by decide +kernel))⟩), mm_semS (je_copyOf (l := l)) jw_copyOf (mm_t5 5 rfl rfl) (mm_t5 6 rfl rfl) (by decide +kernel) (Nat.le_of_ble_eq_true rfl) (Nat.le_of_ble_eq_true rfl), trivial⟩) (by decide)
def kdJ_scoder : List mm_E := [(0, .getstatic 38, 0), (3, .ifCond .eq 10, 13), (6, .aload_n 0, 0), (7, .getfield 15, 0), (10, .goto 4, 14), (13, .iconst 1, 0), (14, .ireturn, 0)]
theorem kkJ_scoder : mm_chk prog_16_method_152_code kdJ_scoder = true := mm_fck 0 (by decide +kernel)
def yJ_scoder : MethodName := ⟨"java/lang/String", "coder", "()B"⟩
theorem jw_scoder : mm_JW yJ_scoder prog_16_method_152_code 1 (some .byte) := ⟨(mm_t5 175 rfl rfl), (mm_t1 14 rfl rfl), ⟨by decide, by decide⟩⟩
def sp_J_scoder : mm_S := fun av M d Q => match av with
  | [.inr (.inr (.inl b))] =>  b = 28 ∧ Q (.inl (some (mm_I 0))) M d
  | _ => False
def ct_J_scoder : List (Nat × mm_Ca) := []
def flJ_scoder : List (Nat × Nat × Nat) := [(38, 0, 98), (1, 0, 90), (15, 1, 92)]
theorem flJ_scoder_k : ∀ q ∈ flJ_scoder, mm_lj "java/lang/String" mm_U q.2.1 q.2.2 q.1 := by
  intro q hq
  simp only [flJ_scoder, List.mem_cons, List.not_mem_nil, or_false] at hq
  rcases hq with rfl | rfl | rfl
  · exact Or.inr ⟨by decide, (List.forall_mem_cons.mpr ⟨mm_T_U _ (mm_t5 176 rfl rfl), (fun _ h => nomatch h)⟩), (fun h => absurd h (by decide)), (fun h => absurd h (by decide))⟩
  · exact Or.inr ⟨by decide, (List.forall_mem_cons.mpr ⟨mm_T_U _ (mm_t5 125 rfl rfl), (List.forall_mem_cons.mpr ⟨mm_T_U _ (mm_t1 29 rfl rfl), (List.forall_mem_cons.mpr ⟨mm_T_U _ (mm_t1 30 rfl rfl), (fun _ h => nomatch h)⟩)⟩)⟩), (fun h => absurd h (by decide)), (fun h => absurd h (by decide))⟩
  · exact Or.inr ⟨by decide, (List.forall_mem_cons.mpr ⟨mm_T_U _ (mm_t5 208 rfl rfl), (fun _ h => nomatch h)⟩), (fun h => absurd h (by decide)), (fun h => absurd h (by decide))⟩
abbrev rr_J_scoder (Q : mm_Q) := mm_run (mm_look flJ_scoder) (mm_look ct_J_scoder) mm_x0 (mm_look ([] : List (Nat × Int))) (fun _ => none) 5 0 (fun _ _ => none) Q kdJ_scoder
set_option maxRecDepth 20000 in
theorem rn_J_scoder : mm_RN flJ_scoder ct_J_scoder mm_x0 [] 5 0 1 kdJ_scoder sp_J_scoder := by
  intro av M d Q h
  unfold sp_J_scoder at h
  split at h
  · rename_i b
    obtain ⟨rfl, hq⟩ := h
    obtain ⟨K, hK, hK2⟩ : ∃ K : Nat → mm_K, (∀ t ls st M d u, K t ls st M d u → rr_J_scoder Q t ls st M d u) ∧ (∀ t ls st M d u, rr_J_scoder Q t ls st M d u → K t ls st M d u) := ⟨rr_J_scoder Q, fun _ _ _ _ _ _ h => h, fun _ _ _ _ _ _ h => h⟩
    refine ⟨Nat.le_of_ble_eq_true rfl, mm_run_at (stop := []) (S := K) kkJ_scoder 90 ?_ (fun _ _ _ _ _ _ _ h => hK _ _ _ _ _ _ h)⟩
    repeat' (first | with_reducible assumption | ((with_reducible show mm_rv _ _ _ _ _); first | exact True.intro) | ((with_reducible show mm_bool _ _); first | exact True.intro | exact Or.inl rfl | exact Or.inr rfl | (show (_ : Int) = 0 ∨ _ = 1)) | refine And.intro ?_ ?_ | intro _ | with_reducible exact True.intro | exact rfl | with_reducible exact Or.inl rfl | with_reducible exact Or.inr rfl | exact Nat.le_of_ble_eq_true rfl)
    all_goals (try simp (disch := omega) only [InI, Int.toNat_natCast, Int.tmod_eq_emod_of_nonneg, Int.tdiv_eq_ediv_of_nonneg, true_implies, true_or, or_true, mm_l18, mm_l19, mm_l20, mm_l21, mm_l22] at *)
    all_goals first | omega | skip
  · exact h.elim
theorem je_scoder {l : Launch} : mm_Jet l yJ_scoder prog_16_method_152_code 1 (some .byte) 6 100 0 sp_J_scoder := mm_mtJ (own := "java/lang/String") rn_J_scoder ⟨by decide +kernel, rfl⟩ kkJ_scoder rfl ⟨by decide, by decide⟩ flJ_scoder_k (trivial) (by decide)
def kdJ_slength : List mm_E := [(0, .aload_n 0, 0), (1, .getfield 9, 0), (4, .arraylength, 0), (5, .aload_n 0, 0), (6, .invokevirtual 335, 0), (9, .ishr, 0), (10, .ireturn, 0)]
theorem kkJ_slength : mm_chk prog_16_method_54_code kdJ_slength = true := mm_fck 0 (by decide +kernel)
def yJ_slength : MethodName := ⟨"java/lang/String", "length", "()I"⟩
theorem jw_slength : mm_JW yJ_slength prog_16_method_54_code 1 (some .int) := ⟨(mm_t5 171 rfl rfl), (mm_t1 14 rfl rfl), ⟨by decide, by decide⟩⟩
def sp_J_slength : mm_S := fun av M d Q => match av with
  | [.inr (.inr (.inl b))] =>  b = 28 ∧ ∀ r, r = 1 → Q (.inl (some (mm_I r))) M d
  | _ => False
def ct_J_slength : List (Nat × mm_Ca) := [(335, (0, 1, 6, sp_J_scoder, 0))]
def flJ_slength : List (Nat × Nat × Nat) := [(9, 0, 92)]
theorem flJ_slength_k : ∀ q ∈ flJ_slength, mm_lj "java/lang/String" mm_U q.2.1 q.2.2 q.1 := by
  intro q hq
  simp only [flJ_slength, List.mem_cons, List.not_mem_nil, or_false] at hq
  subst hq
  · exact Or.inr ⟨by decide, (List.forall_mem_cons.mpr ⟨mm_T_U _ (mm_t5 207 rfl rfl), (fun _ h => nomatch h)⟩), (fun h => absurd h (by decide)), (fun h => absurd h (by decide))⟩
abbrev rr_J_slength (Q : mm_Q) := mm_run (mm_look flJ_slength) (mm_look ct_J_slength) mm_x0 (mm_look ([] : List (Nat × Int))) (fun _ => none) 21 0 (fun _ _ => none) Q kdJ_slength
set_option maxRecDepth 20000 in
theorem rn_J_slength : mm_RN flJ_slength ct_J_slength mm_x0 [] 21 0 1 kdJ_slength sp_J_slength := by
  intro av M d Q h
  unfold sp_J_slength at h
  split at h
  · rename_i b
    obtain ⟨rfl, hq⟩ := h
    have e1 : mm_ln M 29 = 1 := rfl
    have c1 : mm_isC M d 29 3 := ⟨rfl, Or.inr rfl⟩
    obtain ⟨K, hK, hK2⟩ : ∃ K : Nat → mm_K, (∀ t ls st M d u, K t ls st M d u → rr_J_slength Q t ls st M d u) ∧ (∀ t ls st M d u, rr_J_slength Q t ls st M d u → K t ls st M d u) := ⟨rr_J_slength Q, fun _ _ _ _ _ _ h => h, fun _ _ _ _ _ _ h => h⟩
    refine ⟨Nat.le_of_ble_eq_true rfl, mm_run_at (stop := []) (S := K) kkJ_slength 90 ?_ (fun _ _ _ _ _ _ _ h => hK _ _ _ _ _ _ h)⟩
    repeat' (first | with_reducible assumption | ((with_reducible show mm_rv _ _ _ _ _); first | exact True.intro) | ((with_reducible show mm_bool _ _); first | exact True.intro | exact Or.inl rfl | exact Or.inr rfl | (show (_ : Int) = 0 ∨ _ = 1)) | refine And.intro ?_ ?_ | intro _ | with_reducible exact True.intro | exact rfl | with_reducible exact Or.inl rfl | with_reducible exact Or.inr rfl | exact Nat.le_of_ble_eq_true rfl)
    all_goals (try simp (disch := omega) only [e1, tp0, InI, Int.toNat_natCast, Int.tmod_eq_emod_of_nonneg, Int.tdiv_eq_ediv_of_nonneg, true_implies, true_or, or_true, mm_l18, mm_l19, mm_l20, mm_l21, mm_l22] at *)
    all_goals first | omega | exact hq _ (by simp) | skip
  · exact h.elim
theorem je_slength {l : Launch} : mm_Jet l yJ_slength prog_16_method_54_code 1 (some .int) 7 120 0 sp_J_slength := mm_mtJ (own := "java/lang/String") rn_J_slength ⟨by decide +kernel, rfl⟩ kkJ_slength rfl ⟨by decide, by decide⟩ flJ_slength_k (⟨mm_semV (C := RXS) (T := TXS) (N := 4) (x := ⟨"java/lang/String", "coder", "()B"⟩) (je_scoder (l := l)) jw_scoder (mm_t5 172 rfl rfl) (mm_t5 173 rfl rfl) (Or.inl ⟨rfl, rfl⟩) (by decide +kernel) (Nat.le_of_ble_eq_true rfl) (Nat.le_of_ble_eq_true rfl) (Or.inl ⟨rfl, rfl, fun _ _ h => h _ (mm_T_U _ (mm_t5 174 rfl rfl))⟩), trivial⟩) (by decide)
def kdJ_getBytes : List mm_E := [(0, .aload_n 0, 0), (1, .invokevirtual 335, 0), (4, .iload_n 3, 0), (5, .if_icmp .ne 23, 28), (8, .aload_n 0, 0), (9, .getfield 9, 0), (12, .iconst 0, 0), (13, .aload_n 1, 0), (14, .iload_n 2, 0), (15, .iload_n 3, 0), (16, .ishl, 0), (17, .aload_n 0, 0), (18, .getfield 9, 0), (21, .arraylength, 0), (22, .invokestatic 212, 0), (25, .goto 18, 43), (28, .aload_n 0, 0), (29, .getfield 9, 0), (32, .iconst 0, 0), (33, .aload_n 1, 0), (34, .iload_n 2, 0), (35, .aload_n 0, 0), (36, .getfield 9, 0), (39, .arraylength, 0), (40, .invokestatic 106, 0), (43, .return_, 0)]
theorem kkJ_getBytes : mm_chk prog_16_method_147_code kdJ_getBytes = true := mm_fck 0 (by decide +kernel)
def yJ_getBytes : MethodName := ⟨"java/lang/String", "getBytes", "([BIB)V"⟩
theorem jw_getBytes : mm_JW yJ_getBytes prog_16_method_147_code 4 none := ⟨(mm_t5 189 rfl rfl), (mm_t1 14 rfl rfl), ⟨by decide, by decide⟩⟩
def sp_J_getBytes : mm_S := fun av M d Q => match av with
  | [.inr (.inr (.inl b)), .inr (.inr (.inl a)), .inl i, .inl z] =>  b = 28 ∧ z = 0 ∧ mm_is M d a 3 ∧ (0 ≤ i ∧ i + 1 ≤ (mm_ln M a : Int)) ∧ mm_ln M a ≤ 220 ∧ ∀ h9, Q (.inl none) (mm_any M a h9) d
  | _ => False
def ct_J_getBytes : List (Nat × mm_Ca) := [(335, (0, 1, 6, sp_J_scoder, 0))]
def flJ_getBytes : List (Nat × Nat × Nat) := [(1, 0, 90), (212, 0, 95), (9, 0, 92)]
theorem flJ_getBytes_k : ∀ q ∈ flJ_getBytes, mm_lj "java/lang/String" mm_U q.2.1 q.2.2 q.1 := by
  intro q hq
  simp only [flJ_getBytes, List.mem_cons, List.not_mem_nil, or_false] at hq
  rcases hq with rfl | rfl | rfl
  · exact Or.inr ⟨by decide, (List.forall_mem_cons.mpr ⟨mm_T_U _ (mm_t5 125 rfl rfl), (List.forall_mem_cons.mpr ⟨mm_T_U _ (mm_t1 29 rfl rfl), (List.forall_mem_cons.mpr ⟨mm_T_U _ (mm_t1 30 rfl rfl), (fun _ h => nomatch h)⟩)⟩)⟩), (fun h => absurd h (by decide)), (fun h => absurd h (by decide))⟩
  · exact Or.inr ⟨by decide, (List.forall_mem_cons.mpr ⟨mm_T_U _ (mm_t5 190 rfl rfl), (List.forall_mem_cons.mpr ⟨mm_T_U _ (mm_t5 20 rfl rfl), (List.forall_mem_cons.mpr ⟨mm_T_U _ (mm_t5 19 rfl rfl), (List.forall_mem_cons.mpr ⟨mm_T_U _ (mm_t1 19 rfl rfl), (fun _ h => nomatch h)⟩)⟩)⟩)⟩), (fun h => absurd h (by decide)), (fun h => absurd h (by decide))⟩
  · exact Or.inr ⟨by decide, (List.forall_mem_cons.mpr ⟨mm_T_U _ (mm_t5 207 rfl rfl), (fun _ h => nomatch h)⟩), (fun h => absurd h (by decide)), (fun h => absurd h (by decide))⟩
abbrev rr_J_getBytes (Q : mm_Q) := mm_run (mm_look flJ_getBytes) (mm_look ct_J_getBytes) mm_x0 (mm_look ([] : List (Nat × Int))) (fun _ => none) 20 0 (fun _ _ => none) Q kdJ_getBytes
set_option maxRecDepth 20000 in
theorem rn_J_getBytes : mm_RN flJ_getBytes ct_J_getBytes mm_x0 [] 20 0 4 kdJ_getBytes sp_J_getBytes := by
  intro av M d Q h
  unfold sp_J_getBytes at h
  split at h
  · rename_i b a i z
    obtain ⟨rfl, rfl, ha, h1, h2, hq⟩ := h
    have e1 : mm_ln M 29 = 1 := rfl
    have c1 : mm_isC M d 29 3 := ⟨rfl, Or.inr rfl⟩
    obtain ⟨K, hK, hK2⟩ : ∃ K : Nat → mm_K, (∀ t ls st M d u, K t ls st M d u → rr_J_getBytes Q t ls st M d u) ∧ (∀ t ls st M d u, rr_J_getBytes Q t ls st M d u → K t ls st M d u) := ⟨rr_J_getBytes Q, fun _ _ _ _ _ _ h => h, fun _ _ _ _ _ _ h => h⟩
    refine ⟨Nat.le_of_ble_eq_true rfl, mm_run_at (stop := []) (S := K) kkJ_getBytes 90 ?_ (fun _ _ _ _ _ _ _ h => hK _ _ _ _ _ _ h)⟩
    repeat' (first | with_reducible assumption | ((with_reducible show mm_rv _ _ _ _ _); first | exact True.intro) | ((with_reducible show mm_bool _ _); first | exact True.intro | exact Or.inl rfl | exact Or.inr rfl | (show (_ : Int) = 0 ∨ _ = 1)) | refine And.intro ?_ ?_ | intro _ | with_reducible exact True.intro | exact rfl | with_reducible exact Or.inl rfl | with_reducible exact Or.inr rfl | exact Nat.le_of_ble_eq_true rfl)
    all_goals (try simp (disch := omega) only [e1, tm0, InI, Int.toNat_natCast, Int.tmod_eq_emod_of_nonneg, Int.tdiv_eq_ediv_of_nonneg, true_implies, true_or, or_true, mm_l18, mm_l19, mm_l20, mm_l21, mm_l22] at *)
    all_goals first | omega | exact hq _ | skip
  · exact h.elim
theorem je_getBytes {l : Launch} : mm_Jet l yJ_getBytes prog_16_method_147_code 4 none 7 120 0 sp_J_getBytes := mm_mtJ (own := "java/lang/String") rn_J_getBytes ⟨by decide +kernel, rfl⟩ kkJ_getBytes rfl ⟨by decide, by decide⟩ flJ_getBytes_k (⟨mm_semV (C := RXS) (T := TXS) (N := 4) (x := ⟨"java/lang/String", "coder", "()B"⟩) (je_scoder (l := l)) jw_scoder (mm_t5 172 rfl rfl) (mm_t5 173 rfl rfl) (Or.inl ⟨rfl, rfl⟩) (by decide +kernel) (Nat.le_of_ble_eq_true rfl) (Nat.le_of_ble_eq_true rfl) (Or.inl ⟨rfl, rfl, fun _ _ h => h _ (mm_T_U _ (mm_t5 174 rfl rfl))⟩), trivial⟩) (by decide)
def kdJ_inflateIf : List mm_E := [(0, .getstatic 18, 0), (3, .ifCond .eq 18, 21), (6, .aload_n 0, 0), (7, .getfield 22, 0), (10, .aload_n 1, 0), (11, .invokevirtual 40, 0), (14, .if_icmp .eq 7, 21), (17, .aload_n 0, 0), (18, .invokevirtual 195, 0), (21, .return_, 0)]
theorem kkJ_inflateIf : mm_chk prog_8_method_71_code kdJ_inflateIf = true := mm_fck 0 (by decide +kernel)
def yJ_inflateIf : MethodName := ⟨"java/lang/AbstractStringBuilder", "inflateIfNeededFor", "(Ljava/lang/String;)V"⟩
theorem jw_inflateIf : mm_JW yJ_inflateIf prog_8_method_71_code 2 none := ⟨(mm_t5 184 rfl rfl), (mm_t1 12 rfl rfl), ⟨by decide, by decide⟩⟩
def sp_J_inflateIf : mm_S := fun av M d Q => match av with
  | [.inr (.inr (.inl b)), .inr (.inr (.inl t))] =>  t = 28 ∧ mm_is M d b 16 ∧ M b 1 = 0 ∧ Q (.inl none) M d
  | _ => False
def ct_J_inflateIf : List (Nat × mm_Ca) := [(40, (0, 1, 6, sp_J_scoder, 0))]
def flJ_inflateIf : List (Nat × Nat × Nat) := [(22, 16, 1), (18, 0, 98)]
theorem flJ_inflateIf_k : ∀ q ∈ flJ_inflateIf, mm_lj "java/lang/AbstractStringBuilder" mm_U q.2.1 q.2.2 q.1 := by
  intro q hq
  simp only [flJ_inflateIf, List.mem_cons, List.not_mem_nil, or_false] at hq
  rcases hq with rfl | rfl
  · exact Or.inl ⟨by decide, Or.inl (mm_T_U _ (mm_t4 207 rfl rfl))⟩
  · exact Or.inr ⟨by decide, (List.forall_mem_cons.mpr ⟨mm_T_U _ (mm_t4 197 rfl rfl), (fun _ h => nomatch h)⟩), (fun h => absurd h (by decide)), (fun h => absurd h (by decide))⟩
abbrev rr_J_inflateIf (Q : mm_Q) := mm_run (mm_look flJ_inflateIf) (mm_look ct_J_inflateIf) mm_x0 (mm_look ([] : List (Nat × Int))) (fun _ => none) 0 0 (fun _ _ => none) Q kdJ_inflateIf
set_option maxRecDepth 20000 in
theorem rn_J_inflateIf : mm_RN flJ_inflateIf ct_J_inflateIf mm_x0 [] 0 0 2 kdJ_inflateIf sp_J_inflateIf := by
  intro av M d Q h
  unfold sp_J_inflateIf at h
  split at h
  · rename_i b t
    obtain ⟨rfl, hb, h1, hq⟩ := h
    obtain ⟨K, hK, hK2⟩ : ∃ K : Nat → mm_K, (∀ t ls st M d u, K t ls st M d u → rr_J_inflateIf Q t ls st M d u) ∧ (∀ t ls st M d u, rr_J_inflateIf Q t ls st M d u → K t ls st M d u) := ⟨rr_J_inflateIf Q, fun _ _ _ _ _ _ h => h, fun _ _ _ _ _ _ h => h⟩
    refine ⟨Nat.le_of_ble_eq_true rfl, mm_run_at (stop := []) (S := K) kkJ_inflateIf 90 ?_ (fun _ _ _ _ _ _ _ h => hK _ _ _ _ _ _ h)⟩
    repeat' (first | with_reducible assumption | ((with_reducible show mm_rv _ _ _ _ _); first | exact True.intro) | ((with_reducible show mm_bool _ _); first | exact True.intro | exact Or.inl rfl | exact Or.inr rfl | (show (_ : Int) = 0 ∨ _ = 1)) | refine And.intro ?_ ?_ | intro _ | with_reducible exact True.intro | exact rfl | with_reducible exact Or.inl rfl | with_reducible exact Or.inr rfl | exact Nat.le_of_ble_eq_true rfl)
    all_goals (try simp (disch := omega) only [h1, InI, Int.toNat_natCast, Int.tmod_eq_emod_of_nonneg, Int.tdiv_eq_ediv_of_nonneg, true_implies, true_or, or_true, mm_l18, mm_l19, mm_l20, mm_l21, mm_l22] at *)
    all_goals first | omega | skip
  · exact h.elim
theorem je_inflateIf {l : Launch} : mm_Jet l yJ_inflateIf prog_8_method_71_code 2 none 7 120 0 sp_J_inflateIf := mm_mtJ (own := "java/lang/AbstractStringBuilder") rn_J_inflateIf ⟨by decide +kernel, rfl⟩ kkJ_inflateIf rfl ⟨by decide, by decide⟩ flJ_inflateIf_k (⟨mm_semV (C := RXS) (T := TXS) (N := 4) (x := ⟨"java/lang/String", "coder", "()B"⟩) (je_scoder (l := l)) jw_scoder (mm_t5 185 rfl rfl) (mm_t5 173 rfl rfl) (Or.inl ⟨rfl, rfl⟩) (by decide +kernel) (Nat.le_of_ble_eq_true rfl) (Nat.le_of_ble_eq_true rfl) (Or.inl ⟨rfl, rfl, fun _ _ h => h _ (mm_T_U _ (mm_t5 174 rfl rfl))⟩), trivial⟩) (by decide)
def kdJ_putStringAt : List mm_E := [(0, .aload_n 0, 0), (1, .aload_n 2, 0), (2, .invokevirtual 397, 0), (5, .aload_n 2, 0), (6, .aload_n 0, 0), (7, .getfield 15, 0), (10, .iload_n 1, 0), (11, .aload_n 0, 0), (12, .getfield 22, 0), (15, .invokevirtual 399, 0), (18, .return_, 0)]
theorem kkJ_putStringAt : mm_chk prog_8_method_73_code kdJ_putStringAt = true := mm_fck 0 (by decide +kernel)
def yJ_putStringAt : MethodName := ⟨"java/lang/AbstractStringBuilder", "putStringAt", "(ILjava/lang/String;)V"⟩
theorem jw_putStringAt : mm_JW yJ_putStringAt prog_8_method_73_code 3 none := ⟨(mm_t5 180 rfl rfl), (mm_t1 12 rfl rfl), ⟨by decide, by decide⟩⟩
def sp_J_putStringAt : mm_S := fun av M d Q => match av with
  | [.inr (.inr (.inl b)), .inl i, .inr (.inr (.inl t))] =>  t = 28 ∧ mm_is M d b 16 ∧ M b 1 = 0 ∧ mm_is M d (M b 0).toNat 3 ∧ (0 ≤ i ∧ i + 1 ≤ (mm_ln M (M b 0).toNat : Int)) ∧ mm_ln M (M b 0).toNat ≤ 220 ∧ ∀ h9, Q (.inl none) (mm_any M (M b 0).toNat h9) d
  | _ => False
def ct_J_putStringAt : List (Nat × mm_Ca) := [(397, (0, 2, 16, sp_J_inflateIf, 0)), (399, (0, 4, 6, sp_J_getBytes, 0))]
def flJ_putStringAt : List (Nat × Nat × Nat) := [(15, 16, 0), (22, 16, 1)]
theorem flJ_putStringAt_k : ∀ q ∈ flJ_putStringAt, mm_lj "java/lang/AbstractStringBuilder" mm_U q.2.1 q.2.2 q.1 := by
  intro q hq
  simp only [flJ_putStringAt, List.mem_cons, List.not_mem_nil, or_false] at hq
  rcases hq with rfl | rfl
  · exact Or.inl ⟨by decide, Or.inl (mm_T_U _ (mm_t4 206 rfl rfl))⟩
  · exact Or.inl ⟨by decide, Or.inl (mm_T_U _ (mm_t4 207 rfl rfl))⟩
abbrev rr_J_putStringAt (Q : mm_Q) := mm_run (mm_look flJ_putStringAt) (mm_look ct_J_putStringAt) mm_x0 (mm_look ([] : List (Nat × Int))) (fun _ => none) 0 0 (fun _ _ => none) Q kdJ_putStringAt
set_option maxRecDepth 20000 in
theorem rn_J_putStringAt : mm_RN flJ_putStringAt ct_J_putStringAt mm_x0 [] 0 0 3 kdJ_putStringAt sp_J_putStringAt := by
  intro av M d Q h
  unfold sp_J_putStringAt at h
  split at h
  · rename_i b i t
    obtain ⟨rfl, hb, h1, ha, h2, h3, hq⟩ := h
    obtain ⟨K, hK, hK2⟩ : ∃ K : Nat → mm_K, (∀ t ls st M d u, K t ls st M d u → rr_J_putStringAt Q t ls st M d u) ∧ (∀ t ls st M d u, rr_J_putStringAt Q t ls st M d u → K t ls st M d u) := ⟨rr_J_putStringAt Q, fun _ _ _ _ _ _ h => h, fun _ _ _ _ _ _ h => h⟩
    refine ⟨Nat.le_of_ble_eq_true rfl, mm_run_at (stop := []) (S := K) kkJ_putStringAt 90 ?_ (fun _ _ _ _ _ _ _ h => hK _ _ _ _ _ _ h)⟩
    repeat' (first | with_reducible assumption | ((with_reducible show mm_rv _ _ _ _ _); first | exact True.intro | exact hb) | exact hb | ((with_reducible show mm_bool _ _); first | exact True.intro | exact Or.inl rfl | exact Or.inr rfl | (show (_ : Int) = 0 ∨ _ = 1)) | refine And.intro ?_ ?_ | intro _ | with_reducible exact True.intro | exact rfl | with_reducible exact Or.inl rfl | with_reducible exact Or.inr rfl | exact Nat.le_of_ble_eq_true rfl)
    all_goals (try simp (disch := omega) only [h1, InI, Int.toNat_natCast, Int.tmod_eq_emod_of_nonneg, Int.tdiv_eq_ediv_of_nonneg, true_implies, true_or, or_true, mm_l18, mm_l19, mm_l20, mm_l21, mm_l22] at *)
    all_goals first | omega | exact hq _ | skip
  · exact h.elim
theorem je_putStringAt {l : Launch} : mm_Jet l yJ_putStringAt prog_8_method_73_code 3 none 8 143 0 sp_J_putStringAt := mm_mtJ (own := "java/lang/AbstractStringBuilder") rn_J_putStringAt ⟨by decide +kernel, rfl⟩ kkJ_putStringAt rfl ⟨by decide, by decide⟩ flJ_putStringAt_k (⟨mm_semV (C := RXB) (T := TXB) (N := 4) (x := ⟨"java/lang/AbstractStringBuilder", "inflateIfNeededFor", "(Ljava/lang/String;)V"⟩) (je_inflateIf (l := l)) jw_inflateIf (mm_t5 181 rfl rfl) (mm_t5 183 rfl rfl) (Or.inr ⟨by decide, rfl⟩) (by decide +kernel) (Nat.le_of_ble_eq_true rfl) (Nat.le_of_ble_eq_true rfl) (Or.inl ⟨rfl, rfl, fun _ _ h => h _ (List.mem_append_right _ (by decide +kernel))⟩), mm_semV (C := RXS) (T := TXS) (N := 4) (x := ⟨"java/lang/String", "getBytes", "([BIB)V"⟩) (je_getBytes (l := l)) jw_getBytes (mm_t5 186 rfl rfl) (mm_t5 187 rfl rfl) (Or.inl ⟨rfl, rfl⟩) (by decide +kernel) (Nat.le_of_ble_eq_true rfl) (Nat.le_of_ble_eq_true rfl) (Or.inl ⟨rfl, rfl, fun _ _ h => h _ (mm_T_U _ (mm_t5 188 rfl rfl))⟩), trivial⟩) (by decide)
def kdJ_ainit : List mm_E := [(0, .aload_n 0, 0), (1, .invokespecial 3, 0), (4, .getstatic 18, 0), (7, .ifCond .eq 18, 25), (10, .aload_n 0, 0), (11, .iload_n 1, 0), (12, .newarray .byte, 0), (14, .putfield 15, 0), (17, .aload_n 0, 0), (18, .iconst 0, 0), (19, .putfield 22, 0), (22, .goto 16, 38), (25, .aload_n 0, 0), (26, .iload_n 1, 0), (27, .invokestatic 26, 0), (30, .putfield 15, 0), (33, .aload_n 0, 0), (34, .iconst 1, 0), (35, .putfield 22, 0), (38, .return_, 0)]
theorem kkJ_ainit : mm_chk prog_8_method_2_code kdJ_ainit = true := mm_fck 0 (by decide +kernel)
def yJ_ainit : MethodName := ⟨"java/lang/AbstractStringBuilder", "<init>", "(I)V"⟩
theorem jw_ainit : mm_JW yJ_ainit prog_8_method_2_code 2 none := ⟨(mm_t4 195 rfl rfl), (mm_t1 12 rfl rfl), ⟨by decide, by decide⟩⟩
def sp_J_ainit : mm_S := fun av M d Q => match av with
  | [.inr (.inr (.inl b)), .inl z] =>  ∃ M0 d0, bX M0 d0 M d ∧ bO d0 M d b 16 ∧ M b 1 = 0 ∧ M b 3 = 0 ∧ z = 16 ∧ ∀ M' d', sC M0 d0 M' d' b 0 0 → Q (.inl none) M' d'
  | _ => False
def ct_J_ainit : List (Nat × mm_Ca) := []
def flJ_ainit : List (Nat × Nat × Nat) := [(15, 16, 0), (22, 16, 1), (18, 0, 98), (3, 0, 90)]
theorem flJ_ainit_k : ∀ q ∈ flJ_ainit, mm_lj "java/lang/AbstractStringBuilder" mm_U q.2.1 q.2.2 q.1 := by
  intro q hq
  simp only [flJ_ainit, List.mem_cons, List.not_mem_nil, or_false] at hq
  rcases hq with rfl | rfl | rfl | rfl
  · exact Or.inl ⟨by decide, Or.inl (mm_T_U _ (mm_t4 206 rfl rfl))⟩
  · exact Or.inl ⟨by decide, Or.inl (mm_T_U _ (mm_t4 207 rfl rfl))⟩
  · exact Or.inr ⟨by decide, (List.forall_mem_cons.mpr ⟨mm_T_U _ (mm_t4 197 rfl rfl), (fun _ h => nomatch h)⟩), (fun h => absurd h (by decide)), (fun h => absurd h (by decide))⟩
  · exact Or.inr ⟨by decide, (List.forall_mem_cons.mpr ⟨mm_T_U _ (mm_t4 196 rfl rfl), (List.forall_mem_cons.mpr ⟨mm_T_U _ (mm_t1 29 rfl rfl), (List.forall_mem_cons.mpr ⟨mm_T_U _ (mm_t1 30 rfl rfl), (fun _ h => nomatch h)⟩)⟩)⟩), (fun h => absurd h (by decide)), (fun h => absurd h (by decide))⟩
abbrev rr_J_ainit (Q : mm_Q) := mm_run (mm_look flJ_ainit) (mm_look ct_J_ainit) mm_x0 (mm_look ([] : List (Nat × Int))) (fun _ => none) 0 2 (fun _ _ => none) Q kdJ_ainit
set_option maxRecDepth 20000 in
theorem rn_J_ainit : mm_RN flJ_ainit ct_J_ainit mm_x0 [] 0 2 2 kdJ_ainit sp_J_ainit := by
  intro av M d Q h
  unfold sp_J_ainit at h
  split at h
  · rename_i b z
    obtain ⟨M0, d0, h1, h2, h3, h4, rfl, hq⟩ := h
    have hb := h2.1
    have hb0 : b ≠ 0 := mm_is0 hb
    obtain ⟨K, hK, hK2⟩ : ∃ K : Nat → mm_K, (∀ t ls st M d u, K t ls st M d u → rr_J_ainit Q t ls st M d u) ∧ (∀ t ls st M d u, rr_J_ainit Q t ls st M d u → K t ls st M d u) := ⟨rr_J_ainit Q, fun _ _ _ _ _ _ h => h, fun _ _ _ _ _ _ h => h⟩
    have k14 : ∀ o (r : Int), r = 16 → 100 ≤ o → o ∉ d → K 14 [some (mm_R b), some (mm_I 16)] [mm_R o, mm_R b] (mm_nob M o 3 r) (d ++ [o]) (1 + r.toNat / 12) := by
      intro o r hr ho hd
      subst hr
      have hbo : b ≠ o := fun z => mm_ids_new ho hd (z ▸ hb.2)
      have eb : mm_nob M o 3 16 b = M b := mm_nob_o hbo hb0
      have g1 := h1.new (k := 3) (n := 16) ho hd
      have g2 := h2.new (k' := 3) (n := 16) ho hd
      have g3 := bO.mk' (k := 3) (n := 16) h1 ho hd (by omega)
      have g4 := (isNo (M := M) (d := d) (k := 3) (n := 16) ho (by omega)).2
      have s1 := sC.set (q := 0) g1 g2 (by rw [eb]; exact h3) (by rw [eb]; exact h4) (Int.le_refl 0) g3 ⟨by rw [g4]; omega, by rw [g4]; omega, by rw [g4]; omega⟩
      have e5 : mm_up (mm_up (mm_nob M o 3 16) b 0 (o : Int)) b 1 0 = mm_up (mm_nob M o 3 16) b 0 (o : Int) := by
        funext x k
        by_cases hx : x = b ∧ k = 1
        · obtain ⟨rfl, rfl⟩ := hx
          have : mm_nob M o 3 16 x 1 = M x 1 := by rw [eb]
          simp [mm_up, this, h3]
        · simp only [mm_up, hx, if_false]
      have fin := hq _ _ s1
      have g5 := g2.1
      obtain ⟨M1, e1⟩ : ∃ M1, mm_nob M o 3 16 = M1 := ⟨_, rfl⟩
      rw [e1] at g5 fin e5 ⊢
      refine hK2 _ _ _ _ _ _ ?_
      refine mm_run_at (stop := []) (S := K) kkJ_ainit 90 ?_ (fun _ _ _ _ _ _ _ h => hK _ _ _ _ _ _ h)
      repeat' (first | with_reducible assumption | ((with_reducible show mm_rv _ _ _ _ _); first | exact True.intro | exact isU g5 hb0) | exact isU g5 hb0 | ((with_reducible show mm_bool _ _); first | exact True.intro | exact Or.inl rfl | exact Or.inr rfl | (show (_ : Int) = 0 ∨ _ = 1)) | refine And.intro ?_ ?_ | intro _ | with_reducible exact True.intro | exact rfl | with_reducible exact Or.inl rfl | with_reducible exact Or.inr rfl | exact Nat.le_of_ble_eq_true rfl)
      all_goals (try simp (disch := omega) only [InI, Int.toNat_natCast, Int.tmod_eq_emod_of_nonneg, Int.tdiv_eq_ediv_of_nonneg, true_implies, true_or, or_true, mm_l18, mm_l19, mm_l20, mm_l21, mm_l22] at *)
      all_goals first | omega | (rw [e5]; exact fin) | skip
    refine ⟨Nat.le_of_ble_eq_true rfl, ?_⟩
    refine mm_run_at (stop := [14]) (S := K) kkJ_ainit 90 ?_ (fun _ _ _ _ _ _ _ h => hK _ _ _ _ _ _ h)
    repeat' (first | with_reducible assumption | ((with_reducible show mm_rv _ _ _ _ _); first | exact True.intro) | ((with_reducible show mm_bool _ _); first | exact True.intro | exact Or.inl rfl | exact Or.inr rfl | (show (_ : Int) = 0 ∨ _ = 1)) | refine And.intro ?_ ?_ | intro _ | with_reducible exact True.intro | exact rfl | with_reducible exact Or.inl rfl | with_reducible exact Or.inr rfl | exact Nat.le_of_ble_eq_true rfl)
    all_goals (try simp (disch := omega) only [InI, Int.toNat_natCast, Int.tmod_eq_emod_of_nonneg, Int.tdiv_eq_ediv_of_nonneg, true_implies, true_or, or_true, mm_l18, mm_l19, mm_l20, mm_l21, mm_l22] at *)
    all_goals first | omega | exact k14 _ _ rfl (by assumption) (by assumption) | skip
  · exact h.elim
theorem je_ainit {l : Launch} : mm_Jet l yJ_ainit prog_8_method_2_code 2 none 6 100 2 sp_J_ainit := mm_mtJ (own := "java/lang/AbstractStringBuilder") rn_J_ainit ⟨by decide +kernel, rfl⟩ kkJ_ainit rfl ⟨by decide, by decide⟩ flJ_ainit_k (trivial) (by decide)
def kdJ_binit : List mm_E := [(0, .aload_n 0, 0), (1, .bipush 16, 0), (3, .invokespecial 1, 0), (6, .return_, 0)]
theorem kkJ_binit : mm_chk prog_17_method_1_code kdJ_binit = true := mm_fck 0 (by decide +kernel)
def yJ_binit : MethodName := ⟨"java/lang/StringBuilder", "<init>", "()V"⟩
theorem jw_binit : mm_JW yJ_binit prog_17_method_1_code 1 none := ⟨(mm_t4 192 rfl rfl), (mm_t1 13 rfl rfl), ⟨by decide, by decide⟩⟩
def sp_J_binit : mm_S := fun av M d Q => match av with
  | [.inr (.inr (.inl b))] =>  ∃ M0 d0, bX M0 d0 M d ∧ bO d0 M d b 16 ∧ M b 1 = 0 ∧ M b 3 = 0 ∧ ∀ M' d', sC M0 d0 M' d' b 0 0 → Q (.inl none) M' d'
  | _ => False
def ct_J_binit : List (Nat × mm_Ca) := [(1, (2, 2, 16, sp_J_ainit, 2))]
def flJ_binit : List (Nat × Nat × Nat) := []
theorem flJ_binit_k : ∀ q ∈ flJ_binit, mm_lj "java/lang/StringBuilder" mm_U q.2.1 q.2.2 q.1 := fun _ h => nomatch h
abbrev rr_J_binit (Q : mm_Q) := mm_run (mm_look flJ_binit) (mm_look ct_J_binit) mm_x0 (mm_look ([] : List (Nat × Int))) (fun _ => none) 0 2 (fun _ _ => none) Q kdJ_binit
set_option maxRecDepth 20000 in
theorem rn_J_binit : mm_RN flJ_binit ct_J_binit mm_x0 [] 0 2 1 kdJ_binit sp_J_binit := by
  intro av M d Q h
  unfold sp_J_binit at h
  split at h
  · rename_i b
    obtain ⟨M0, d0, h1, h2, h3, h4, hq⟩ := h
    have hb := h2.1
    obtain ⟨K, hK, hK2⟩ : ∃ K : Nat → mm_K, (∀ t ls st M d u, K t ls st M d u → rr_J_binit Q t ls st M d u) ∧ (∀ t ls st M d u, rr_J_binit Q t ls st M d u → K t ls st M d u) := ⟨rr_J_binit Q, fun _ _ _ _ _ _ h => h, fun _ _ _ _ _ _ h => h⟩
    have k6 : ∀ M' d', sC M0 d0 M' d' b 0 0 → K 6 [some (mm_R b)] [] M' d' 2 := by
      intro M' d' hs
      have fin := hq _ _ hs
      refine hK2 _ _ _ _ _ _ ?_
      refine mm_run_at (stop := []) (S := K) kkJ_binit 90 ?_ (fun _ _ _ _ _ _ _ h => hK _ _ _ _ _ _ h)
      repeat' (first | with_reducible assumption | ((with_reducible show mm_rv _ _ _ _ _); first | exact True.intro) | ((with_reducible show mm_bool _ _); first | exact True.intro | exact Or.inl rfl | exact Or.inr rfl | (show (_ : Int) = 0 ∨ _ = 1)) | refine And.intro ?_ ?_ | intro _ | with_reducible exact True.intro | exact rfl | with_reducible exact Or.inl rfl | with_reducible exact Or.inr rfl | exact Nat.le_of_ble_eq_true rfl)
      all_goals (try simp (disch := omega) only [InI, Int.toNat_natCast, Int.tmod_eq_emod_of_nonneg, Int.tdiv_eq_ediv_of_nonneg, true_implies, true_or, or_true, mm_l18, mm_l19, mm_l20, mm_l21, mm_l22] at *)
      all_goals first | omega | skip
    refine ⟨Nat.le_of_ble_eq_true rfl, ?_⟩
    refine mm_run_at (stop := [6]) (S := K) kkJ_binit 90 ?_ (fun _ _ _ _ _ _ _ h => hK _ _ _ _ _ _ h)
    refine And.intro ⟨by decide, by decide⟩ (mj5 rfl (Nat.le_of_ble_eq_true rfl) (by exact hb) (Nat.le_of_ble_eq_true rfl) (Nat.le_of_ble_eq_true rfl) ⟨M0, d0, h1, h2, h3, h4, rfl, fun M' d' hs => k6 M' d' hs⟩)
  · exact h.elim
theorem je_binit {l : Launch} : mm_Jet l yJ_binit prog_17_method_1_code 1 none 7 121 2 sp_J_binit := mm_mtJ (own := "java/lang/StringBuilder") rn_J_binit ⟨by decide +kernel, rfl⟩ kkJ_binit rfl ⟨by decide, by decide⟩ flJ_binit_k (⟨mm_semV (C := RXB) (T := TXB) (N := 4) (x := ⟨"java/lang/AbstractStringBuilder", "<init>", "(I)V"⟩) (je_ainit (l := l)) jw_ainit (mm_t4 193 rfl rfl) (mm_t4 194 rfl rfl) (Or.inr ⟨by decide, rfl⟩) (by decide +kernel) (Nat.le_of_ble_eq_true rfl) (Nat.le_of_ble_eq_true rfl) (Or.inr (Or.inr (Or.inl ⟨rfl, rfl, rfl, rfl⟩))), trivial⟩) (by decide)
def kdJ_aappC : List mm_E := [(0, .aload_n 0, 0), (1, .aload_n 0, 0), (2, .getfield 79, 0), (5, .iconst 1, 0), (6, .iadd, 0), (7, .invokevirtual 100, 0), (10, .aload_n 0, 0), (11, .invokevirtual 83, 0), (14, .ifCond .eq 31, 45), (17, .iload_n 1, 0), (18, .invokestatic 191, 0), (21, .ifCond .eq 24, 45), (24, .aload_n 0, 0), (25, .getfield 15, 0), (28, .aload_n 0, 0), (29, .dup, 0), (30, .getfield 79, 0), (33, .dup_x1, 0), (34, .iconst 1, 0), (35, .iadd, 0), (36, .putfield 79, 0), (39, .iload_n 1, 0), (40, .i2b, 0), (41, .bastore, 0), (42, .goto 33, 75), (45, .aload_n 0, 0), (46, .invokevirtual 83, 0), (49, .ifCond .eq 7, 56), (52, .aload_n 0, 0), (53, .invokevirtual 195, 0), (56, .aload_n 0, 0), (57, .getfield 15, 0), (60, .aload_n 0, 0), (61, .dup, 0), (62, .getfield 79, 0), (65, .dup_x1, 0), (66, .iconst 1, 0), (67, .iadd, 0), (68, .putfield 79, 0), (71, .iload_n 1, 0), (72, .invokestatic 197, 0), (75, .aload_n 0, 0), (76, .areturn, 0)]
theorem kkJ_aappC : mm_chk prog_8_method_31_code kdJ_aappC = true := mm_fck 0 (by decide +kernel)
def yJ_aappC : MethodName := ⟨"java/lang/AbstractStringBuilder", "append", "(C)Ljava/lang/AbstractStringBuilder;"⟩
theorem jw_aappC : mm_JW yJ_aappC prog_8_method_31_code 2 (some (.object "java/lang/AbstractStringBuilder")) := ⟨(mm_t4 225 rfl rfl), (mm_t1 12 rfl rfl), ⟨by decide, by decide⟩⟩
def sp_J_aappC : mm_S := fun av M d Q => match av with
  | [.inr (.inr (.inl b)), .inl c] =>  ∃ M0 d0 n, sC M0 d0 M d b n 0 ∧ n ≤ 100 ∧ (0 ≤ c ∧ c ≤ 255) ∧ ∀ M' d', sC M0 d0 M' d' b (n + 1) 0 → Q (.inl (some (mm_R b))) M' d'
  | _ => False
def ct_J_aappC : List (Nat × mm_Ca) := [(100, (0, 2, 16, sp_J_ensure, 19)), (83, (0, 1, 16, sp_J_isLatin1, 0)), (191, (1, 1, 0, sp_J_canEncode, 0))]
def flJ_aappC : List (Nat × Nat × Nat) := [(15, 16, 0), (79, 16, 3)]
theorem flJ_aappC_k : ∀ q ∈ flJ_aappC, mm_lj "java/lang/AbstractStringBuilder" mm_U q.2.1 q.2.2 q.1 := by
  intro q hq
  simp only [flJ_aappC, List.mem_cons, List.not_mem_nil, or_false] at hq
  rcases hq with rfl | rfl
  · exact Or.inl ⟨by decide, Or.inl (mm_T_U _ (mm_t4 206 rfl rfl))⟩
  · exact Or.inl ⟨by decide, Or.inl (mm_T_U _ (mm_t4 209 rfl rfl))⟩
abbrev rr_J_aappC (Q : mm_Q) := mm_run (mm_look flJ_aappC) (mm_look ct_J_aappC) mm_x0 (mm_look ([] : List (Nat × Int))) (fun _ => none) 4 19 (fun _ _ => none) Q kdJ_aappC
set_option maxRecDepth 20000 in
theorem rn_J_aappC : mm_RN flJ_aappC ct_J_aappC mm_x0 [] 4 19 2 kdJ_aappC sp_J_aappC := by
  intro av M d Q h
  unfold sp_J_aappC at h
  split at h
  · rename_i b c
    obtain ⟨M0, d0, n, hs, hn, hc, hq⟩ := h
    have hn0 := hs.2.2.2.2.1
    have e3 := hs.2.2.2.1
    have hb := hs.2.1.1
    obtain ⟨K, hK, hK2⟩ : ∃ K : Nat → mm_K, (∀ t ls st M d u, K t ls st M d u → rr_J_aappC Q t ls st M d u) ∧ (∀ t ls st M d u, rr_J_aappC Q t ls st M d u → K t ls st M d u) := ⟨rr_J_aappC Q, fun _ _ _ _ _ _ h => h, fun _ _ _ _ _ _ h => h⟩
    have k10 : ∀ M' d', sC M0 d0 M' d' b n (n + 1) → K 10 [some (mm_R b), some (mm_I c)] [] M' d' 19 := by
      intro M' d' h
      have hb := h.2.1.1
      have hb0 : b ≠ 0 := mm_is0 hb
      have e1 := h.2.2.1
      have e3 := h.2.2.2.1
      have ha := h.2.2.2.2.2.1
      have ha1 := ha.1
      have l1 := h.2.2.2.2.2.2.1
      have l2 := h.2.2.2.2.2.2.2.1
      have l3 := h.2.2.2.2.2.2.2.2
      have s1 := h.cnt (n' := n + 1) ⟨by omega, by omega⟩
      have s2 : ∀ x, sC M0 d0 (mm_up (mm_up M' b 3 (n + 1)) (M' b 0).toNat n.toNat x) d' b (n + 1) (n + 1) := fun x => s1.row (ha.same (by have := h.2.1.2.1; omega) mm_up_o) (by decide) mm_up_o
      have fin := fun x => hq _ _ ((s2 x).w (Or.inr (by omega)))
      refine hK2 _ _ _ _ _ _ ?_
      refine mm_run_at (stop := []) (S := K) kkJ_aappC 90 ?_ (fun _ _ _ _ _ _ _ h => hK _ _ _ _ _ _ h)
      repeat' (first | with_reducible assumption | ((with_reducible show mm_rv _ _ _ _ _); first | exact True.intro | exact hb | exact isU ha1 hb0) | exact hb | exact isU ha1 hb0 | ((with_reducible show mm_bool _ _); first | exact True.intro | exact Or.inl rfl | exact Or.inr rfl | (show (_ : Int) = 0 ∨ _ = 1)) | refine And.intro ?_ ?_ | intro _ | with_reducible exact True.intro | exact rfl | with_reducible exact Or.inl rfl | with_reducible exact Or.inr rfl | exact Nat.le_of_ble_eq_true rfl)
      all_goals (try simp (disch := omega) only [lnU hb0, e1, e3, InI, Int.toNat_natCast, Int.tmod_eq_emod_of_nonneg, Int.tdiv_eq_ediv_of_nonneg, true_implies, true_or, or_true, mm_l18, mm_l19, mm_l20, mm_l21, mm_l22] at *)
      all_goals first | omega | exact fin _ | skip
    refine ⟨Nat.le_of_ble_eq_true rfl, ?_⟩
    refine mm_run_at (stop := [10]) (S := K) kkJ_aappC 90 ?_ (fun _ _ _ _ _ _ _ h => hK _ _ _ _ _ _ h)
    repeat' (first | with_reducible assumption | ((with_reducible show mm_rv _ _ _ _ _); first | exact True.intro | exact hb) | exact hb | ((with_reducible show mm_bool _ _); first | exact True.intro | exact Or.inl rfl | exact Or.inr rfl | (show (_ : Int) = 0 ∨ _ = 1)) | refine And.intro ?_ ?_ | intro _ | with_reducible exact True.intro | exact rfl | with_reducible exact Or.inl rfl | with_reducible exact Or.inr rfl | exact Nat.le_of_ble_eq_true rfl)
    all_goals (try simp (disch := omega) only [InI, Int.toNat_natCast, Int.tmod_eq_emod_of_nonneg, Int.tdiv_eq_ediv_of_nonneg, true_implies, true_or, or_true, mm_l18, mm_l19, mm_l20, mm_l21, mm_l22] at *)
    all_goals first | omega | exact ⟨M0, d0, n, hs, ⟨by omega, by omega⟩, fun M' d' h => k10 M' d' (by rw [e3] at h; exact h)⟩ | skip
  · exact h.elim
theorem je_aappC {l : Launch} : mm_Jet l yJ_aappC prog_8_method_31_code 2 (some (.object "java/lang/AbstractStringBuilder")) 9 170 19 sp_J_aappC := mm_mtJ (own := "java/lang/AbstractStringBuilder") rn_J_aappC ⟨by decide +kernel, rfl⟩ kkJ_aappC rfl ⟨by decide, by decide⟩ flJ_aappC_k (⟨mm_semV (C := RXB) (T := TXB) (N := 4) (x := ⟨"java/lang/AbstractStringBuilder", "ensureCapacityInternal", "(I)V"⟩) (je_ensure (l := l)) jw_ensure (mm_t4 226 rfl rfl) (mm_t4 228 rfl rfl) (Or.inr ⟨by decide, rfl⟩) (by decide +kernel) (Nat.le_of_ble_eq_true rfl) (Nat.le_of_ble_eq_true rfl) (Or.inl ⟨rfl, rfl, fun _ _ h => h _ (List.mem_append_right _ (by decide +kernel))⟩), mm_semV (C := RXB) (T := TXB) (N := 4) (x := ⟨"java/lang/AbstractStringBuilder", "isLatin1", "()Z"⟩) (je_isLatin1 (l := l)) jw_isLatin1 (mm_t5 21 rfl rfl) (mm_t5 22 rfl rfl) (Or.inr ⟨by decide, rfl⟩) (by decide +kernel) (Nat.le_of_ble_eq_true rfl) (Nat.le_of_ble_eq_true rfl) (Or.inl ⟨rfl, rfl, fun _ _ h => h _ (mm_T_U _ (mm_t5 24 rfl rfl))⟩), mm_semS (je_canEncode (l := l)) jw_canEncode (mm_t5 26 rfl rfl) (mm_t5 27 rfl rfl) (by decide +kernel) (Nat.le_of_ble_eq_true rfl) (Nat.le_of_ble_eq_true rfl), trivial⟩) (by decide)
def kdJ_bappC : List mm_E := [(0, .aload_n 0, 0), (1, .iload_n 1, 0), (2, .invokespecial 50, 0), (5, .pop, 0), (6, .aload_n 0, 0), (7, .areturn, 0)]
theorem kkJ_bappC : mm_chk prog_17_method_14_code kdJ_bappC = true := mm_fck 0 (by decide +kernel)
def yJ_bappC : MethodName := ⟨"java/lang/StringBuilder", "append", "(C)Ljava/lang/StringBuilder;"⟩
theorem jw_bappC : mm_JW yJ_bappC prog_17_method_14_code 2 (some (.object "java/lang/StringBuilder")) := ⟨(mm_t4 222 rfl rfl), (mm_t1 13 rfl rfl), ⟨by decide, by decide⟩⟩
def sp_J_bappC : mm_S := fun av M d Q => match av with
  | [.inr (.inr (.inl b)), .inl c] =>  ∃ M0 d0 n, sC M0 d0 M d b n 0 ∧ n ≤ 100 ∧ (0 ≤ c ∧ c ≤ 255) ∧ ∀ M' d', sC M0 d0 M' d' b (n + 1) 0 → Q (.inl (some (mm_R b))) M' d'
  | _ => False
def ct_J_bappC : List (Nat × mm_Ca) := [(50, (2, 2, 16, sp_J_aappC, 19))]
def flJ_bappC : List (Nat × Nat × Nat) := []
theorem flJ_bappC_k : ∀ q ∈ flJ_bappC, mm_lj "java/lang/StringBuilder" mm_U q.2.1 q.2.2 q.1 := fun _ h => nomatch h
abbrev rr_J_bappC (Q : mm_Q) := mm_run (mm_look flJ_bappC) (mm_look ct_J_bappC) mm_x0 (mm_look ([] : List (Nat × Int))) (fun _ => none) 4 19 (fun _ _ => none) Q kdJ_bappC
set_option maxRecDepth 20000 in
theorem rn_J_bappC : mm_RN flJ_bappC ct_J_bappC mm_x0 [] 4 19 2 kdJ_bappC sp_J_bappC := by
  intro av M d Q h
  unfold sp_J_bappC at h
  split at h
  · rename_i b c
    obtain ⟨M0, d0, n, hs, hn, hc, hq⟩ := h
    have hb := hs.2.1.1
    obtain ⟨K, hK, hK2⟩ : ∃ K : Nat → mm_K, (∀ t ls st M d u, K t ls st M d u → rr_J_bappC Q t ls st M d u) ∧ (∀ t ls st M d u, rr_J_bappC Q t ls st M d u → K t ls st M d u) := ⟨rr_J_bappC Q, fun _ _ _ _ _ _ h => h, fun _ _ _ _ _ _ h => h⟩
    have k5 : ∀ M' d', sC M0 d0 M' d' b (n + 1) 0 → K 5 [some (mm_R b), some (mm_I c)] [mm_R b] M' d' 19 := by
      intro M' d' h
      have fin := hq _ _ h
      refine hK2 _ _ _ _ _ _ ?_
      refine mm_run_at (stop := []) (S := K) kkJ_bappC 90 ?_ (fun _ _ _ _ _ _ _ h => hK _ _ _ _ _ _ h)
      repeat' (first | with_reducible assumption | ((with_reducible show mm_rv _ _ _ _ _); first | exact True.intro) | ((with_reducible show mm_bool _ _); first | exact True.intro | exact Or.inl rfl | exact Or.inr rfl | (show (_ : Int) = 0 ∨ _ = 1)) | refine And.intro ?_ ?_ | intro _ | with_reducible exact True.intro | exact rfl | with_reducible exact Or.inl rfl | with_reducible exact Or.inr rfl | exact Nat.le_of_ble_eq_true rfl)
      all_goals (try simp (disch := omega) only [InI, Int.toNat_natCast, Int.tmod_eq_emod_of_nonneg, Int.tdiv_eq_ediv_of_nonneg, true_implies, true_or, or_true, mm_l18, mm_l19, mm_l20, mm_l21, mm_l22] at *)
      all_goals first | omega | skip
    refine ⟨Nat.le_of_ble_eq_true rfl, ?_⟩
    refine mm_run_at (stop := [5]) (S := K) kkJ_bappC 90 ?_ (fun _ _ _ _ _ _ _ h => hK _ _ _ _ _ _ h)
    refine mj5 rfl (Nat.le_of_ble_eq_true rfl) (by exact hb) (Nat.le_of_ble_eq_true rfl) (Nat.le_of_ble_eq_true rfl) ⟨M0, d0, n, hs, hn, hc, fun M' d' h => k5 M' d' h⟩
  · exact h.elim
theorem je_bappC {l : Launch} : mm_Jet l yJ_bappC prog_17_method_14_code 2 (some (.object "java/lang/StringBuilder")) 10 191 19 sp_J_bappC := mm_mtJ (own := "java/lang/StringBuilder") rn_J_bappC ⟨by decide +kernel, rfl⟩ kkJ_bappC rfl ⟨by decide, by decide⟩ flJ_bappC_k (⟨mm_semV (C := RXB) (T := TXB) (N := 4) (x := ⟨"java/lang/AbstractStringBuilder", "append", "(C)Ljava/lang/AbstractStringBuilder;"⟩) (je_aappC (l := l)) jw_aappC (mm_t4 223 rfl rfl) (mm_t4 224 rfl rfl) (Or.inr ⟨by decide, rfl⟩) (by decide +kernel) (Nat.le_of_ble_eq_true rfl) (Nat.le_of_ble_eq_true rfl) (Or.inr (Or.inr (Or.inr ⟨rfl, rfl, by decide, (mm_t8 65 rfl rfl), (mm_t4 218 rfl rfl), 4, (mm_t4 189 rfl rfl)⟩))), trivial⟩) (by decide)
def kdJ_aappI : List mm_E := [(0, .aload_n 0, 0), (1, .getfield 79, 0), (4, .istore_n 2, 0), (5, .iload_n 2, 0), (6, .iload_n 1, 0), (7, .invokestatic 245, 0), (10, .iadd, 0), (11, .istore_n 3, 0), (12, .aload_n 0, 0), (13, .iload_n 3, 0), (14, .invokevirtual 100, 0), (17, .aload_n 0, 0), (18, .invokevirtual 83, 0), (21, .ifCond .eq 16, 37), (24, .iload_n 1, 0), (25, .iload_n 3, 0), (26, .aload_n 0, 0), (27, .getfield 15, 0), (30, .invokestatic 248, 0), (33, .pop, 0), (34, .goto 14, 48), (37, .iload_n 1, 0), (38, .iload_n 2, 0), (39, .iload_n 3, 0), (40, .aload_n 0, 0), (41, .getfield 15, 0), (44, .invokestatic 251, 0), (47, .pop, 0), (48, .aload_n 0, 0), (49, .iload_n 3, 0), (50, .putfield 79, 0), (53, .aload_n 0, 0), (54, .areturn, 0)]
theorem kkJ_aappI : mm_chk prog_8_method_32_code kdJ_aappI = true := mm_fck 0 (by decide +kernel)
def yJ_aappI : MethodName := ⟨"java/lang/AbstractStringBuilder", "append", "(I)Ljava/lang/AbstractStringBuilder;"⟩
theorem jw_aappI : mm_JW yJ_aappI prog_8_method_32_code 4 (some (.object "java/lang/AbstractStringBuilder")) := ⟨(mm_t5 85 rfl rfl), (mm_t1 12 rfl rfl), ⟨by decide, by decide⟩⟩
def sp_J_aappI : mm_S := fun av M d Q => match av with
  | [.inr (.inr (.inl b)), .inl x] =>  ∃ M0 d0 n, sC M0 d0 M d b n 0 ∧ n ≤ 100 ∧ (0 ≤ x ∧ x < 100) ∧ ∀ M' d' n', n' ≤ n + 2 → sC M0 d0 M' d' b n' 0 → Q (.inl (some (mm_R b))) M' d'
  | _ => False
def ct_J_aappI : List (Nat × mm_Ca) := [(245, (1, 1, 0, sp_J_stringSize, 0)), (100, (0, 2, 16, sp_J_ensure, 19)), (83, (0, 1, 16, sp_J_isLatin1, 0)), (248, (1, 3, 0, sp_J_getChars, 0))]
def flJ_aappI : List (Nat × Nat × Nat) := [(15, 16, 0), (79, 16, 3), (3, 0, 90)]
theorem flJ_aappI_k : ∀ q ∈ flJ_aappI, mm_lj "java/lang/AbstractStringBuilder" mm_U q.2.1 q.2.2 q.1 := by
  intro q hq
  simp only [flJ_aappI, List.mem_cons, List.not_mem_nil, or_false] at hq
  rcases hq with rfl | rfl | rfl
  · exact Or.inl ⟨by decide, Or.inl (mm_T_U _ (mm_t4 206 rfl rfl))⟩
  · exact Or.inl ⟨by decide, Or.inl (mm_T_U _ (mm_t4 209 rfl rfl))⟩
  · exact Or.inr ⟨by decide, (List.forall_mem_cons.mpr ⟨mm_T_U _ (mm_t4 196 rfl rfl), (List.forall_mem_cons.mpr ⟨mm_T_U _ (mm_t1 29 rfl rfl), (List.forall_mem_cons.mpr ⟨mm_T_U _ (mm_t1 30 rfl rfl), (fun _ h => nomatch h)⟩)⟩)⟩), (fun h => absurd h (by decide)), (fun h => absurd h (by decide))⟩
abbrev rr_J_aappI (Q : mm_Q) := mm_run (mm_look flJ_aappI) (mm_look ct_J_aappI) mm_x0 (mm_look ([] : List (Nat × Int))) (fun _ => none) 4 19 (fun _ _ => none) Q kdJ_aappI
set_option maxRecDepth 20000 in
theorem rn_J_aappI : mm_RN flJ_aappI ct_J_aappI mm_x0 [] 4 19 4 kdJ_aappI sp_J_aappI := by
  intro av M d Q h
  unfold sp_J_aappI at h
  split at h
  · rename_i b x
    obtain ⟨M0, d0, n, hs, hn, hx, hq⟩ := h
    have hn0 := hs.2.2.2.2.1
    have e3 := hs.2.2.2.1
    have hb := hs.2.1.1
    obtain ⟨K, hK, hK2⟩ : ∃ K : Nat → mm_K, (∀ t ls st M d u, K t ls st M d u → rr_J_aappI Q t ls st M d u) ∧ (∀ t ls st M d u, rr_J_aappI Q t ls st M d u → K t ls st M d u) := ⟨rr_J_aappI Q, fun _ _ _ _ _ _ h => h, fun _ _ _ _ _ _ h => h⟩
    have k17 : ∀ M' d' (n2 : Int), ((x < 10 → n2 = n + 1) ∧ (10 ≤ x → n2 = n + 2)) → sC M0 d0 M' d' b n n2 → K 17 [some (mm_R b), some (mm_I x), some (mm_I n), some (mm_I n2)] [] M' d' 19 := by
      intro M' d' n2 hn2 h
      have hn3 : n + 1 ≤ n2 ∧ n2 ≤ n + 2 := by omega
      have hb := h.2.1.1
      have e1 := h.2.2.1
      have ha := h.2.2.2.2.2.1
      have ha1 := ha.1
      have ha0 : (M' b 0).toNat ≠ 0 := mm_is0 ha1
      have l1 := h.2.2.2.2.2.2.1
      have l2 := h.2.2.2.2.2.2.2.1
      have l3 := h.2.2.2.2.2.2.2.2
      have s2 : ∀ h9, sC M0 d0 (mm_up (mm_any M' (M' b 0).toNat h9) b 3 n2) d' b n2 n2 := fun h9 => (h.row ha (by decide) mm_any_o).cnt ⟨by omega, by omega⟩
      have fin := fun h9 => hq _ _ n2 (by omega) ((s2 h9).w (Or.inr (by omega)))
      have k48 : ∀ h9, K 48 [some (mm_R b), some (mm_I x), some (mm_I n), some (mm_I n2)] [] (mm_any M' (M' b 0).toNat h9) d' 19 := by
        intro h9
        have fin := fin h9
        have hb2 := isY (h9 := h9) hb ha0
        refine hK2 _ _ _ _ _ _ ?_
        refine mm_run_at (stop := []) (S := K) kkJ_aappI 90 ?_ (fun _ _ _ _ _ _ _ h => hK _ _ _ _ _ _ h)
        repeat' (first | with_reducible assumption | ((with_reducible show mm_rv _ _ _ _ _); first | exact True.intro) | ((with_reducible show mm_bool _ _); first | exact True.intro | exact Or.inl rfl | exact Or.inr rfl | (show (_ : Int) = 0 ∨ _ = 1)) | refine And.intro ?_ ?_ | intro _ | with_reducible exact True.intro | exact rfl | with_reducible exact Or.inl rfl | with_reducible exact Or.inr rfl | exact Nat.le_of_ble_eq_true rfl)
        all_goals (try simp (disch := omega) only [InI, Int.toNat_natCast, Int.tmod_eq_emod_of_nonneg, Int.tdiv_eq_ediv_of_nonneg, true_implies, true_or, or_true, mm_l18, mm_l19, mm_l20, mm_l21, mm_l22] at *)
        all_goals first | omega | skip
      refine hK2 _ _ _ _ _ _ ?_
      refine mm_run_at (stop := [48]) (S := K) kkJ_aappI 90 ?_ (fun _ _ _ _ _ _ _ h => hK _ _ _ _ _ _ h)
      repeat' (first | with_reducible assumption | ((with_reducible show mm_rv _ _ _ _ _); first | exact True.intro | exact hb) | exact hb | ((with_reducible show mm_bool _ _); first | exact True.intro | exact Or.inl rfl | exact Or.inr rfl | (show (_ : Int) = 0 ∨ _ = 1)) | refine And.intro ?_ ?_ | intro _ | with_reducible exact True.intro | exact rfl | with_reducible exact Or.inl rfl | with_reducible exact Or.inr rfl | exact Nat.le_of_ble_eq_true rfl)
      all_goals (try simp (disch := omega) only [e1, InI, Int.toNat_natCast, Int.tmod_eq_emod_of_nonneg, Int.tdiv_eq_ediv_of_nonneg, true_implies, true_or, or_true, mm_l18, mm_l19, mm_l20, mm_l21, mm_l22] at *)
      all_goals first | omega | exact k48 _ | skip
    have k10 : ∀ w : Int, ((x < 10 → w = 1) ∧ (10 ≤ x → w = 2)) → K 10 [some (mm_R b), some (mm_I x), some (mm_I n), none] [mm_I w, mm_I n] M d 0 := by
      intro w hw
      refine hK2 _ _ _ _ _ _ ?_
      refine mm_run_at (stop := [17]) (S := K) kkJ_aappI 90 ?_ (fun _ _ _ _ _ _ _ h => hK _ _ _ _ _ _ h)
      repeat' (first | with_reducible assumption | ((with_reducible show mm_rv _ _ _ _ _); first | exact True.intro | exact hb) | exact hb | ((with_reducible show mm_bool _ _); first | exact True.intro | exact Or.inl rfl | exact Or.inr rfl | (show (_ : Int) = 0 ∨ _ = 1)) | refine And.intro ?_ ?_ | intro _ | with_reducible exact True.intro | exact rfl | with_reducible exact Or.inl rfl | with_reducible exact Or.inr rfl | exact Nat.le_of_ble_eq_true rfl)
      all_goals (try simp (disch := omega) only [InI, Int.toNat_natCast, Int.tmod_eq_emod_of_nonneg, Int.tdiv_eq_ediv_of_nonneg, true_implies, true_or, or_true, mm_l18, mm_l19, mm_l20, mm_l21, mm_l22] at *)
      all_goals first | omega | exact ⟨M0, d0, n, hs, ⟨by omega, by omega⟩, fun M' d' h => k17 M' d' _ ⟨fun _ => by omega, fun _ => by omega⟩ h⟩ | skip
    refine ⟨Nat.le_of_ble_eq_true rfl, ?_⟩
    refine mm_run_at (stop := [10]) (S := K) kkJ_aappI 90 ?_ (fun _ _ _ _ _ _ _ h => hK _ _ _ _ _ _ h)
    repeat' (first | with_reducible assumption | ((with_reducible show mm_rv _ _ _ _ _); first | exact True.intro | exact hb) | exact hb | ((with_reducible show mm_bool _ _); first | exact True.intro | exact Or.inl rfl | exact Or.inr rfl | (show (_ : Int) = 0 ∨ _ = 1)) | refine And.intro ?_ ?_ | intro _ | with_reducible exact True.intro | exact rfl | with_reducible exact Or.inl rfl | with_reducible exact Or.inr rfl | exact Nat.le_of_ble_eq_true rfl)
    all_goals (try simp (disch := omega) only [InI, Int.toNat_natCast, Int.tmod_eq_emod_of_nonneg, Int.tdiv_eq_ediv_of_nonneg, true_implies, true_or, or_true, mm_l18, mm_l19, mm_l20, mm_l21, mm_l22] at *)
    all_goals first | omega | (rw [e3]; exact k10 _ (by assumption)) | (rw [e3]; exact k10 _ ⟨by assumption, by assumption⟩) | skip
  · exact h.elim
theorem je_aappI {l : Launch} : mm_Jet l yJ_aappI prog_8_method_32_code 4 (some (.object "java/lang/AbstractStringBuilder")) 9 170 19 sp_J_aappI := mm_mtJ (own := "java/lang/AbstractStringBuilder") rn_J_aappI ⟨by decide +kernel, rfl⟩ kkJ_aappI rfl ⟨by decide, by decide⟩ flJ_aappI_k (⟨mm_semS (je_stringSize (l := l)) jw_stringSize (mm_t5 86 rfl rfl) (mm_t5 87 rfl rfl) (by decide +kernel) (Nat.le_of_ble_eq_true rfl) (Nat.le_of_ble_eq_true rfl), mm_semV (C := RXB) (T := TXB) (N := 4) (x := ⟨"java/lang/AbstractStringBuilder", "ensureCapacityInternal", "(I)V"⟩) (je_ensure (l := l)) jw_ensure (mm_t4 226 rfl rfl) (mm_t4 228 rfl rfl) (Or.inr ⟨by decide, rfl⟩) (by decide +kernel) (Nat.le_of_ble_eq_true rfl) (Nat.le_of_ble_eq_true rfl) (Or.inl ⟨rfl, rfl, fun _ _ h => h _ (List.mem_append_right _ (by decide +kernel))⟩), mm_semV (C := RXB) (T := TXB) (N := 4) (x := ⟨"java/lang/AbstractStringBuilder", "isLatin1", "()Z"⟩) (je_isLatin1 (l := l)) jw_isLatin1 (mm_t5 21 rfl rfl) (mm_t5 22 rfl rfl) (Or.inr ⟨by decide, rfl⟩) (by decide +kernel) (Nat.le_of_ble_eq_true rfl) (Nat.le_of_ble_eq_true rfl) (Or.inl ⟨rfl, rfl, fun _ _ h => h _ (mm_T_U _ (mm_t5 24 rfl rfl))⟩), mm_semS (je_getChars (l := l)) jw_getChars (mm_t5 89 rfl rfl) (mm_t5 90 rfl rfl) (by decide +kernel) (Nat.le_of_ble_eq_true rfl) (Nat.le_of_ble_eq_true rfl), trivial⟩) (by decide)
def kdJ_bappI : List mm_E := [(0, .aload_n 0, 0), (1, .iload_n 1, 0), (2, .invokespecial 53, 0), (5, .pop, 0), (6, .aload_n 0, 0), (7, .areturn, 0)]
theorem kkJ_bappI : mm_chk prog_17_method_15_code kdJ_bappI = true := mm_fck 0 (by decide +kernel)
def yJ_bappI : MethodName := ⟨"java/lang/StringBuilder", "append", "(I)Ljava/lang/StringBuilder;"⟩
theorem jw_bappI : mm_JW yJ_bappI prog_17_method_15_code 2 (some (.object "java/lang/StringBuilder")) := ⟨(mm_t5 82 rfl rfl), (mm_t1 13 rfl rfl), ⟨by decide, by decide⟩⟩
def sp_J_bappI : mm_S := fun av M d Q => match av with
  | [.inr (.inr (.inl b)), .inl x] =>  ∃ M0 d0 n, sC M0 d0 M d b n 0 ∧ n ≤ 100 ∧ (0 ≤ x ∧ x < 100) ∧ ∀ M' d' n', n' ≤ n + 2 → sC M0 d0 M' d' b n' 0 → Q (.inl (some (mm_R b))) M' d'
  | _ => False
def ct_J_bappI : List (Nat × mm_Ca) := [(53, (2, 2, 16, sp_J_aappI, 19))]
def flJ_bappI : List (Nat × Nat × Nat) := []
theorem flJ_bappI_k : ∀ q ∈ flJ_bappI, mm_lj "java/lang/StringBuilder" mm_U q.2.1 q.2.2 q.1 := fun _ h => nomatch h
abbrev rr_J_bappI (Q : mm_Q) := mm_run (mm_look flJ_bappI) (mm_look ct_J_bappI) mm_x0 (mm_look ([] : List (Nat × Int))) (fun _ => none) 4 19 (fun _ _ => none) Q kdJ_bappI
set_option maxRecDepth 20000 in
theorem rn_J_bappI : mm_RN flJ_bappI ct_J_bappI mm_x0 [] 4 19 2 kdJ_bappI sp_J_bappI := by
  intro av M d Q h
  unfold sp_J_bappI at h
  split at h
  · rename_i b x
    obtain ⟨M0, d0, n, hs, hn, hx, hq⟩ := h
    have hb := hs.2.1.1
    obtain ⟨K, hK, hK2⟩ : ∃ K : Nat → mm_K, (∀ t ls st M d u, K t ls st M d u → rr_J_bappI Q t ls st M d u) ∧ (∀ t ls st M d u, rr_J_bappI Q t ls st M d u → K t ls st M d u) := ⟨rr_J_bappI Q, fun _ _ _ _ _ _ h => h, fun _ _ _ _ _ _ h => h⟩
    have k5 : ∀ M' d' n', n' ≤ n + 2 → sC M0 d0 M' d' b n' 0 → K 5 [some (mm_R b), some (mm_I x)] [mm_R b] M' d' 19 := by
      intro M' d' n' hn' h
      have fin := hq _ _ _ hn' h
      refine hK2 _ _ _ _ _ _ ?_
      refine mm_run_at (stop := []) (S := K) kkJ_bappI 90 ?_ (fun _ _ _ _ _ _ _ h => hK _ _ _ _ _ _ h)
      repeat' (first | with_reducible assumption | ((with_reducible show mm_rv _ _ _ _ _); first | exact True.intro) | ((with_reducible show mm_bool _ _); first | exact True.intro | exact Or.inl rfl | exact Or.inr rfl | (show (_ : Int) = 0 ∨ _ = 1)) | refine And.intro ?_ ?_ | intro _ | with_reducible exact True.intro | exact rfl | with_reducible exact Or.inl rfl | with_reducible exact Or.inr rfl | exact Nat.le_of_ble_eq_true rfl)
      all_goals (try simp (disch := omega) only [InI, Int.toNat_natCast, Int.tmod_eq_emod_of_nonneg, Int.tdiv_eq_ediv_of_nonneg, true_implies, true_or, or_true, mm_l18, mm_l19, mm_l20, mm_l21, mm_l22] at *)
      all_goals first | omega | skip
    refine ⟨Nat.le_of_ble_eq_true rfl, ?_⟩
    refine mm_run_at (stop := [5]) (S := K) kkJ_bappI 90 ?_ (fun _ _ _ _ _ _ _ h => hK _ _ _ _ _ _ h)
    refine mj5 rfl (Nat.le_of_ble_eq_true rfl) (by exact hb) (Nat.le_of_ble_eq_true rfl) (Nat.le_of_ble_eq_true rfl) ⟨M0, d0, n, hs, hn, hx, fun M' d' n' h9 h => k5 M' d' n' h9 h⟩
  · exact h.elim
theorem je_bappI {l : Launch} : mm_Jet l yJ_bappI prog_17_method_15_code 2 (some (.object "java/lang/StringBuilder")) 10 193 19 sp_J_bappI := mm_mtJ (own := "java/lang/StringBuilder") rn_J_bappI ⟨by decide +kernel, rfl⟩ kkJ_bappI rfl ⟨by decide, by decide⟩ flJ_bappI_k (⟨mm_semV (C := RXB) (T := TXB) (N := 4) (x := ⟨"java/lang/AbstractStringBuilder", "append", "(I)Ljava/lang/AbstractStringBuilder;"⟩) (je_aappI (l := l)) jw_aappI (mm_t5 83 rfl rfl) (mm_t5 84 rfl rfl) (Or.inr ⟨by decide, rfl⟩) (by decide +kernel) (Nat.le_of_ble_eq_true rfl) (Nat.le_of_ble_eq_true rfl) (Or.inr (Or.inr (Or.inr ⟨rfl, rfl, by decide, (mm_t8 69 rfl rfl), (mm_t4 218 rfl rfl), 4, (mm_t4 189 rfl rfl)⟩))), trivial⟩) (by decide)
def kdJ_aappS : List mm_E := [(0, .aload_n 1, 0), (1, .ifnonnull 8, 9), (4, .aload_n 0, 0), (5, .invokevirtual 204, 0), (8, .areturn, 0), (9, .aload_n 1, 0), (10, .invokevirtual 32, 0), (13, .istore_n 2, 0), (14, .aload_n 0, 0), (15, .aload_n 0, 0), (16, .getfield 79, 0), (19, .iload_n 2, 0), (20, .iadd, 0), (21, .invokevirtual 100, 0), (24, .aload_n 0, 0), (25, .aload_n 0, 0), (26, .getfield 79, 0), (29, .aload_n 1, 0), (30, .invokevirtual 208, 0), (33, .aload_n 0, 0), (34, .dup, 0), (35, .getfield 79, 0), (38, .iload_n 2, 0), (39, .iadd, 0), (40, .putfield 79, 0), (43, .aload_n 0, 0), (44, .areturn, 0)]
theorem kkJ_aappS : mm_chk prog_8_method_22_code kdJ_aappS = true := mm_fck 0 (by decide +kernel)
def yJ_aappS : MethodName := ⟨"java/lang/AbstractStringBuilder", "append", "(Ljava/lang/String;)Ljava/lang/AbstractStringBuilder;"⟩
theorem jw_aappS : mm_JW yJ_aappS prog_8_method_22_code 3 (some (.object "java/lang/AbstractStringBuilder")) := ⟨(mm_t5 160 rfl rfl), (mm_t1 12 rfl rfl), ⟨by decide, by decide⟩⟩
def sp_J_aappS : mm_S := fun av M d Q => match av with
  | [.inr (.inr (.inl b)), .inr (.inr (.inl t))] =>  t = 28 ∧ ∃ M0 d0 n, sC M0 d0 M d b n 0 ∧ n ≤ 100 ∧ ∀ M' d', sC M0 d0 M' d' b (n + 1) 0 → Q (.inl (some (mm_R b))) M' d'
  | _ => False
def ct_J_aappS : List (Nat × mm_Ca) := [(32, (0, 1, 6, sp_J_slength, 0)), (100, (0, 2, 16, sp_J_ensure, 19)), (208, (0, 3, 16, sp_J_putStringAt, 0))]
def flJ_aappS : List (Nat × Nat × Nat) := [(79, 16, 3)]
theorem flJ_aappS_k : ∀ q ∈ flJ_aappS, mm_lj "java/lang/AbstractStringBuilder" mm_U q.2.1 q.2.2 q.1 := by
  intro q hq
  simp only [flJ_aappS, List.mem_cons, List.not_mem_nil, or_false] at hq
  subst hq
  · exact Or.inl ⟨by decide, Or.inl (mm_T_U _ (mm_t4 209 rfl rfl))⟩
abbrev rr_J_aappS (Q : mm_Q) := mm_run (mm_look flJ_aappS) (mm_look ct_J_aappS) mm_x0 (mm_look ([] : List (Nat × Int))) (fun _ => none) 4 19 (fun _ _ => none) Q kdJ_aappS
set_option maxRecDepth 20000 in
theorem rn_J_aappS : mm_RN flJ_aappS ct_J_aappS mm_x0 [] 4 19 3 kdJ_aappS sp_J_aappS := by
  intro av M d Q h
  unfold sp_J_aappS at h
  split at h
  · rename_i b t
    obtain ⟨rfl, M0, d0, n, hs, hn, hq⟩ := h
    have hn0 := hs.2.2.2.2.1
    have e3 := hs.2.2.2.1
    have hb := hs.2.1.1
    obtain ⟨K, hK, hK2⟩ : ∃ K : Nat → mm_K, (∀ t ls st M d u, K t ls st M d u → rr_J_aappS Q t ls st M d u) ∧ (∀ t ls st M d u, rr_J_aappS Q t ls st M d u → K t ls st M d u) := ⟨rr_J_aappS Q, fun _ _ _ _ _ _ h => h, fun _ _ _ _ _ _ h => h⟩
    have k24 : ∀ M' d', sC M0 d0 M' d' b n (n + 1) → K 24 [some (mm_R b), some (mm_R 28), some (mm_I 1)] [] M' d' 19 := by
      intro M' d' h
      have hb := h.2.1.1
      have e1 := h.2.2.1
      have e3 := h.2.2.2.1
      have ha := h.2.2.2.2.2.1
      have ha1 := ha.1
      have ha0 : (M' b 0).toNat ≠ 0 := mm_is0 ha1
      have l1 := h.2.2.2.2.2.2.1
      have l2 := h.2.2.2.2.2.2.2.1
      have l3 := h.2.2.2.2.2.2.2.2
      have s2 : ∀ h9, sC M0 d0 (mm_up (mm_any M' (M' b 0).toNat h9) b 3 (n + 1)) d' b (n + 1) (n + 1) := fun h9 => (h.row ha (by decide) mm_any_o).cnt ⟨by omega, by omega⟩
      have fin := fun h9 => hq _ _ ((s2 h9).w (Or.inr (by omega)))
      have k33 : ∀ h9, K 33 [some (mm_R b), some (mm_R 28), some (mm_I 1)] [] (mm_any M' (M' b 0).toNat h9) d' 19 := by
        intro h9
        have fin := fin h9
        have hb2 := isY (h9 := h9) hb ha0
        have e4 : mm_any M' (M' b 0).toNat h9 b 3 = n := by rw [mm_any_o b (h.2.1.ne ha (by decide))]; exact e3
        rw [← e4] at fin
        refine hK2 _ _ _ _ _ _ ?_
        refine mm_run_at (stop := []) (S := K) kkJ_aappS 90 ?_ (fun _ _ _ _ _ _ _ h => hK _ _ _ _ _ _ h)
        repeat' (first | with_reducible assumption | ((with_reducible show mm_rv _ _ _ _ _); first | exact True.intro) | ((with_reducible show mm_bool _ _); first | exact True.intro | exact Or.inl rfl | exact Or.inr rfl | (show (_ : Int) = 0 ∨ _ = 1)) | refine And.intro ?_ ?_ | intro _ | with_reducible exact True.intro | exact rfl | with_reducible exact Or.inl rfl | with_reducible exact Or.inr rfl | exact Nat.le_of_ble_eq_true rfl)
        all_goals (try simp (disch := omega) only [InI, Int.toNat_natCast, Int.tmod_eq_emod_of_nonneg, Int.tdiv_eq_ediv_of_nonneg, true_implies, true_or, or_true, mm_l18, mm_l19, mm_l20, mm_l21, mm_l22] at *)
        all_goals first | omega | skip
      refine hK2 _ _ _ _ _ _ ?_
      refine mm_run_at (stop := [33]) (S := K) kkJ_aappS 90 ?_ (fun _ _ _ _ _ _ _ h => hK _ _ _ _ _ _ h)
      repeat' (first | with_reducible assumption | ((with_reducible show mm_rv _ _ _ _ _); first | exact True.intro | exact hb) | exact hb | ((with_reducible show mm_bool _ _); first | exact True.intro | exact Or.inl rfl | exact Or.inr rfl | (show (_ : Int) = 0 ∨ _ = 1)) | refine And.intro ?_ ?_ | intro _ | with_reducible exact True.intro | exact rfl | with_reducible exact Or.inl rfl | with_reducible exact Or.inr rfl | exact Nat.le_of_ble_eq_true rfl)
      all_goals (try simp (disch := omega) only [e1, e3, InI, Int.toNat_natCast, Int.tmod_eq_emod_of_nonneg, Int.tdiv_eq_ediv_of_nonneg, true_implies, true_or, or_true, mm_l18, mm_l19, mm_l20, mm_l21, mm_l22] at *)
      all_goals first | omega | exact k33 _ | skip
    refine ⟨Nat.le_of_ble_eq_true rfl, ?_⟩
    refine mm_run_at (stop := [24]) (S := K) kkJ_aappS 90 ?_ (fun _ _ _ _ _ _ _ h => hK _ _ _ _ _ _ h)
    repeat' (first | with_reducible assumption | ((with_reducible show mm_rv _ _ _ _ _); first | exact True.intro | exact hb) | exact hb | ((with_reducible show mm_bool _ _); first | exact True.intro | exact Or.inl rfl | exact Or.inr rfl | (show (_ : Int) = 0 ∨ _ = 1)) | refine And.intro ?_ ?_ | intro _ | with_reducible exact True.intro | exact rfl | with_reducible exact Or.inl rfl | with_reducible exact Or.inr rfl | exact Nat.le_of_ble_eq_true rfl)
    all_goals (try simp (disch := omega) only [InI, Int.toNat_natCast, Int.tmod_eq_emod_of_nonneg, Int.tdiv_eq_ediv_of_nonneg, true_implies, true_or, or_true, mm_l18, mm_l19, mm_l20, mm_l21, mm_l22] at *)
    all_goals first | omega | (rename_i r hr; cases hr; exact ⟨M0, d0, n, hs, ⟨by omega, by omega⟩, fun M' d' h => k24 M' d' (by rw [e3] at h; exact h)⟩) | skip
  · exact h.elim
theorem je_aappS {l : Launch} : mm_Jet l yJ_aappS prog_8_method_22_code 3 (some (.object "java/lang/AbstractStringBuilder")) 9 170 19 sp_J_aappS := mm_mtJ (own := "java/lang/AbstractStringBuilder") rn_J_aappS ⟨by decide +kernel, rfl⟩ kkJ_aappS rfl ⟨by decide, by decide⟩ flJ_aappS_k (⟨mm_semV (C := RXS) (T := TXS) (N := 4) (x := ⟨"java/lang/String", "length", "()I"⟩) (je_slength (l := l)) jw_slength (mm_t5 168 rfl rfl) (mm_t5 169 rfl rfl) (Or.inl ⟨rfl, rfl⟩) (by decide +kernel) (Nat.le_of_ble_eq_true rfl) (Nat.le_of_ble_eq_true rfl) (Or.inl ⟨rfl, rfl, fun _ _ h => h _ (mm_T_U _ (mm_t5 170 rfl rfl))⟩), mm_semV (C := RXB) (T := TXB) (N := 4) (x := ⟨"java/lang/AbstractStringBuilder", "ensureCapacityInternal", "(I)V"⟩) (je_ensure (l := l)) jw_ensure (mm_t4 226 rfl rfl) (mm_t4 228 rfl rfl) (Or.inr ⟨by decide, rfl⟩) (by decide +kernel) (Nat.le_of_ble_eq_true rfl) (Nat.le_of_ble_eq_true rfl) (Or.inl ⟨rfl, rfl, fun _ _ h => h _ (List.mem_append_right _ (by decide +kernel))⟩), mm_semV (C := RXB) (T := TXB) (N := 4) (x := ⟨"java/lang/AbstractStringBuilder", "putStringAt", "(ILjava/lang/String;)V"⟩) (je_putStringAt (l := l)) jw_putStringAt (mm_t5 177 rfl rfl) (mm_t5 179 rfl rfl) (Or.inr ⟨by decide, rfl⟩) (by decide +kernel) (Nat.le_of_ble_eq_true rfl) (Nat.le_of_ble_eq_true rfl) (Or.inl ⟨rfl, rfl, fun _ _ h => h _ (List.mem_append_right _ (by decide +kernel))⟩), trivial⟩) (by decide)
def kdJ_bappS : List mm_E := [(0, .aload_n 0, 0), (1, .aload_n 1, 0), (2, .invokespecial 29, 0), (5, .pop, 0), (6, .aload_n 0, 0), (7, .areturn, 0)]
theorem kkJ_bappS : mm_chk prog_17_method_7_code kdJ_bappS = true := mm_fck 0 (by decide +kernel)
def yJ_bappS : MethodName := ⟨"java/lang/StringBuilder", "append", "(Ljava/lang/String;)Ljava/lang/StringBuilder;"⟩
theorem jw_bappS : mm_JW yJ_bappS prog_17_method_7_code 2 (some (.object "java/lang/StringBuilder")) := ⟨(mm_t5 157 rfl rfl), (mm_t1 13 rfl rfl), ⟨by decide, by decide⟩⟩
def sp_J_bappS : mm_S := fun av M d Q => match av with
  | [.inr (.inr (.inl b)), .inr (.inr (.inl t))] =>  t = 28 ∧ ∃ M0 d0 n, sC M0 d0 M d b n 0 ∧ n ≤ 100 ∧ ∀ M' d', sC M0 d0 M' d' b (n + 1) 0 → Q (.inl (some (mm_R b))) M' d'
  | _ => False
def ct_J_bappS : List (Nat × mm_Ca) := [(29, (2, 2, 16, sp_J_aappS, 19))]
def flJ_bappS : List (Nat × Nat × Nat) := []
theorem flJ_bappS_k : ∀ q ∈ flJ_bappS, mm_lj "java/lang/StringBuilder" mm_U q.2.1 q.2.2 q.1 := fun _ h => nomatch h
abbrev rr_J_bappS (Q : mm_Q) := mm_run (mm_look flJ_bappS) (mm_look ct_J_bappS) mm_x0 (mm_look ([] : List (Nat × Int))) (fun _ => none) 4 19 (fun _ _ => none) Q kdJ_bappS
set_option maxRecDepth 20000 in
theorem rn_J_bappS : mm_RN flJ_bappS ct_J_bappS mm_x0 [] 4 19 2 kdJ_bappS sp_J_bappS := by
  intro av M d Q h
  unfold sp_J_bappS at h
  split at h
  · rename_i b t
    obtain ⟨rfl, M0, d0, n, hs, hn, hq⟩ := h
    have hb := hs.2.1.1
    obtain ⟨K, hK, hK2⟩ : ∃ K : Nat → mm_K, (∀ t ls st M d u, K t ls st M d u → rr_J_bappS Q t ls st M d u) ∧ (∀ t ls st M d u, rr_J_bappS Q t ls st M d u → K t ls st M d u) := ⟨rr_J_bappS Q, fun _ _ _ _ _ _ h => h, fun _ _ _ _ _ _ h => h⟩
    have k5 : ∀ M' d', sC M0 d0 M' d' b (n + 1) 0 → K 5 [some (mm_R b), some (mm_R 28)] [mm_R b] M' d' 19 := by
      intro M' d' h
      have fin := hq _ _ h
      refine hK2 _ _ _ _ _ _ ?_
      refine mm_run_at (stop := []) (S := K) kkJ_bappS 90 ?_ (fun _ _ _ _ _ _ _ h => hK _ _ _ _ _ _ h)
      repeat' (first | with_reducible assumption | ((with_reducible show mm_rv _ _ _ _ _); first | exact True.intro) | ((with_reducible show mm_bool _ _); first | exact True.intro | exact Or.inl rfl | exact Or.inr rfl | (show (_ : Int) = 0 ∨ _ = 1)) | refine And.intro ?_ ?_ | intro _ | with_reducible exact True.intro | exact rfl | with_reducible exact Or.inl rfl | with_reducible exact Or.inr rfl | exact Nat.le_of_ble_eq_true rfl)
      all_goals (try simp (disch := omega) only [InI, Int.toNat_natCast, Int.tmod_eq_emod_of_nonneg, Int.tdiv_eq_ediv_of_nonneg, true_implies, true_or, or_true, mm_l18, mm_l19, mm_l20, mm_l21, mm_l22] at *)
      all_goals first | omega | skip
    refine ⟨Nat.le_of_ble_eq_true rfl, ?_⟩
    refine mm_run_at (stop := [5]) (S := K) kkJ_bappS 90 ?_ (fun _ _ _ _ _ _ _ h => hK _ _ _ _ _ _ h)
    refine mj5 rfl (Nat.le_of_ble_eq_true rfl) (by exact hb) (Nat.le_of_ble_eq_true rfl) (Nat.le_of_ble_eq_true rfl) ⟨rfl, M0, d0, n, hs, hn, fun M' d' h => k5 M' d' h⟩
  · exact h.elim
theorem je_bappS {l : Launch} : mm_Jet l yJ_bappS prog_17_method_7_code 2 (some (.object "java/lang/StringBuilder")) 10 192 19 sp_J_bappS := mm_mtJ (own := "java/lang/StringBuilder") rn_J_bappS ⟨by decide +kernel, rfl⟩ kkJ_bappS rfl ⟨by decide, by decide⟩ flJ_bappS_k (⟨mm_semV (C := RXB) (T := TXB) (N := 4) (x := ⟨"java/lang/AbstractStringBuilder", "append", "(Ljava/lang/String;)Ljava/lang/AbstractStringBuilder;"⟩) (je_aappS (l := l)) jw_aappS (mm_t5 158 rfl rfl) (mm_t5 159 rfl rfl) (Or.inr ⟨by decide, rfl⟩) (by decide +kernel) (Nat.le_of_ble_eq_true rfl) (Nat.le_of_ble_eq_true rfl) (Or.inr (Or.inr (Or.inr ⟨rfl, rfl, by decide, (mm_t8 70 rfl rfl), (mm_t4 218 rfl rfl), 4, (mm_t4 189 rfl rfl)⟩))), trivial⟩) (by decide)
def kdJ_sinit2 : List mm_E := [(0, .aload_n 0, 0), (1, .invokespecial 1, 0), (4, .aload_n 1, 0), (5, .invokevirtual 552, 0), (8, .astore_n 3, 0), (9, .aload_n 1, 0), (10, .invokevirtual 549, 0), (13, .istore 4, 0), (15, .aload_n 1, 0), (16, .invokevirtual 1047, 0), (19, .ifCond .eq 22, 41), (22, .aload_n 0, 0), (23, .iconst 0, 0), (24, .putfield 15, 0), (27, .aload_n 0, 0), (28, .aload_n 3, 0), (29, .iconst 0, 0), (30, .iload 4, 0), (32, .invokestatic 54, 0), (35, .putfield 9, 0), (38, .goto 59, 97), (41, .getstatic 38, 0), (44, .ifCond .eq 35, 79), (47, .aload_n 1, 0), (48, .getfield 1048, 0), (51, .ifCond .eq 28, 79), (54, .aload_n 0, 0), (55, .aload_n 3, 0), (56, .iconst 0, 0), (57, .iload 4, 0), (59, .invokestatic 1051, 0), (62, .putfield 9, 0), (65, .aload_n 0, 0), (66, .aload_n 0, 0), (67, .getfield 9, 0), (70, .iload 4, 0), (72, .invokestatic 47, 0), (75, .putfield 15, 0), (78, .return_, 0), (79, .aload_n 0, 0), (80, .iconst 1, 0), (81, .putfield 15, 0), (84, .aload_n 0, 0), (85, .aload_n 3, 0), (86, .iconst 0, 0), (87, .iload 4, 0), (89, .iconst 1, 0), (90, .ishl, 0), (91, .invokestatic 54, 0), (94, .putfield 9, 0), (97, .return_, 0)]
theorem kkJ_sinit2 : mm_chk prog_16_method_150_code kdJ_sinit2 = true := mm_fck 0 (by decide +kernel)
def yJ_sinit2 : MethodName := ⟨"java/lang/String", "<init>", "(Ljava/lang/AbstractStringBuilder;Ljava/lang/Void;)V"⟩
theorem jw_sinit2 : mm_JW yJ_sinit2 prog_16_method_150_code 5 none := ⟨(mm_t5 124 rfl rfl), (mm_t1 14 rfl rfl), ⟨by decide, by decide⟩⟩
def sp_J_sinit2 : mm_S := fun av M d Q => match av with
  | [.inr (.inr (.inl t)), .inr (.inr (.inl b)), .inr (.inr (.inl z))] =>  z = 0 ∧ ∃ M0 d0 n, sC M0 d0 M d b n 0 ∧ bO d0 M d t 17 ∧ ∀ M' d', bX M0 d0 M' d' → Q (.inl none) M' d'
  | _ => False
def ct_J_sinit2 : List (Nat × mm_Ca) := [(552, (0, 1, 16, sp_J_getValue, 0)), (549, (0, 1, 16, sp_J_blength, 0)), (1047, (0, 1, 16, sp_J_isLatin1, 0)), (54, (1, 3, 0, sp_J_copyOfRange, 19))]
def flJ_sinit2 : List (Nat × Nat × Nat) := [(38, 0, 98), (1, 0, 90), (9, 0, 91), (15, 1, 91)]
theorem flJ_sinit2_k : ∀ q ∈ flJ_sinit2, mm_lj "java/lang/String" mm_U q.2.1 q.2.2 q.1 := by
  intro q hq
  simp only [flJ_sinit2, List.mem_cons, List.not_mem_nil, or_false] at hq
  rcases hq with rfl | rfl | rfl | rfl
  · exact Or.inr ⟨by decide, (List.forall_mem_cons.mpr ⟨mm_T_U _ (mm_t5 176 rfl rfl), (fun _ h => nomatch h)⟩), (fun h => absurd h (by decide)), (fun h => absurd h (by decide))⟩
  · exact Or.inr ⟨by decide, (List.forall_mem_cons.mpr ⟨mm_T_U _ (mm_t5 125 rfl rfl), (List.forall_mem_cons.mpr ⟨mm_T_U _ (mm_t1 29 rfl rfl), (List.forall_mem_cons.mpr ⟨mm_T_U _ (mm_t1 30 rfl rfl), (fun _ h => nomatch h)⟩)⟩)⟩), (fun h => absurd h (by decide)), (fun h => absurd h (by decide))⟩
  · exact Or.inr ⟨by decide, (List.forall_mem_cons.mpr ⟨mm_T_U _ (mm_t5 207 rfl rfl), (fun _ h => nomatch h)⟩), (fun h => absurd h (by decide)), (fun _ => rfl)⟩
  · exact Or.inr ⟨by decide, (List.forall_mem_cons.mpr ⟨mm_T_U _ (mm_t5 208 rfl rfl), (fun _ h => nomatch h)⟩), (fun h => absurd h (by decide)), (fun _ => rfl)⟩
abbrev rr_J_sinit2 (Q : mm_Q) := mm_run (mm_look flJ_sinit2) (mm_look ct_J_sinit2) mm_x0 (mm_look ([] : List (Nat × Int))) (fun _ => none) 0 19 (fun _ _ => none) Q kdJ_sinit2
set_option maxRecDepth 20000 in
theorem rn_J_sinit2 : mm_RN flJ_sinit2 ct_J_sinit2 mm_x0 [] 0 19 5 kdJ_sinit2 sp_J_sinit2 := by
  intro av M d Q h
  unfold sp_J_sinit2 at h
  split at h
  · rename_i t b z
    obtain ⟨rfl, M0, d0, n, hs, ht, hq⟩ := h
    have hb := hs.2.1.1
    have ht1 := ht.1
    have ht0 : t ≠ 0 := mm_is0 ht1
    have e1 := hs.2.2.1
    have e3 := hs.2.2.2.1
    have n0 := hs.2.2.2.2.1
    have h1 := hs.1
    have ha := hs.2.2.2.2.2.1
    have ha1 := isU (i := 1) (x := 0) ha.1 ht0
    have l1 := hs.2.2.2.2.2.2.1
    have l3 := hs.2.2.2.2.2.2.2.2
    have la : mm_ln (mm_up M t 1 0) (M b 0).toNat = mm_ln M (M b 0).toNat := lnU ht0
    obtain ⟨K, hK, hK2⟩ : ∃ K : Nat → mm_K, (∀ t ls st M d u, K t ls st M d u → rr_J_sinit2 Q t ls st M d u) ∧ (∀ t ls st M d u, rr_J_sinit2 Q t ls st M d u → K t ls st M d u) := ⟨rr_J_sinit2 Q, fun _ _ _ _ _ _ h => h, fun _ _ _ _ _ _ h => h⟩
    have k35 : ∀ o (h9 : Nat → Int) (m v : Int) l3 l4, 100 ≤ o → o ∉ d → K 35 [some (mm_R t), some (mm_R b), some (mm_R 0), l3, l4] [mm_R o, mm_R t] (mm_any (mm_nob (mm_up M t 1 0) o 3 m) o h9) (d ++ [o]) 19 := by
      intro o h9 m v l3 l4 ho hd
      have g0 : bX M0 d0 (mm_up M t 1 0) d := h1.same ht.2 mm_up_o
      have g1 := (g0.new (k := 3) (n := m) ho hd).same ⟨ho, fun z => hd (h1.1.elim (fun d1 e => by rw [e]; exact List.mem_append_left _ z))⟩ (mm_any_o (h := h9))
      have g2 := ((ht.same ht.2.1 (mm_up_o (n := 1) (x := 0))).new (k' := 3) (n := m) ho hd).same ho (mm_any_o (h := h9))
      have fin := hq _ _ (g1.same g2.2 (mm_up_o (n := 0) (x := (o : Int))))
      have g3 := g2.1
      obtain ⟨M1, e1⟩ : ∃ M1, mm_any (mm_nob (mm_up M t 1 0) o 3 m) o h9 = M1 := ⟨_, rfl⟩
      rw [e1] at g3 fin ⊢
      refine hK2 _ _ _ _ _ _ ?_
      refine mm_run_at (stop := []) (S := K) kkJ_sinit2 90 ?_ (fun _ _ _ _ _ _ _ h => hK _ _ _ _ _ _ h)
      repeat' (first | with_reducible assumption | ((with_reducible show mm_rv _ _ _ _ _); first | exact True.intro) | ((with_reducible show mm_bool _ _); first | exact True.intro | exact Or.inl rfl | exact Or.inr rfl | (show (_ : Int) = 0 ∨ _ = 1)) | refine And.intro ?_ ?_ | intro _ | with_reducible exact True.intro | exact rfl | with_reducible exact Or.inl rfl | with_reducible exact Or.inr rfl | exact Nat.le_of_ble_eq_true rfl)
      all_goals (try simp (disch := omega) only [InI, Int.toNat_natCast, Int.tmod_eq_emod_of_nonneg, Int.tdiv_eq_ediv_of_nonneg, true_implies, true_or, or_true, mm_l18, mm_l19, mm_l20, mm_l21, mm_l22] at *)
      all_goals first | omega | skip
    refine ⟨Nat.le_of_ble_eq_true rfl, ?_⟩
    refine mm_run_at (stop := [35]) (S := K) kkJ_sinit2 90 ?_ (fun _ _ _ _ _ _ _ h => hK _ _ _ _ _ _ h)
    repeat' (first | with_reducible assumption | ((with_reducible show mm_rv _ _ _ _ _); first | exact True.intro | exact hb | exact ht0) | exact hb | exact ht0 | ((with_reducible show mm_bool _ _); first | exact True.intro | exact Or.inl rfl | exact Or.inr rfl | (show (_ : Int) = 0 ∨ _ = 1)) | refine And.intro ?_ ?_ | intro _ | with_reducible exact True.intro | exact rfl | with_reducible exact Or.inl rfl | with_reducible exact Or.inr rfl | exact Nat.le_of_ble_eq_true rfl)
    all_goals (try simp (disch := omega) only [la, e3, InI, Int.toNat_natCast, Int.tmod_eq_emod_of_nonneg, Int.tdiv_eq_ediv_of_nonneg, true_implies, true_or, or_true, mm_l18, mm_l19, mm_l20, mm_l21, mm_l22] at *)
    all_goals first | omega | exact k35 _ _ _ 0 _ _ (by assumption) (by assumption) | skip
  · exact h.elim
theorem je_sinit2 {l : Launch} : mm_Jet l yJ_sinit2 prog_16_method_150_code 5 none 9 167 19 sp_J_sinit2 := mm_mtJ (own := "java/lang/String") rn_J_sinit2 ⟨by decide +kernel, rfl⟩ kkJ_sinit2 rfl ⟨by decide, by decide⟩ flJ_sinit2_k (⟨mm_semV (C := RXB) (T := TXB) (N := 4) (x := ⟨"java/lang/AbstractStringBuilder", "getValue", "()[B"⟩) (je_getValue (l := l)) jw_getValue (mm_t5 126 rfl rfl) (mm_t5 127 rfl rfl) (Or.inr ⟨by decide, rfl⟩) (by decide +kernel) (Nat.le_of_ble_eq_true rfl) (Nat.le_of_ble_eq_true rfl) (Or.inl ⟨rfl, rfl, fun _ _ h => h _ (mm_T_U _ (mm_t5 129 rfl rfl))⟩), mm_semV (C := RXB) (T := TXB) (N := 4) (x := ⟨"java/lang/AbstractStringBuilder", "length", "()I"⟩) (je_blength (l := l)) jw_blength (mm_t5 131 rfl rfl) (mm_t5 135 rfl rfl) (Or.inr ⟨by decide, rfl⟩) (by decide +kernel) (Nat.le_of_ble_eq_true rfl) (Nat.le_of_ble_eq_true rfl) (Or.inr (Or.inl ⟨rfl, _, _, _, (mm_t5 134 rfl rfl), (mm_t5 133 rfl rfl), (mm_t5 132 rfl rfl), (mm_t5 138 rfl rfl), ⟨by decide, by decide⟩⟩)), mm_semV (C := RXB) (T := TXB) (N := 4) (x := ⟨"java/lang/AbstractStringBuilder", "isLatin1", "()Z"⟩) (je_isLatin1 (l := l)) jw_isLatin1 (mm_t5 139 rfl rfl) (mm_t5 22 rfl rfl) (Or.inr ⟨by decide, rfl⟩) (by decide +kernel) (Nat.le_of_ble_eq_true rfl) (Nat.le_of_ble_eq_true rfl) (Or.inl ⟨rfl, rfl, fun _ _ h => h _ (mm_T_U _ (mm_t5 24 rfl rfl))⟩), mm_semS (je_copyOfRange (l := l)) jw_copyOfRange (mm_t5 140 rfl rfl) (mm_t5 141 rfl rfl) (by decide +kernel) (Nat.le_of_ble_eq_true rfl) (Nat.le_of_ble_eq_true rfl), trivial⟩) (fun _ _ _ => rfl)
def kdJ_sinit1 : List mm_E := [(0, .aload_n 0, 0), (1, .aload_n 1, 0), (2, .aconst_null, 0), (3, .invokespecial 489, 0), (6, .return_, 0)]
theorem kkJ_sinit1 : mm_chk prog_16_method_53_code kdJ_sinit1 = true := mm_fck 0 (by decide +kernel)
def yJ_sinit1 : MethodName := ⟨"java/lang/String", "<init>", "(Ljava/lang/StringBuilder;)V"⟩
theorem jw_sinit1 : mm_JW yJ_sinit1 prog_16_method_53_code 2 none := ⟨(mm_t5 121 rfl rfl), (mm_t1 14 rfl rfl), ⟨by decide, by decide⟩⟩
def sp_J_sinit1 : mm_S := fun av M d Q => match av with
  | [.inr (.inr (.inl t)), .inr (.inr (.inl b))] =>  ∃ M0 d0 n, sC M0 d0 M d b n 0 ∧ bO d0 M d t 17 ∧ ∀ M' d', bX M0 d0 M' d' → Q (.inl none) M' d'
  | _ => False
def ct_J_sinit1 : List (Nat × mm_Ca) := [(489, (2, 3, 17, sp_J_sinit2, 19))]
def flJ_sinit1 : List (Nat × Nat × Nat) := [(1, 0, 90)]
theorem flJ_sinit1_k : ∀ q ∈ flJ_sinit1, mm_lj "java/lang/String" mm_U q.2.1 q.2.2 q.1 := by
  intro q hq
  simp only [flJ_sinit1, List.mem_cons, List.not_mem_nil, or_false] at hq
  subst hq
  · exact Or.inr ⟨by decide, (List.forall_mem_cons.mpr ⟨mm_T_U _ (mm_t5 125 rfl rfl), (List.forall_mem_cons.mpr ⟨mm_T_U _ (mm_t1 29 rfl rfl), (List.forall_mem_cons.mpr ⟨mm_T_U _ (mm_t1 30 rfl rfl), (fun _ h => nomatch h)⟩)⟩)⟩), (fun h => absurd h (by decide)), (fun h => absurd h (by decide))⟩
abbrev rr_J_sinit1 (Q : mm_Q) := mm_run (mm_look flJ_sinit1) (mm_look ct_J_sinit1) mm_x0 (mm_look ([] : List (Nat × Int))) (fun _ => none) 0 19 (fun _ _ => none) Q kdJ_sinit1
set_option maxRecDepth 20000 in
theorem rn_J_sinit1 : mm_RN flJ_sinit1 ct_J_sinit1 mm_x0 [] 0 19 2 kdJ_sinit1 sp_J_sinit1 := by
  intro av M d Q h
  unfold sp_J_sinit1 at h
  split at h
  · rename_i t b
    obtain ⟨M0, d0, n, hs, ht, hq⟩ := h
    have ht1 := ht.1
    obtain ⟨K, hK, hK2⟩ : ∃ K : Nat → mm_K, (∀ t ls st M d u, K t ls st M d u → rr_J_sinit1 Q t ls st M d u) ∧ (∀ t ls st M d u, rr_J_sinit1 Q t ls st M d u → K t ls st M d u) := ⟨rr_J_sinit1 Q, fun _ _ _ _ _ _ h => h, fun _ _ _ _ _ _ h => h⟩
    have k6 : ∀ M' d', bX M0 d0 M' d' → K 6 [some (mm_R t), some (mm_R b)] [] M' d' 19 := by
      intro M' d' h
      have fin := hq _ _ h
      refine hK2 _ _ _ _ _ _ ?_
      refine mm_run_at (stop := []) (S := K) kkJ_sinit1 90 ?_ (fun _ _ _ _ _ _ _ h => hK _ _ _ _ _ _ h)
      repeat' (first | with_reducible assumption | ((with_reducible show mm_rv _ _ _ _ _); first | exact True.intro) | ((with_reducible show mm_bool _ _); first | exact True.intro | exact Or.inl rfl | exact Or.inr rfl | (show (_ : Int) = 0 ∨ _ = 1)) | refine And.intro ?_ ?_ | intro _ | with_reducible exact True.intro | exact rfl | with_reducible exact Or.inl rfl | with_reducible exact Or.inr rfl | exact Nat.le_of_ble_eq_true rfl)
      all_goals (try simp (disch := omega) only [InI, Int.toNat_natCast, Int.tmod_eq_emod_of_nonneg, Int.tdiv_eq_ediv_of_nonneg, true_implies, true_or, or_true, mm_l18, mm_l19, mm_l20, mm_l21, mm_l22] at *)
      all_goals first | omega | skip
    refine ⟨Nat.le_of_ble_eq_true rfl, ?_⟩
    refine mm_run_at (stop := [6]) (S := K) kkJ_sinit1 90 ?_ (fun _ _ _ _ _ _ _ h => hK _ _ _ _ _ _ h)
    refine mj5 rfl (Nat.le_of_ble_eq_true rfl) (by exact ht1) (Nat.le_of_ble_eq_true rfl) (Nat.le_of_ble_eq_true rfl) ⟨rfl, M0, d0, n, hs, ht, fun M' d' h => k6 M' d' h⟩
  · exact h.elim
theorem je_sinit1 {l : Launch} : mm_Jet l yJ_sinit1 prog_16_method_53_code 2 none 10 191 19 sp_J_sinit1 := mm_mtJ (own := "java/lang/String") rn_J_sinit1 ⟨by decide +kernel, rfl⟩ kkJ_sinit1 rfl ⟨by decide, by decide⟩ flJ_sinit1_k (⟨mm_semV (C := RXS) (T := TXS) (N := 4) (x := ⟨"java/lang/String", "<init>", "(Ljava/lang/AbstractStringBuilder;Ljava/lang/Void;)V"⟩) (je_sinit2 (l := l)) jw_sinit2 (mm_t5 122 rfl rfl) (mm_t5 123 rfl rfl) (Or.inr ⟨by decide, rfl⟩) (by decide +kernel) (Nat.le_of_ble_eq_true rfl) (Nat.le_of_ble_eq_true rfl) (Or.inr (Or.inr (Or.inl ⟨rfl, rfl, rfl, rfl⟩))), trivial⟩) (by decide)
def kdJ_toString : List mm_E := [(0, .new 18, 0), (3, .dup, 0), (4, .aload_n 0, 0), (5, .invokespecial 137, 0), (8, .areturn, 0)]
theorem kkJ_toString : mm_chk prog_17_method_42_code kdJ_toString = true := mm_fck 0 (by decide +kernel)
def yJ_toString : MethodName := ⟨"java/lang/StringBuilder", "toString", "()Ljava/lang/String;"⟩
theorem jw_toString : mm_JW yJ_toString prog_17_method_42_code 1 (some (.object "java/lang/String")) := ⟨(mm_t5 116 rfl rfl), (mm_t1 13 rfl rfl), ⟨by decide, by decide⟩⟩
def sp_J_toString : mm_S := fun av M d Q => match av with
  | [.inr (.inr (.inl b))] =>  ∃ M0 d0 n, sC M0 d0 M d b n 0 ∧ ∀ M' d' o, bX M0 d0 M' d' → 100 ≤ o → Q (.inl (some (mm_R o))) M' d'
  | _ => False
def ct_J_toString : List (Nat × mm_Ca) := [(137, (2, 2, 17, sp_J_sinit1, 19))]
def flJ_toString : List (Nat × Nat × Nat) := [(18, 17, 99)]
theorem flJ_toString_k : ∀ q ∈ flJ_toString, mm_lj "java/lang/StringBuilder" mm_U q.2.1 q.2.2 q.1 := by
  intro q hq
  simp only [flJ_toString, List.mem_cons, List.not_mem_nil, or_false] at hq
  subst hq
  · exact Or.inr ⟨by decide, (List.forall_mem_cons.mpr ⟨mm_T_U _ (mm_t5 117 rfl rfl), (List.forall_mem_cons.mpr ⟨mm_T_U _ (mm_t5 118 rfl rfl), (List.forall_mem_cons.mpr ⟨mm_T_U _ (mm_t1 14 rfl rfl), (fun _ h => nomatch h)⟩)⟩)⟩), (fun h => absurd h (by decide)), (fun h => absurd h (by decide))⟩
abbrev rr_J_toString (Q : mm_Q) := mm_run (mm_look flJ_toString) (mm_look ct_J_toString) mm_x0 (mm_look ([] : List (Nat × Int))) (fun _ => none) 24 20 (fun _ _ => none) Q kdJ_toString
set_option maxRecDepth 20000 in
theorem rn_J_toString : mm_RN flJ_toString ct_J_toString mm_x0 [] 24 20 1 kdJ_toString sp_J_toString := by
  intro av M d Q h
  unfold sp_J_toString at h
  split at h
  · rename_i b
    obtain ⟨M0, d0, n, hs, hq⟩ := h
    obtain ⟨K, hK, hK2⟩ : ∃ K : Nat → mm_K, (∀ t ls st M d u, K t ls st M d u → rr_J_toString Q t ls st M d u) ∧ (∀ t ls st M d u, rr_J_toString Q t ls st M d u → K t ls st M d u) := ⟨rr_J_toString Q, fun _ _ _ _ _ _ h => h, fun _ _ _ _ _ _ h => h⟩
    have k8 : ∀ o M' d', 100 ≤ o → bX M0 d0 M' d' → K 8 [some (mm_R b)] [mm_R o] M' d' 20 := by
      intro o M' d' ho h
      have fin := hq _ _ o h ho
      refine hK2 _ _ _ _ _ _ ?_
      refine mm_run_at (stop := []) (S := K) kkJ_toString 90 ?_ (fun _ _ _ _ _ _ _ h => hK _ _ _ _ _ _ h)
      repeat' (first | with_reducible assumption | ((with_reducible show mm_rv _ _ _ _ _); first | exact True.intro) | ((with_reducible show mm_bool _ _); first | exact True.intro | exact Or.inl rfl | exact Or.inr rfl | (show (_ : Int) = 0 ∨ _ = 1)) | refine And.intro ?_ ?_ | intro _ | with_reducible exact True.intro | exact rfl | with_reducible exact Or.inl rfl | with_reducible exact Or.inr rfl | exact Nat.le_of_ble_eq_true rfl)
      all_goals (try simp (disch := omega) only [InI, Int.toNat_natCast, Int.tmod_eq_emod_of_nonneg, Int.tdiv_eq_ediv_of_nonneg, true_implies, true_or, or_true, mm_l18, mm_l19, mm_l20, mm_l21, mm_l22] at *)
      all_goals first | omega | skip
    have k3 : ∀ o, 100 ≤ o → o ∉ d → K 3 [some (mm_R b)] [mm_R o] (mm_nob M o 17 0) (d ++ [o]) 1 := by
      intro o ho hd
      have g1 := hs.new (k := 17) (n' := 0) ho hd
      have g2 := bO.mk' (k := 17) (n := 0) hs.1 ho hd (by omega)
      have g3 := g2.1
      refine hK2 _ _ _ _ _ _ ?_
      refine mm_run_at (stop := [8]) (S := K) kkJ_toString 90 ?_ (fun _ _ _ _ _ _ _ h => hK _ _ _ _ _ _ h)
      refine mj5 rfl (Nat.le_of_ble_eq_true rfl) (by exact g3) (Nat.le_of_ble_eq_true rfl) (Nat.le_of_ble_eq_true rfl) ⟨M0, d0, n, g1, g2, fun M' d' h => k8 o M' d' ho h⟩
    refine ⟨Nat.le_of_ble_eq_true rfl, ?_⟩
    refine mm_run_at (stop := [3]) (S := K) kkJ_toString 90 ?_ (fun _ _ _ _ _ _ _ h => hK _ _ _ _ _ _ h)
    refine ⟨Or.inr rfl, Nat.le_of_ble_eq_true rfl, fun o ho hd => k3 o ho hd⟩
  · exact h.elim
theorem je_toString {l : Launch} : mm_Jet l yJ_toString prog_17_method_42_code 1 (some (.object "java/lang/String")) 11 212 20 sp_J_toString := mm_mtJ (own := "java/lang/StringBuilder") rn_J_toString ⟨by decide +kernel, rfl⟩ kkJ_toString rfl ⟨by decide, by decide⟩ flJ_toString_k (⟨mm_semV (C := RXS) (T := TXS) (N := 4) (x := ⟨"java/lang/String", "<init>", "(Ljava/lang/StringBuilder;)V"⟩) (je_sinit1 (l := l)) jw_sinit1 (mm_t5 119 rfl rfl) (mm_t5 120 rfl rfl) (Or.inr ⟨by decide, rfl⟩) (by decide +kernel) (Nat.le_of_ble_eq_true rfl) (Nat.le_of_ble_eq_true rfl) (Or.inr (Or.inr (Or.inl ⟨rfl, rfl, rfl, rfl⟩))), trivial⟩) (by decide)
end
