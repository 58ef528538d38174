/-! the model's walks: the same, turned; words; emptied; the start of a call -/
def stB (M : mm_M) : Prop := 0 ≤ M 17 1 ∧ M 17 1 ≤ 30
theorem at_X5_isSame_0 : mm_at 0 kdX5_isSame = [(0, .aload_n 0, 0), (1, .getfield 22, 0), (4, .iload_n 1, 0), (5, .iaload, 0), (6, .aload_n 0, 0), (7, .getfield 22, 0), (10, .iload_n 2, 0), (11, .iaload, 0), (12, .if_icmp .ne 18, 30), (15, .aload_n 0, 0), (16, .getfield 19, 0), (19, .iload_n 1, 0), (20, .iaload, 0), (21, .aload_n 0, 0), (22, .getfield 19, 0), (25, .iload_n 2, 0), (26, .iaload, 0), (27, .if_icmp .eq 5, 32), (30, .iconst 0, 0), (31, .ireturn, 0), (32, .iconst 0, 0), (33, .istore_n 3, 0), (34, .iload_n 3, 0), (35, .aload_n 0, 0), (36, .getfield 19, 0), (39, .iload_n 1, 0), (40, .iaload, 0), (41, .if_icmp .ge 26, 67), (44, .aload_n 0, 0), (45, .iload_n 1, 0), (46, .iload_n 3, 0), (47, .invokevirtual 98, 0), (50, .aload_n 0, 0), (51, .iload_n 2, 0), (52, .iload_n 3, 0), (53, .invokevirtual 98, 0), (56, .if_icmp .eq 5, 61), (59, .iconst 0, 0), (60, .ireturn, 0), (61, .iinc 3 1, 0), (64, .goto (-30), 34), (67, .iconst 1, 0), (68, .ireturn, 0)] := rfl
theorem at_X5_isSame_30 : mm_at 30 kdX5_isSame = [(30, .iconst 0, 0), (31, .ireturn, 0), (32, .iconst 0, 0), (33, .istore_n 3, 0), (34, .iload_n 3, 0), (35, .aload_n 0, 0), (36, .getfield 19, 0), (39, .iload_n 1, 0), (40, .iaload, 0), (41, .if_icmp .ge 26, 67), (44, .aload_n 0, 0), (45, .iload_n 1, 0), (46, .iload_n 3, 0), (47, .invokevirtual 98, 0), (50, .aload_n 0, 0), (51, .iload_n 2, 0), (52, .iload_n 3, 0), (53, .invokevirtual 98, 0), (56, .if_icmp .eq 5, 61), (59, .iconst 0, 0), (60, .ireturn, 0), (61, .iinc 3 1, 0), (64, .goto (-30), 34), (67, .iconst 1, 0), (68, .ireturn, 0)] := rfl
theorem at_X5_isSame_32 : mm_at 32 kdX5_isSame = [(32, .iconst 0, 0), (33, .istore_n 3, 0), (34, .iload_n 3, 0), (35, .aload_n 0, 0), (36, .getfield 19, 0), (39, .iload_n 1, 0), (40, .iaload, 0), (41, .if_icmp .ge 26, 67), (44, .aload_n 0, 0), (45, .iload_n 1, 0), (46, .iload_n 3, 0), (47, .invokevirtual 98, 0), (50, .aload_n 0, 0), (51, .iload_n 2, 0), (52, .iload_n 3, 0), (53, .invokevirtual 98, 0), (56, .if_icmp .eq 5, 61), (59, .iconst 0, 0), (60, .ireturn, 0), (61, .iinc 3 1, 0), (64, .goto (-30), 34), (67, .iconst 1, 0), (68, .ireturn, 0)] := rfl
theorem at_X5_isSame_34 : mm_at 34 kdX5_isSame = [(34, .iload_n 3, 0), (35, .aload_n 0, 0), (36, .getfield 19, 0), (39, .iload_n 1, 0), (40, .iaload, 0), (41, .if_icmp .ge 26, 67), (44, .aload_n 0, 0), (45, .iload_n 1, 0), (46, .iload_n 3, 0), (47, .invokevirtual 98, 0), (50, .aload_n 0, 0), (51, .iload_n 2, 0), (52, .iload_n 3, 0), (53, .invokevirtual 98, 0), (56, .if_icmp .eq 5, 61), (59, .iconst 0, 0), (60, .ireturn, 0), (61, .iinc 3 1, 0), (64, .goto (-30), 34), (67, .iconst 1, 0), (68, .ireturn, 0)] := rfl
theorem at_X5_isSame_61 : mm_at 61 kdX5_isSame = [(61, .iinc 3 1, 0), (64, .goto (-30), 34), (67, .iconst 1, 0), (68, .ireturn, 0)] := rfl
theorem at_X5_isSame_67 : mm_at 67 kdX5_isSame = [(67, .iconst 1, 0), (68, .ireturn, 0)] := rfl
def sp_X5_isSame : mm_S := fun av M d Q => match av with
  | [.inr (.inr (.inl o)), .inl k, .inl v] =>  o = 17 ∧ (0 ≤ k ∧ k < 4) ∧ (0 ≤ v ∧ v < 4) ∧ mV M k.toNat ∧ mV M v.toNat ∧ stB M ∧ ∀ r, (r = 0 ∨ r = 1) ∧ (r = 1 ↔ smR (vX M) (8 + 2 * k.toNat) (8 + 2 * v.toNat)) → Q (.inl (some (mm_I r))) M d
  | _ => False
def ct_X5_isSame : List (Nat × mm_Ca) := [(98, (0, 3, 14, sp_X5_stepOf, 0))]
abbrev rr_X5_isSame (Q : mm_Q) := mm_run (mm_look flX5) (mm_look ct_X5_isSame) mm_x0 (mm_look ([] : List (Nat × Int))) (fun _ => none) 2 0 (fun _ _ => none) Q kdX5_isSame
set_option maxRecDepth 20000 in
theorem lp_X5_isSame {M : mm_M} {d : List Nat} {Q : mm_Q} {k v n : Nat} (hk : k < 4) (hv : v < 4) (h1 : mV M k) (h2 : mV M v) (t1 : stB M) (hn : M 21 k = n) (hnv : M 21 v = n) (q1 : (∀ i : Nat, i < n → M 20 (30 * k + i) = M 20 (30 * v + i)) → Q (.inl (some (mm_I 1))) M d) (q0 : ∀ i : Nat, i < n → M 20 (30 * k + i) ≠ M 20 (30 * v + i) → Q (.inl (some (mm_I 0))) M d) : ∀ (j i : Nat), i + j = n → (∀ x : Nat, x < i → M 20 (30 * k + x) = M 20 (30 * v + x)) → rr_X5_isSame Q 34 [some (mm_R 17), some (mm_I k), some (mm_I v), some (mm_I i)] [] M d 0 := by
  obtain ⟨v1, v2, v3⟩ := id h1
  obtain ⟨u1, u2, u3⟩ := id h2
  obtain ⟨t1, t2⟩ := t1
  intro j
  induction j with
  | zero =>
    intro i hi hx
    have h9 := q1 (fun x hx2 => hx x (by omega))
    obtain ⟨K, hK, hK2⟩ : ∃ K : Nat → mm_K, (∀ t ls st M d u, K t ls st M d u → rr_X5_isSame Q t ls st M d u) ∧ (∀ t ls st M d u, rr_X5_isSame Q t ls st M d u → K t ls st M d u) := ⟨rr_X5_isSame Q, fun _ _ _ _ _ _ h => h, fun _ _ _ _ _ _ h => h⟩
    refine mm_run_at (stop := [44]) (S := K) kkX5_isSame 90 ?_ (fun _ _ _ _ _ _ _ h => hK _ _ _ _ _ _ h)
    repeat' (first | with_reducible assumption | with_reducible exact True.intro | with_reducible exact mm_i17 | with_reducible exact mm_i18 | with_reducible exact mm_i19 | with_reducible exact mm_i20 | with_reducible exact mm_i21 | with_reducible exact mm_i22 | ((with_reducible show mm_rv _ _ _ _ _); first | exact True.intro | exact mm_i17 | exact mm_i18 | exact mm_i19 | exact mm_i20 | exact mm_i21 | exact mm_i22) | ((with_reducible show mm_bool _ _); first | exact True.intro | exact Or.inl rfl | exact Or.inr rfl | (show (_ : Int) = 0 ∨ _ = 1)) | rfl | with_reducible exact Or.inl rfl | with_reducible exact Or.inr rfl | exact Nat.le_of_ble_eq_true rfl | refine And.intro ?_ ?_ | intro _)
    all_goals (try simp (disch := omega) only [InI, Int.toNat_natCast, Int.tmod_eq_emod_of_nonneg, Int.tdiv_eq_ediv_of_nonneg, true_implies, true_or, or_true, mm_l18, mm_l19, mm_l20, mm_l21, mm_l22] at *)
    all_goals first | omega | exact h9 | skip
  | succ j ih =>
    intro i hi hx
    have v4 := v3 i (by omega)
    have u4 := u3 i (by omega)
    have q0 := q0 i (by omega)
    obtain ⟨K, hK, hK2⟩ : ∃ K : Nat → mm_K, (∀ t ls st M d u, K t ls st M d u → rr_X5_isSame Q t ls st M d u) ∧ (∀ t ls st M d u, rr_X5_isSame Q t ls st M d u → K t ls st M d u) := ⟨rr_X5_isSame Q, fun _ _ _ _ _ _ h => h, fun _ _ _ _ _ _ h => h⟩
    have st : M 20 (30 * k + i) = M 20 (30 * v + i) → K 34 [some (mm_R 17), some (mm_I k), some (mm_I v), some (mm_I ((i : Int) + 1))] [] M d 0 := fun h => hK2 _ _ _ _ _ _ (ih (i + 1) (by omega) (fun x hx2 => by
      by_cases e : x = i
      · subst e; exact h
      · exact hx x (by omega)))
    refine mm_run_at (stop := [34, 67]) (S := K) kkX5_isSame 90 ?_ (fun _ _ _ _ _ _ _ h => hK _ _ _ _ _ _ h)
    repeat' (first | with_reducible assumption | with_reducible exact True.intro | with_reducible exact mm_i17 | with_reducible exact mm_i18 | with_reducible exact mm_i19 | with_reducible exact mm_i20 | with_reducible exact mm_i21 | with_reducible exact mm_i22 | ((with_reducible show mm_rv _ _ _ _ _); first | exact True.intro | exact mm_i17 | exact mm_i18 | exact mm_i19 | exact mm_i20 | exact mm_i21 | exact mm_i22) | ((with_reducible show mm_bool _ _); first | exact True.intro | exact Or.inl rfl | exact Or.inr rfl | (show (_ : Int) = 0 ∨ _ = 1)) | rfl | with_reducible exact Or.inl rfl | with_reducible exact Or.inr rfl | exact Nat.le_of_ble_eq_true rfl | refine And.intro ?_ ?_ | intro _)
    all_goals (try simp (disch := omega) only [InI, Int.toNat_natCast, Int.tmod_eq_emod_of_nonneg, Int.tdiv_eq_ediv_of_nonneg, true_implies, true_or, or_true, mm_l18, mm_l19, mm_l20, mm_l21, mm_l22] at *)
    all_goals first | omega | exact q0 (by assumption) | exact st (by assumption) | skip
set_option maxRecDepth 20000 in
theorem rn_X5_isSame : mm_RN flX5 ct_X5_isSame mm_x0 [] 2 0 4 kdX5_isSame sp_X5_isSame := by
  intro av M d Q h
  unfold sp_X5_isSame at h
  split at h
  · rename_i o k v
    obtain ⟨rfl, hk, hv, h1, h2, t1, hq⟩ := h
    obtain ⟨k, rfl⟩ := Int.eq_ofNat_of_zero_le hk.1
    obtain ⟨v, rfl⟩ := Int.eq_ofNat_of_zero_le hv.1
    simp only [Int.toNat_natCast] at *
    have hk4 : k < 4 := by omega
    have hv4 : v < 4 := by omega
    have v1 := h1.1
    have v2 := h1.2.1
    have u1 := h2.1
    have u2 := h2.2.1
    obtain ⟨n, hn⟩ := Int.eq_ofNat_of_zero_le v1.1
    have key : smR (vX M) (8 + 2 * k) (8 + 2 * v) ↔ (M 22 k = M 22 v ∧ M 21 k = M 21 v ∧ ∀ i : Nat, i < n → M 20 (30 * k + i) = M 20 (30 * v + i)) := by
      unfold smR
      rw [vX_b hk4, vX_b hv4, vX_n hk4, vX_n hv4]
      refine and_congr_right (fun _ => and_congr_right (fun _ => ?_))
      constructor
      · intro h i hi
        have := h i (by omega)
        rw [vX_i hk4 (by omega), vX_i hv4 (by omega)] at this
        exact this
      · intro h i hi
        rw [vX_i hk4 (by omega), vX_i hv4 (by omega)]
        exact h i (by omega)
    have q0 : ¬ smR (vX M) (8 + 2 * k) (8 + 2 * v) → Q (.inl (some (mm_I 0))) M d := fun h => hq 0 ⟨Or.inl rfl, fun h => by omega, fun h2 => absurd h2 h⟩
    have q1 : smR (vX M) (8 + 2 * k) (8 + 2 * v) → Q (.inl (some (mm_I 1))) M d := fun h => hq 1 ⟨Or.inr rfl, fun _ => h, fun _ => rfl⟩
    have n1 : M 22 k ≠ M 22 v → ¬ smR (vX M) (8 + 2 * k) (8 + 2 * v) := fun h h2 => h (key.mp h2).1
    have n2 : M 21 k ≠ M 21 v → ¬ smR (vX M) (8 + 2 * k) (8 + 2 * v) := fun h h2 => h (key.mp h2).2.1
    obtain ⟨K, hK, hK2⟩ : ∃ K : Nat → mm_K, (∀ t ls st M d u, K t ls st M d u → rr_X5_isSame Q t ls st M d u) ∧ (∀ t ls st M d u, rr_X5_isSame Q t ls st M d u → K t ls st M d u) := ⟨rr_X5_isSame Q, fun _ _ _ _ _ _ h => h, fun _ _ _ _ _ _ h => h⟩
    have k34 : M 22 k = M 22 v → M 21 k = M 21 v → K 34 [some (mm_R 17), some (mm_I k), some (mm_I v), some (mm_I 0)] [] M d 0 := fun e1 e2 => hK2 _ _ _ _ _ _ (lp_X5_isSame hk4 hv4 h1 h2 t1 hn (by omega) (fun h => q1 (key.mpr ⟨e1, e2, h⟩)) (fun i hi h => q0 (fun h2 => h ((key.mp h2).2.2 i hi))) n 0 (by omega) (fun x hx => by omega))
    refine ⟨Nat.le_of_ble_eq_true rfl, ?_⟩
    refine mm_run_at (stop := [34]) (S := K) kkX5_isSame 90 ?_ (fun _ _ _ _ _ _ _ h => hK _ _ _ _ _ _ h)
    repeat' (first | with_reducible assumption | with_reducible exact True.intro | with_reducible exact mm_i17 | with_reducible exact mm_i18 | with_reducible exact mm_i19 | with_reducible exact mm_i20 | with_reducible exact mm_i21 | with_reducible exact mm_i22 | ((with_reducible show mm_rv _ _ _ _ _); first | exact True.intro | exact mm_i17 | exact mm_i18 | exact mm_i19 | exact mm_i20 | exact mm_i21 | exact mm_i22) | ((with_reducible show mm_bool _ _); first | exact True.intro | exact Or.inl rfl | exact Or.inr rfl | (show (_ : Int) = 0 ∨ _ = 1)) | rfl | with_reducible exact Or.inl rfl | with_reducible exact Or.inr rfl | exact Nat.le_of_ble_eq_true rfl | refine And.intro ?_ ?_ | intro _)
    all_goals (try simp (disch := omega) only [InI, Int.toNat_natCast, Int.tmod_eq_emod_of_nonneg, Int.tdiv_eq_ediv_of_nonneg, true_implies, true_or, or_true, mm_l18, mm_l19, mm_l20, mm_l21, mm_l22] at *)
    all_goals first | omega | exact q0 (n1 (by omega)) | exact q0 (n2 (by omega)) | exact k34 (by omega) (by omega) | skip
  · exact h.elim
theorem me_X5_isSame {l : Launch} (hl : l.stackTraces = false) : mm_Met l yX5_isSame cX5_isSame 4 (some .boolean) [] 7 122 0 sp_X5_isSame := mm_mt hl rn_X5_isSame ⟨by decide, rfl⟩ kkX5_isSame rfl ⟨by decide, by decide⟩ flkX5 (fun _ h => nomatch h) (⟨mm_pe (me_X5_stepOf hl) mwX5_stepOf (mm_t6 158 rfl rfl) (Nat.le_of_ble_eq_true rfl) (Nat.le_of_ble_eq_true rfl), trivial⟩) (mm_xe0 _)
theorem at_X5_isTurnedBy_0 : mm_at 0 kdX5_isTurnedBy = [(0, .aload_n 0, 0), (1, .iload_n 1, 0), (2, .iload_n 3, 0), (3, .invokevirtual 105, 0), (6, .aload_n 0, 0), (7, .getfield 22, 0), (10, .iload_n 2, 0), (11, .iaload, 0), (12, .if_icmp .eq 5, 17), (15, .iconst 0, 0), (16, .ireturn, 0), (17, .iconst 0, 0), (18, .istore 4, 0), (20, .iload 4, 0), (22, .aload_n 0, 0), (23, .getfield 19, 0), (26, .iload_n 1, 0), (27, .iaload, 0), (28, .if_icmp .ge 37, 65), (31, .aload_n 0, 0), (32, .iload_n 1, 0), (33, .iload 4, 0), (35, .iload_n 3, 0), (36, .iadd, 0), (37, .aload_n 0, 0), (38, .getfield 19, 0), (41, .iload_n 1, 0), (42, .iaload, 0), (43, .irem, 0), (44, .invokevirtual 98, 0), (47, .aload_n 0, 0), (48, .iload_n 2, 0), (49, .iload 4, 0), (51, .invokevirtual 98, 0), (54, .if_icmp .eq 5, 59), (57, .iconst 0, 0), (58, .ireturn, 0), (59, .iinc 4 1, 0), (62, .goto (-42), 20), (65, .iconst 1, 0), (66, .ireturn, 0)] := rfl
theorem at_X5_isTurnedBy_17 : mm_at 17 kdX5_isTurnedBy = [(17, .iconst 0, 0), (18, .istore 4, 0), (20, .iload 4, 0), (22, .aload_n 0, 0), (23, .getfield 19, 0), (26, .iload_n 1, 0), (27, .iaload, 0), (28, .if_icmp .ge 37, 65), (31, .aload_n 0, 0), (32, .iload_n 1, 0), (33, .iload 4, 0), (35, .iload_n 3, 0), (36, .iadd, 0), (37, .aload_n 0, 0), (38, .getfield 19, 0), (41, .iload_n 1, 0), (42, .iaload, 0), (43, .irem, 0), (44, .invokevirtual 98, 0), (47, .aload_n 0, 0), (48, .iload_n 2, 0), (49, .iload 4, 0), (51, .invokevirtual 98, 0), (54, .if_icmp .eq 5, 59), (57, .iconst 0, 0), (58, .ireturn, 0), (59, .iinc 4 1, 0), (62, .goto (-42), 20), (65, .iconst 1, 0), (66, .ireturn, 0)] := rfl
theorem at_X5_isTurnedBy_20 : mm_at 20 kdX5_isTurnedBy = [(20, .iload 4, 0), (22, .aload_n 0, 0), (23, .getfield 19, 0), (26, .iload_n 1, 0), (27, .iaload, 0), (28, .if_icmp .ge 37, 65), (31, .aload_n 0, 0), (32, .iload_n 1, 0), (33, .iload 4, 0), (35, .iload_n 3, 0), (36, .iadd, 0), (37, .aload_n 0, 0), (38, .getfield 19, 0), (41, .iload_n 1, 0), (42, .iaload, 0), (43, .irem, 0), (44, .invokevirtual 98, 0), (47, .aload_n 0, 0), (48, .iload_n 2, 0), (49, .iload 4, 0), (51, .invokevirtual 98, 0), (54, .if_icmp .eq 5, 59), (57, .iconst 0, 0), (58, .ireturn, 0), (59, .iinc 4 1, 0), (62, .goto (-42), 20), (65, .iconst 1, 0), (66, .ireturn, 0)] := rfl
theorem at_X5_isTurnedBy_59 : mm_at 59 kdX5_isTurnedBy = [(59, .iinc 4 1, 0), (62, .goto (-42), 20), (65, .iconst 1, 0), (66, .ireturn, 0)] := rfl
theorem at_X5_isTurnedBy_65 : mm_at 65 kdX5_isTurnedBy = [(65, .iconst 1, 0), (66, .ireturn, 0)] := rfl
def sp_X5_isTurnedBy : mm_S := fun av M d Q => match av with
  | [.inr (.inr (.inl o)), .inl k, .inl v, .inl b] =>  o = 17 ∧ tX M ∧ (0 ≤ k ∧ k < 4) ∧ (0 ≤ v ∧ v < 4) ∧ mV M k.toNat ∧ mV M v.toNat ∧ M 21 k.toNat = M 21 v.toNat ∧ (0 ≤ b ∧ b < M 21 k.toNat) ∧ ∀ r, (r = 0 ∨ r = 1) ∧ (r = 1 ↔ tnR (vX M) (8 + 2 * k.toNat) (8 + 2 * v.toNat) b.toNat) → Q (.inl (some (mm_I r))) M d
  | _ => False
def ct_X5_isTurnedBy : List (Nat × mm_Ca) := [(105, (0, 3, 14, sp_X5_cornerOf, 0)), (98, (0, 3, 14, sp_X5_stepOf, 0))]
abbrev rr_X5_isTurnedBy (Q : mm_Q) := mm_run (mm_look flX5) (mm_look ct_X5_isTurnedBy) mm_x0 (mm_look ([] : List (Nat × Int))) (fun _ => none) 2 0 (fun _ _ => none) Q kdX5_isTurnedBy
set_option maxRecDepth 20000 in
theorem lp_X5_isTurnedBy {M : mm_M} {d : List Nat} {Q : mm_Q} {k v n b : Nat} (hk : k < 4) (hv : v < 4) (ht : tX M) (h1 : mV M k) (h2 : mV M v) (hn : M 21 k = n) (hnv : M 21 v = n) (hb : b < n) (q1 : (∀ i : Nat, i < n → M 20 (30 * k + (i + b) % n) = M 20 (30 * v + i)) → Q (.inl (some (mm_I 1))) M d) (q0 : ∀ i : Nat, i < n → M 20 (30 * k + (i + b) % n) ≠ M 20 (30 * v + i) → Q (.inl (some (mm_I 0))) M d) : ∀ (j i : Nat), i + j = n → (∀ x : Nat, x < i → M 20 (30 * k + (x + b) % n) = M 20 (30 * v + x)) → rr_X5_isTurnedBy Q 20 [some (mm_R 17), some (mm_I k), some (mm_I v), some (mm_I b), some (mm_I i)] [] M d 0 := by
  obtain ⟨v1, v2, v3⟩ := id h1
  obtain ⟨u1, u2, u3⟩ := id h2
  have t1 := ht.1
  intro j
  induction j with
  | zero =>
    intro i hi hx
    have h9 := q1 (fun x hx2 => hx x (by omega))
    obtain ⟨K, hK, hK2⟩ : ∃ K : Nat → mm_K, (∀ t ls st M d u, K t ls st M d u → rr_X5_isTurnedBy Q t ls st M d u) ∧ (∀ t ls st M d u, rr_X5_isTurnedBy Q t ls st M d u → K t ls st M d u) := ⟨rr_X5_isTurnedBy Q, fun _ _ _ _ _ _ h => h, fun _ _ _ _ _ _ h => h⟩
    refine mm_run_at (stop := [31]) (S := K) kkX5_isTurnedBy 90 ?_ (fun _ _ _ _ _ _ _ h => hK _ _ _ _ _ _ h)
    repeat' (first | with_reducible assumption | with_reducible exact True.intro | with_reducible exact mm_i17 | with_reducible exact mm_i18 | with_reducible exact mm_i19 | with_reducible exact mm_i20 | with_reducible exact mm_i21 | with_reducible exact mm_i22 | ((with_reducible show mm_rv _ _ _ _ _); first | exact True.intro | exact mm_i17 | exact mm_i18 | exact mm_i19 | exact mm_i20 | exact mm_i21 | exact mm_i22) | ((with_reducible show mm_bool _ _); first | exact True.intro | exact Or.inl rfl | exact Or.inr rfl | (show (_ : Int) = 0 ∨ _ = 1)) | rfl | with_reducible exact Or.inl rfl | with_reducible exact Or.inr rfl | exact Nat.le_of_ble_eq_true rfl | refine And.intro ?_ ?_ | intro _)
    all_goals (try simp (disch := omega) only [InI, Int.toNat_natCast, Int.tmod_eq_emod_of_nonneg, Int.tdiv_eq_ediv_of_nonneg, true_implies, true_or, or_true, mm_l18, mm_l19, mm_l20, mm_l21, mm_l22] at *)
    all_goals first | omega | exact h9 | skip
  | succ j ih =>
    intro i hi hx
    have hm : (i + b) % n < n := Nat.mod_lt _ (by omega)
    have em : ((i : Int) + b) % M 21 k = ((i + b) % n : Nat) := by rw [hn]; norm_cast
    have v4 := v3 ((i + b) % n) (by omega)
    have u4 := u3 i (by omega)
    have q0 := q0 i (by omega)
    have et : ((i : Int) + b).tmod (M 21 k) = ((i + b) % n : Nat) := by rw [Int.tmod_eq_emod_of_nonneg (by omega)]; exact em
    obtain ⟨K, hK, hK2⟩ : ∃ K : Nat → mm_K, (∀ t ls st M d u, K t ls st M d u → rr_X5_isTurnedBy Q t ls st M d u) ∧ (∀ t ls st M d u, rr_X5_isTurnedBy Q t ls st M d u → K t ls st M d u) := ⟨rr_X5_isTurnedBy Q, fun _ _ _ _ _ _ h => h, fun _ _ _ _ _ _ h => h⟩
    have st : M 20 (30 * k + (i + b) % n) = M 20 (30 * v + i) → K 20 [some (mm_R 17), some (mm_I k), some (mm_I v), some (mm_I b), some (mm_I ((i : Int) + 1))] [] M d 0 := fun h => hK2 _ _ _ _ _ _ (ih (i + 1) (by omega) (fun x hx2 => by
      by_cases e : x = i
      · subst e; exact h
      · exact hx x (by omega)))
    clear em
    refine mm_run_at (stop := [20, 65]) (S := K) kkX5_isTurnedBy 90 ?_ (fun _ _ _ _ _ _ _ h => hK _ _ _ _ _ _ h)
    repeat' (first | with_reducible assumption | with_reducible exact True.intro | with_reducible exact mm_i17 | with_reducible exact mm_i18 | with_reducible exact mm_i19 | with_reducible exact mm_i20 | with_reducible exact mm_i21 | with_reducible exact mm_i22 | ((with_reducible show mm_rv _ _ _ _ _); first | exact True.intro | exact mm_i17 | exact mm_i18 | exact mm_i19 | exact mm_i20 | exact mm_i21 | exact mm_i22) | ((with_reducible show mm_bool _ _); first | exact True.intro | exact Or.inl rfl | exact Or.inr rfl | (show (_ : Int) = 0 ∨ _ = 1)) | rfl | with_reducible exact Or.inl rfl | with_reducible exact Or.inr rfl | exact Nat.le_of_ble_eq_true rfl | refine And.intro ?_ ?_ | intro _)
    all_goals (try simp (disch := omega) only [et, InI, Int.toNat_natCast, Int.tmod_eq_emod_of_nonneg, Int.tdiv_eq_ediv_of_nonneg, true_implies, true_or, or_true, mm_l18, mm_l19, mm_l20, mm_l21, mm_l22] at *)
    all_goals first | omega | exact q0 (by assumption) | exact st (by assumption) | skip
set_option maxRecDepth 20000 in
theorem rn_X5_isTurnedBy : mm_RN flX5 ct_X5_isTurnedBy mm_x0 [] 2 0 5 kdX5_isTurnedBy sp_X5_isTurnedBy := by
  intro av M d Q h
  unfold sp_X5_isTurnedBy at h
  split at h
  · rename_i o k v b
    obtain ⟨rfl, ht, hk, hv, h1, h2, hl, hb, hq⟩ := h
    obtain ⟨k, rfl⟩ := Int.eq_ofNat_of_zero_le hk.1
    obtain ⟨v, rfl⟩ := Int.eq_ofNat_of_zero_le hv.1
    obtain ⟨b, rfl⟩ := Int.eq_ofNat_of_zero_le hb.1
    simp only [Int.toNat_natCast] at *
    have hk4 : k < 4 := by omega
    have hv4 : v < 4 := by omega
    have v1 := h1.1
    have u2 := h2.2.1
    obtain ⟨n, hn⟩ := Int.eq_ofNat_of_zero_le v1.1
    have ec := cor_v (M := M) (p := b) hk4 h1 (by omega)
    have key : tnR (vX M) (8 + 2 * k) (8 + 2 * v) b ↔ (corX M k b = M 22 v ∧ ∀ i : Nat, i < n → M 20 (30 * k + (i + b) % n) = M 20 (30 * v + i)) := by
      unfold tnR
      rw [ec, vX_b hv4, vX_n hk4, hn, Int.toNat_natCast]
      refine and_congr_right (fun _ => ?_)
      constructor
      · intro h i hi
        have hm : (i + b) % n < n := Nat.mod_lt _ (by omega)
        have := h i (by omega)
        rw [vX_i hk4 (by omega), vX_i hv4 (by omega)] at this
        exact this
      · intro h i hi
        have hm : (i + b) % n < n := Nat.mod_lt _ (by omega)
        rw [vX_i hk4 (by omega), vX_i hv4 (by omega)]
        exact h i (by omega)
    have q0 : ¬ tnR (vX M) (8 + 2 * k) (8 + 2 * v) b → Q (.inl (some (mm_I 0))) M d := fun h => hq 0 ⟨Or.inl rfl, fun h => by omega, fun h2 => absurd h2 h⟩
    have q1 : tnR (vX M) (8 + 2 * k) (8 + 2 * v) b → Q (.inl (some (mm_I 1))) M d := fun h => hq 1 ⟨Or.inr rfl, fun _ => h, fun _ => rfl⟩
    have n1 : ∀ c, (c = corX M k b ∧ 0 ≤ c ∧ c < 10) → c ≠ M 22 v → ¬ tnR (vX M) (8 + 2 * k) (8 + 2 * v) b := fun c hc h h2 => h (by rw [hc.1]; exact (key.mp h2).1)
    obtain ⟨K, hK, hK2⟩ : ∃ K : Nat → mm_K, (∀ t ls st M d u, K t ls st M d u → rr_X5_isTurnedBy Q t ls st M d u) ∧ (∀ t ls st M d u, rr_X5_isTurnedBy Q t ls st M d u → K t ls st M d u) := ⟨rr_X5_isTurnedBy Q, fun _ _ _ _ _ _ h => h, fun _ _ _ _ _ _ h => h⟩
    have k20 : ∀ c, (c = corX M k b ∧ 0 ≤ c ∧ c < 10) → c = M 22 v → K 20 [some (mm_R 17), some (mm_I k), some (mm_I v), some (mm_I b), some (mm_I 0)] [] M d 0 := fun c hc e1 => hK2 _ _ _ _ _ _ (lp_X5_isTurnedBy hk4 hv4 ht h1 h2 hn (by omega) (by omega) (fun h => q1 (key.mpr ⟨by rw [← hc.1]; exact e1, h⟩)) (fun i hi h => q0 (fun h2 => h ((key.mp h2).2 i hi))) n 0 (by omega) (fun x hx => by omega))
    refine ⟨Nat.le_of_ble_eq_true rfl, ?_⟩
    refine mm_run_at (stop := [20]) (S := K) kkX5_isTurnedBy 90 ?_ (fun _ _ _ _ _ _ _ h => hK _ _ _ _ _ _ h)
    repeat' (first | with_reducible assumption | with_reducible exact True.intro | with_reducible exact mm_i17 | with_reducible exact mm_i18 | with_reducible exact mm_i19 | with_reducible exact mm_i20 | with_reducible exact mm_i21 | with_reducible exact mm_i22 | ((with_reducible show mm_rv _ _ _ _ _); first | exact True.intro | exact mm_i17 | exact mm_i18 | exact mm_i19 | exact mm_i20 | exact mm_i21 | exact mm_i22 | ((with_reducible show mV _ _); exact h1)) | ((with_reducible show mV _ _); exact h1) | ((with_reducible show mm_bool _ _); first | exact True.intro | exact Or.inl rfl | exact Or.inr rfl | (show (_ : Int) = 0 ∨ _ = 1)) | rfl | with_reducible exact Or.inl rfl | with_reducible exact Or.inr rfl | exact Nat.le_of_ble_eq_true rfl | refine And.intro ?_ ?_ | intro _)
    all_goals (try simp (disch := omega) only [InI, Int.toNat_natCast, Int.tmod_eq_emod_of_nonneg, Int.tdiv_eq_ediv_of_nonneg, true_implies, true_or, or_true, mm_l18, mm_l19, mm_l20, mm_l21, mm_l22] at *)
    all_goals first | omega | exact q0 (n1 _ (by assumption) (by omega)) | exact k20 _ (by assumption) (by omega) | skip
  · exact h.elim
theorem me_X5_isTurnedBy {l : Launch} (hl : l.stackTraces = false) : mm_Met l yX5_isTurnedBy cX5_isTurnedBy 5 (some .boolean) [] 8 144 0 sp_X5_isTurnedBy := mm_mt hl rn_X5_isTurnedBy ⟨by decide, rfl⟩ kkX5_isTurnedBy rfl ⟨by decide, by decide⟩ flkX5 (fun _ h => nomatch h) (⟨mm_pe (me_X5_cornerOf hl) mwX5_cornerOf (mm_t6 185 rfl rfl) (Nat.le_of_ble_eq_true rfl) (Nat.le_of_ble_eq_true rfl), mm_pe (me_X5_stepOf hl) mwX5_stepOf (mm_t6 158 rfl rfl) (Nat.le_of_ble_eq_true rfl) (Nat.le_of_ble_eq_true rfl), trivial⟩) (mm_xe0 _)
theorem at_X5_turnTo_0 : mm_at 0 kdX5_turnTo = [(0, .aload_n 0, 0), (1, .iload_n 1, 0), (2, .iload_n 2, 0), (3, .invokevirtual 134, 0), (6, .ifCond .eq 5, 11), (9, .iconst 0, 0), (10, .ireturn, 0), (11, .aload_n 0, 0), (12, .iload_n 1, 0), (13, .invokevirtual 137, 0), (16, .ifCond .eq 18, 34), (19, .aload_n 0, 0), (20, .getfield 19, 0), (23, .iload_n 1, 0), (24, .iaload, 0), (25, .aload_n 0, 0), (26, .getfield 19, 0), (29, .iload_n 2, 0), (30, .iaload, 0), (31, .if_icmp .eq 5, 36), (34, .iconst (-1), 0), (35, .ireturn, 0), (36, .iconst 1, 0), (37, .istore_n 3, 0), (38, .iload_n 3, 0), (39, .aload_n 0, 0), (40, .getfield 19, 0), (43, .iload_n 1, 0), (44, .iaload, 0), (45, .if_icmp .ge 21, 66), (48, .aload_n 0, 0), (49, .iload_n 1, 0), (50, .iload_n 2, 0), (51, .iload_n 3, 0), (52, .invokevirtual 140, 0), (55, .ifCond .eq 5, 60), (58, .iload_n 3, 0), (59, .ireturn, 0), (60, .iinc 3 1, 0), (63, .goto (-25), 38), (66, .iconst (-1), 0), (67, .ireturn, 0)] := rfl
theorem at_X5_turnTo_11 : mm_at 11 kdX5_turnTo = [(11, .aload_n 0, 0), (12, .iload_n 1, 0), (13, .invokevirtual 137, 0), (16, .ifCond .eq 18, 34), (19, .aload_n 0, 0), (20, .getfield 19, 0), (23, .iload_n 1, 0), (24, .iaload, 0), (25, .aload_n 0, 0), (26, .getfield 19, 0), (29, .iload_n 2, 0), (30, .iaload, 0), (31, .if_icmp .eq 5, 36), (34, .iconst (-1), 0), (35, .ireturn, 0), (36, .iconst 1, 0), (37, .istore_n 3, 0), (38, .iload_n 3, 0), (39, .aload_n 0, 0), (40, .getfield 19, 0), (43, .iload_n 1, 0), (44, .iaload, 0), (45, .if_icmp .ge 21, 66), (48, .aload_n 0, 0), (49, .iload_n 1, 0), (50, .iload_n 2, 0), (51, .iload_n 3, 0), (52, .invokevirtual 140, 0), (55, .ifCond .eq 5, 60), (58, .iload_n 3, 0), (59, .ireturn, 0), (60, .iinc 3 1, 0), (63, .goto (-25), 38), (66, .iconst (-1), 0), (67, .ireturn, 0)] := rfl
theorem at_X5_turnTo_34 : mm_at 34 kdX5_turnTo = [(34, .iconst (-1), 0), (35, .ireturn, 0), (36, .iconst 1, 0), (37, .istore_n 3, 0), (38, .iload_n 3, 0), (39, .aload_n 0, 0), (40, .getfield 19, 0), (43, .iload_n 1, 0), (44, .iaload, 0), (45, .if_icmp .ge 21, 66), (48, .aload_n 0, 0), (49, .iload_n 1, 0), (50, .iload_n 2, 0), (51, .iload_n 3, 0), (52, .invokevirtual 140, 0), (55, .ifCond .eq 5, 60), (58, .iload_n 3, 0), (59, .ireturn, 0), (60, .iinc 3 1, 0), (63, .goto (-25), 38), (66, .iconst (-1), 0), (67, .ireturn, 0)] := rfl
theorem at_X5_turnTo_36 : mm_at 36 kdX5_turnTo = [(36, .iconst 1, 0), (37, .istore_n 3, 0), (38, .iload_n 3, 0), (39, .aload_n 0, 0), (40, .getfield 19, 0), (43, .iload_n 1, 0), (44, .iaload, 0), (45, .if_icmp .ge 21, 66), (48, .aload_n 0, 0), (49, .iload_n 1, 0), (50, .iload_n 2, 0), (51, .iload_n 3, 0), (52, .invokevirtual 140, 0), (55, .ifCond .eq 5, 60), (58, .iload_n 3, 0), (59, .ireturn, 0), (60, .iinc 3 1, 0), (63, .goto (-25), 38), (66, .iconst (-1), 0), (67, .ireturn, 0)] := rfl
theorem at_X5_turnTo_38 : mm_at 38 kdX5_turnTo = [(38, .iload_n 3, 0), (39, .aload_n 0, 0), (40, .getfield 19, 0), (43, .iload_n 1, 0), (44, .iaload, 0), (45, .if_icmp .ge 21, 66), (48, .aload_n 0, 0), (49, .iload_n 1, 0), (50, .iload_n 2, 0), (51, .iload_n 3, 0), (52, .invokevirtual 140, 0), (55, .ifCond .eq 5, 60), (58, .iload_n 3, 0), (59, .ireturn, 0), (60, .iinc 3 1, 0), (63, .goto (-25), 38), (66, .iconst (-1), 0), (67, .ireturn, 0)] := rfl
theorem at_X5_turnTo_60 : mm_at 60 kdX5_turnTo = [(60, .iinc 3 1, 0), (63, .goto (-25), 38), (66, .iconst (-1), 0), (67, .ireturn, 0)] := rfl
theorem at_X5_turnTo_66 : mm_at 66 kdX5_turnTo = [(66, .iconst (-1), 0), (67, .ireturn, 0)] := rfl
def sp_X5_turnTo : mm_S := fun av M d Q => match av with
  | [.inr (.inr (.inl o)), .inl k, .inl v] =>  o = 17 ∧ tX M ∧ (0 ≤ k ∧ k < 4) ∧ (0 ≤ v ∧ v < 4) ∧ mV M k.toNat ∧ mV M v.toNat ∧ ∀ r, (-1 ≤ r ∧ r ≤ 30) ∧ tuR (vX M) (8 + 2 * k.toNat) (8 + 2 * v.toNat) r → Q (.inl (some (mm_I r))) M d
  | _ => False
def ct_X5_turnTo : List (Nat × mm_Ca) := [(134, (0, 3, 14, sp_X5_isSame, 0)), (137, (0, 2, 14, sp_X5_isHome, 0)), (140, (0, 4, 14, sp_X5_isTurnedBy, 0))]
abbrev rr_X5_turnTo (Q : mm_Q) := mm_run (mm_look flX5) (mm_look ct_X5_turnTo) mm_x0 (mm_look ([] : List (Nat × Int))) (fun _ => none) 1 0 (fun _ _ => none) Q kdX5_turnTo
set_option maxRecDepth 20000 in
theorem lp_X5_turnTo {M : mm_M} {d : List Nat} {Q : mm_Q} {k v n : Nat} (hk : k < 4) (hv : v < 4) (ht : tX M) (h1 : mV M k) (h2 : mV M v) (hn : M 21 k = n) (hnv : M 21 v = n) (hq : ∀ r : Int, (-1 ≤ r ∧ r ≤ 30) ∧ ((r = -1 ∧ ∀ b : Nat, 1 ≤ b → b < n → ¬ tnR (vX M) (8 + 2 * k) (8 + 2 * v) b) ∨ ∃ b : Nat, r = b ∧ 1 ≤ b ∧ b < n ∧ tnR (vX M) (8 + 2 * k) (8 + 2 * v) b ∧ ∀ b' : Nat, 1 ≤ b' → b' < b → ¬ tnR (vX M) (8 + 2 * k) (8 + 2 * v) b') → Q (.inl (some (mm_I r))) M d) : ∀ (j i : Nat), n ≤ i + j → i ≤ n + 1 → 1 ≤ i → (∀ b : Nat, 1 ≤ b → b < i → b < n → ¬ tnR (vX M) (8 + 2 * k) (8 + 2 * v) b) → rr_X5_turnTo Q 38 [some (mm_R 17), some (mm_I k), some (mm_I v), some (mm_I i)] [] M d 0 := by
  have v1 := h1.1
  intro j
  induction j with
  | zero =>
    intro i hi hi2 hi1 hx
    have h9 := hq (-1) ⟨by omega, Or.inl ⟨rfl, fun b b1 b2 => hx b b1 (by omega) b2⟩⟩
    obtain ⟨K, hK, hK2⟩ : ∃ K : Nat → mm_K, (∀ t ls st M d u, K t ls st M d u → rr_X5_turnTo Q t ls st M d u) ∧ (∀ t ls st M d u, rr_X5_turnTo Q t ls st M d u → K t ls st M d u) := ⟨rr_X5_turnTo Q, fun _ _ _ _ _ _ h => h, fun _ _ _ _ _ _ h => h⟩
    refine mm_run_at (stop := [48]) (S := K) kkX5_turnTo 90 ?_ (fun _ _ _ _ _ _ _ h => hK _ _ _ _ _ _ h)
    repeat' (first | with_reducible assumption | with_reducible exact True.intro | with_reducible exact mm_i17 | with_reducible exact mm_i18 | with_reducible exact mm_i19 | with_reducible exact mm_i20 | with_reducible exact mm_i21 | with_reducible exact mm_i22 | ((with_reducible show mm_rv _ _ _ _ _); first | exact True.intro | exact mm_i17 | exact mm_i18 | exact mm_i19 | exact mm_i20 | exact mm_i21 | exact mm_i22) | ((with_reducible show mm_bool _ _); first | exact True.intro | exact Or.inl rfl | exact Or.inr rfl | (show (_ : Int) = 0 ∨ _ = 1)) | rfl | with_reducible exact Or.inl rfl | with_reducible exact Or.inr rfl | exact Nat.le_of_ble_eq_true rfl | refine And.intro ?_ ?_ | intro _)
    all_goals (try simp (disch := omega) only [InI, Int.toNat_natCast, Int.tmod_eq_emod_of_nonneg, Int.tdiv_eq_ediv_of_nonneg, true_implies, true_or, or_true, mm_l18, mm_l19, mm_l20, mm_l21, mm_l22] at *)
    all_goals first | omega | exact h9 | skip
  | succ j ih =>
    intro i hi hi2 hi1 hx
    have h9 : n ≤ i → Q (.inl (some (mm_I (-1)))) M d := fun h => hq (-1) ⟨by omega, Or.inl ⟨rfl, fun b b1 b2 => hx b b1 (by omega) b2⟩⟩
    have hl : M 21 k = M 21 v := by omega
    obtain ⟨K, hK, hK2⟩ : ∃ K : Nat → mm_K, (∀ t ls st M d u, K t ls st M d u → rr_X5_turnTo Q t ls st M d u) ∧ (∀ t ls st M d u, rr_X5_turnTo Q t ls st M d u → K t ls st M d u) := ⟨rr_X5_turnTo Q, fun _ _ _ _ _ _ h => h, fun _ _ _ _ _ _ h => h⟩
    have k55 : i < n → ∀ r, (r = 0 ∨ r = 1) ∧ (r = 1 ↔ tnR (vX M) (8 + 2 * k) (8 + 2 * v) i) → K 55 [some (mm_R 17), some (mm_I k), some (mm_I v), some (mm_I i)] [mm_I r] M d 0 := by
      intro hin r hr
      have q1 : r ≠ 0 → Q (.inl (some (mm_I i))) M d := fun h => hq i ⟨by omega, Or.inr ⟨i, rfl, hi1, hin, hr.2.mp (by omega), fun b b1 b2 => hx b b1 b2 (by omega)⟩⟩
      have st : r = 0 → K 38 [some (mm_R 17), some (mm_I k), some (mm_I v), some (mm_I ((i : Int) + 1))] [] M d 0 := fun h => hK2 _ _ _ _ _ _ (ih (i + 1) (by omega) (by omega) (by omega) (fun b b1 b2 b3 => by
        by_cases e : b = i
        · subst e
          exact fun h3 => by have := hr.2.mpr h3; omega
        · exact hx b b1 (by omega) b3))
      have hr1 := hr.1
      clear hr
      refine hK2 _ _ _ _ _ _ ?_
      refine mm_run_at (stop := [38]) (S := K) kkX5_turnTo 90 ?_ (fun _ _ _ _ _ _ _ h => hK _ _ _ _ _ _ h)
      repeat' (first | with_reducible assumption | with_reducible exact True.intro | with_reducible exact mm_i17 | with_reducible exact mm_i18 | with_reducible exact mm_i19 | with_reducible exact mm_i20 | with_reducible exact mm_i21 | with_reducible exact mm_i22 | ((with_reducible show mm_rv _ _ _ _ _); first | exact True.intro | exact mm_i17 | exact mm_i18 | exact mm_i19 | exact mm_i20 | exact mm_i21 | exact mm_i22) | ((with_reducible show mm_bool _ _); first | exact True.intro | exact Or.inl rfl | exact Or.inr rfl | (show (_ : Int) = 0 ∨ _ = 1)) | rfl | with_reducible exact Or.inl rfl | with_reducible exact Or.inr rfl | exact Nat.le_of_ble_eq_true rfl | refine And.intro ?_ ?_ | intro _)
      all_goals (try simp (disch := omega) only [InI, Int.toNat_natCast, Int.tmod_eq_emod_of_nonneg, Int.tdiv_eq_ediv_of_nonneg, true_implies, true_or, or_true, mm_l18, mm_l19, mm_l20, mm_l21, mm_l22] at *)
      all_goals first | omega | exact q1 (by omega) | exact st (by omega) | skip
    refine mm_run_at (stop := [38, 55]) (S := K) kkX5_turnTo 90 ?_ (fun _ _ _ _ _ _ _ h => hK _ _ _ _ _ _ h)
    repeat' (first | with_reducible assumption | with_reducible exact True.intro | with_reducible exact mm_i17 | with_reducible exact mm_i18 | with_reducible exact mm_i19 | with_reducible exact mm_i20 | with_reducible exact mm_i21 | with_reducible exact mm_i22 | ((with_reducible show mm_rv _ _ _ _ _); first | exact True.intro | exact mm_i17 | exact mm_i18 | exact mm_i19 | exact mm_i20 | exact mm_i21 | exact mm_i22 | ((with_reducible show mV _ _); exact h1) | ((with_reducible show mV _ _); exact h2)) | ((with_reducible show mV _ _); exact h1) | ((with_reducible show mV _ _); exact h2) | ((with_reducible show mm_bool _ _); first | exact True.intro | exact Or.inl rfl | exact Or.inr rfl | (show (_ : Int) = 0 ∨ _ = 1)) | rfl | with_reducible exact Or.inl rfl | with_reducible exact Or.inr rfl | exact Nat.le_of_ble_eq_true rfl | refine And.intro ?_ ?_ | intro _)
    all_goals (try simp (disch := omega) only [InI, Int.toNat_natCast, Int.tmod_eq_emod_of_nonneg, Int.tdiv_eq_ediv_of_nonneg, true_implies, true_or, or_true, mm_l18, mm_l19, mm_l20, mm_l21, mm_l22] at *)
    all_goals first | omega | exact h9 (by omega) | exact k55 (by omega) _ (by assumption) | skip
set_option maxRecDepth 20000 in
theorem rn_X5_turnTo : mm_RN flX5 ct_X5_turnTo mm_x0 [] 1 0 4 kdX5_turnTo sp_X5_turnTo := by
  intro av M d Q h
  unfold sp_X5_turnTo at h
  split at h
  · rename_i o k v
    obtain ⟨rfl, ht, hk, hv, h1, h2, hq⟩ := h
    obtain ⟨k, rfl⟩ := Int.eq_ofNat_of_zero_le hk.1
    obtain ⟨v, rfl⟩ := Int.eq_ofNat_of_zero_le hv.1
    simp only [Int.toNat_natCast] at *
    have hk4 : k < 4 := by omega
    have hv4 : v < 4 := by omega
    have v1 := h1.1
    have u1 := h2.1
    have en := vX_n (M := M) hk4
    have env := vX_n (M := M) hv4
    have hB : stB M := ht.1
    obtain ⟨n, hn⟩ := Int.eq_ofNat_of_zero_le v1.1
    obtain ⟨K, hK, hK2⟩ : ∃ K : Nat → mm_K, (∀ t ls st M d u, K t ls st M d u → rr_X5_turnTo Q t ls st M d u) ∧ (∀ t ls st M d u, rr_X5_turnTo Q t ls st M d u → K t ls st M d u) := ⟨rr_X5_turnTo Q, fun _ _ _ _ _ _ h => h, fun _ _ _ _ _ _ h => h⟩
    have k36 : ¬ smR (vX M) (8 + 2 * k) (8 + 2 * v) → cor (vX M) (8 + 2 * k) (vX M (8 + 2 * k) 2) = vX M (8 + 2 * k) 3 → M 21 k = M 21 v → K 38 [some (mm_R 17), some (mm_I k), some (mm_I v), some (mm_I 1)] [] M d 0 := by
      intro hs hh hl
      refine hK2 _ _ _ _ _ _ (lp_X5_turnTo hk4 hv4 ht h1 h2 hn (by omega) (fun r hr => hq r ⟨hr.1, Or.inr ⟨hs, Or.inr ⟨⟨hh, by rw [en, env]; exact hl⟩, ?_⟩⟩⟩) n 1 (by omega) (by omega) (by omega) (fun b b1 b2 => by omega))
      rw [en, hn]
      rcases hr.2 with h | ⟨b, e1, e2, e3, e4, e5⟩
      · exact Or.inl ⟨h.1, fun b b1 b2 => h.2 b b1 (by omega)⟩
      · exact Or.inr ⟨b, e1, e2, by omega, e4, e5⟩
    have k16 : ¬ smR (vX M) (8 + 2 * k) (8 + 2 * v) → ∀ r, (r = 0 ∨ r = 1) ∧ (r = 1 ↔ cor (vX M) (8 + 2 * k) (vX M (8 + 2 * k) 2) = vX M (8 + 2 * k) 3) → K 16 [some (mm_R 17), some (mm_I k), some (mm_I v), none] [mm_I r] M d 0 := by
      intro hs r hr
      have q0 : ¬ (cor (vX M) (8 + 2 * k) (vX M (8 + 2 * k) 2) = vX M (8 + 2 * k) 3 ∧ vX M (8 + 2 * k) 2 = vX M (8 + 2 * v) 2) → Q (.inl (some (mm_I (-1)))) M d := fun h => hq (-1) ⟨by omega, Or.inr ⟨hs, Or.inl ⟨h, rfl⟩⟩⟩
      have q2 : r = 0 → Q (.inl (some (mm_I (-1)))) M d := fun h => q0 (fun h2 => by have := hr.2.mpr h2.1; omega)
      have q3 : M 21 k ≠ M 21 v → Q (.inl (some (mm_I (-1)))) M d := fun h => q0 (fun h2 => h (by rw [← en, ← env]; exact h2.2))
      have k38 : r ≠ 0 → M 21 k = M 21 v → K 38 [some (mm_R 17), some (mm_I k), some (mm_I v), some (mm_I 1)] [] M d 0 := fun h h2 => k36 hs (hr.2.mp (by omega)) h2
      have hr1 := hr.1
      clear hr
      refine hK2 _ _ _ _ _ _ ?_
      refine mm_run_at (stop := [38]) (S := K) kkX5_turnTo 90 ?_ (fun _ _ _ _ _ _ _ h => hK _ _ _ _ _ _ h)
      repeat' (first | with_reducible assumption | with_reducible exact True.intro | with_reducible exact mm_i17 | with_reducible exact mm_i18 | with_reducible exact mm_i19 | with_reducible exact mm_i20 | with_reducible exact mm_i21 | with_reducible exact mm_i22 | ((with_reducible show mm_rv _ _ _ _ _); first | exact True.intro | exact mm_i17 | exact mm_i18 | exact mm_i19 | exact mm_i20 | exact mm_i21 | exact mm_i22) | ((with_reducible show mm_bool _ _); first | exact True.intro | exact Or.inl rfl | exact Or.inr rfl | (show (_ : Int) = 0 ∨ _ = 1)) | rfl | with_reducible exact Or.inl rfl | with_reducible exact Or.inr rfl | exact Nat.le_of_ble_eq_true rfl | refine And.intro ?_ ?_ | intro _)
      all_goals (try simp (disch := omega) only [InI, Int.toNat_natCast, Int.tmod_eq_emod_of_nonneg, Int.tdiv_eq_ediv_of_nonneg, true_implies, true_or, or_true, mm_l18, mm_l19, mm_l20, mm_l21, mm_l22] at *)
      all_goals first | omega | exact q2 (by omega) | exact q3 (by omega) | exact k38 (by omega) (by omega) | skip
    have k6 : ∀ r, (r = 0 ∨ r = 1) ∧ (r = 1 ↔ smR (vX M) (8 + 2 * k) (8 + 2 * v)) → K 6 [some (mm_R 17), some (mm_I k), some (mm_I v), none] [mm_I r] M d 0 := by
      intro r hr
      have q1 : r ≠ 0 → Q (.inl (some (mm_I 0))) M d := fun h => hq 0 ⟨by omega, Or.inl ⟨hr.2.mp (by omega), rfl⟩⟩
      have k16' : r = 0 → _ := fun h => k16 (fun h2 => by have := hr.2.mpr h2; omega)
      have hr1 := hr.1
      clear hr
      refine hK2 _ _ _ _ _ _ ?_
      refine mm_run_at (stop := [16]) (S := K) kkX5_turnTo 90 ?_ (fun _ _ _ _ _ _ _ h => hK _ _ _ _ _ _ h)
      repeat' (first | with_reducible assumption | with_reducible exact True.intro | with_reducible exact mm_i17 | with_reducible exact mm_i18 | with_reducible exact mm_i19 | with_reducible exact mm_i20 | with_reducible exact mm_i21 | with_reducible exact mm_i22 | ((with_reducible show mm_rv _ _ _ _ _); first | exact True.intro | exact mm_i17 | exact mm_i18 | exact mm_i19 | exact mm_i20 | exact mm_i21 | exact mm_i22 | ((with_reducible show mV _ _); exact h1)) | ((with_reducible show mV _ _); exact h1) | ((with_reducible show mm_bool _ _); first | exact True.intro | exact Or.inl rfl | exact Or.inr rfl | (show (_ : Int) = 0 ∨ _ = 1)) | rfl | with_reducible exact Or.inl rfl | with_reducible exact Or.inr rfl | exact Nat.le_of_ble_eq_true rfl | refine And.intro ?_ ?_ | intro _)
      all_goals (try simp (disch := omega) only [InI, Int.toNat_natCast, Int.tmod_eq_emod_of_nonneg, Int.tdiv_eq_ediv_of_nonneg, true_implies, true_or, or_true, mm_l18, mm_l19, mm_l20, mm_l21, mm_l22] at *)
      all_goals first | omega | exact q1 (by omega) | exact k16' (by omega) _ (by assumption) | skip
    refine ⟨Nat.le_of_ble_eq_true rfl, ?_⟩
    refine mm_run_at (stop := [6]) (S := K) kkX5_turnTo 90 ?_ (fun _ _ _ _ _ _ _ h => hK _ _ _ _ _ _ h)
    repeat' (first | with_reducible assumption | with_reducible exact True.intro | with_reducible exact mm_i17 | with_reducible exact mm_i18 | with_reducible exact mm_i19 | with_reducible exact mm_i20 | with_reducible exact mm_i21 | with_reducible exact mm_i22 | ((with_reducible show mm_rv _ _ _ _ _); first | exact True.intro | exact mm_i17 | exact mm_i18 | exact mm_i19 | exact mm_i20 | exact mm_i21 | exact mm_i22 | ((with_reducible show mV _ _); exact h1) | ((with_reducible show mV _ _); exact h2)) | ((with_reducible show mV _ _); exact h1) | ((with_reducible show mV _ _); exact h2) | ((with_reducible show mm_bool _ _); first | exact True.intro | exact Or.inl rfl | exact Or.inr rfl | (show (_ : Int) = 0 ∨ _ = 1)) | rfl | with_reducible exact Or.inl rfl | with_reducible exact Or.inr rfl | exact Nat.le_of_ble_eq_true rfl | refine And.intro ?_ ?_ | intro _)
    all_goals (try simp (disch := omega) only [InI, Int.toNat_natCast, Int.tmod_eq_emod_of_nonneg, Int.tdiv_eq_ediv_of_nonneg, true_implies, true_or, or_true, mm_l18, mm_l19, mm_l20, mm_l21, mm_l22] at *)
    all_goals first | omega | exact k6 _ (by assumption) | skip
  · exact h.elim
theorem me_X5_turnTo {l : Launch} (hl : l.stackTraces = false) : mm_Met l yX5_turnTo cX5_turnTo 4 (some .int) [] 10 186 0 sp_X5_turnTo := mm_mt hl rn_X5_turnTo ⟨by decide, rfl⟩ kkX5_turnTo rfl ⟨by decide, by decide⟩ flkX5 (fun _ h => nomatch h) (⟨mm_pe (me_X5_isSame hl) mwX5_isSame (mm_t7 172 rfl rfl) (Nat.le_of_ble_eq_true rfl) (Nat.le_of_ble_eq_true rfl), mm_pe (me_X5_isHome hl) mwX5_isHome (mm_t7 92 rfl rfl) (Nat.le_of_ble_eq_true rfl) (Nat.le_of_ble_eq_true rfl), mm_pe (me_X5_isTurnedBy hl) mwX5_isTurnedBy (mm_t7 184 rfl rfl) (Nat.le_of_ble_eq_true rfl) (Nat.le_of_ble_eq_true rfl), trivial⟩) (mm_xe0 _)

