/-! the model in order; its small questions -/
def xA (M : mm_M) : Prop := wA (vX M) ∧ (-1 ≤ M 17 10 ∧ M 17 10 ≤ 2)
/-- what every call leaves -/
def xP (M M' : mm_M) : Prop := fX M M' ∧ cP (vX M) (vX M') ∧ (-1 ≤ M' 17 10 ∧ M' 17 10 ≤ 2)
theorem xP.a {M M' : mm_M} (h : xP M M') : xA M' := ⟨h.2.1.1, h.2.2⟩
theorem xP.tr {M M' M'' : mm_M} (h : xP M M') (h2 : xP M' M'') : xP M M'' := ⟨h.1.tr h2.1, h.2.1.tr h2.2.1, h2.2.2⟩
theorem xA.rf {M : mm_M} (h : xA M) : xP M M := ⟨fX.rf, h.1.rf, h.2⟩
theorem xA.t {M : mm_M} (h : xA M) : tX M := h.1.1
theorem isW3k {k : Nat} (h : k < 3) : isW3 (8 + 2 * k) := by unfold isW3; omega
theorem xA.v {M : mm_M} {k : Nat} (h : xA M) (hk : k < 3) : mV M k := (mV_i (by omega)).mpr (h.1.2.1 _ (isW3k hk)).1
theorem xA.d {M : mm_M} {k : Nat} (h : xA M) (hk : k < 3) : wD (vX M) (8 + 2 * k) := (h.1.2.1 _ (isW3k hk)).2
theorem xA.l {M : mm_M} (h : xA M) : M 17 13 = 0 ∨ M 17 13 = 1 := h.1.2.2.2.1
theorem xA.p {M : mm_M} (h : xA M) (h1 : M 17 10 ≠ -1) (h2 : M 17 13 = 0) : (0 ≤ M 17 10 ∧ M 17 10 ≤ 2) ∧ (0 ≤ M 17 11 ∧ M 17 11 ≤ M 21 (M 17 10).toNat) ∧ (-1 ≤ M 17 12 ∧ M 17 12 < M 21 (M 17 10).toNat) := by
  have h3 := h.2
  obtain ⟨c1, c2, c3⟩ := h.1.2.2
  rw [vX_c1, if_neg h1, vX_c2, vX_c3, vX_c4] at c3
  have h5 := c3 (by omega) h2
  have e : (8 + 2 * M 17 10).toNat = 8 + 2 * (M 17 10).toNat := by omega
  rw [e, vX_n (by omega)] at h5
  exact ⟨by omega, h5.1, h5.2⟩
theorem xP_s {M : mm_M} {v : Int} (h : xA M) : xP M (mm_up M 17 0 v) := ⟨fX.rf.up (by omega), by rw [vX_u0]; exact h.1.rf, by rw [mm_up_ob2 (by omega)]; exact h.2⟩
theorem xA.s {M : mm_M} {v : Int} (h : xA M) : xA (mm_up M 17 0 v) := (xP_s h).a
def sp_X5_ruleOf : mm_S := fun av M d Q => match av with
  | [.inr (.inr (.inl o)), .inl x] =>  o = 17 ∧ (M 17 4 = 0 ∨ M 17 4 = 1) ∧ InI x ∧ Q (.inl (some (mm_I (if x = 0 then M 17 5 else if x = 1 then M 17 6 else M 17 4)))) M d
  | _ => False
def ct_X5_ruleOf : List (Nat × mm_Ca) := [(56, (1, 1, 0, sp_X5_one, 0))]
abbrev rr_X5_ruleOf (Q : mm_Q) := mm_run (mm_look flX5) (mm_look ct_X5_ruleOf) mm_x0 (mm_look ([] : List (Nat × Int))) (fun _ => none) 1 0 (fun _ _ => none) Q kdX5_ruleOf
set_option maxRecDepth 20000 in
theorem rn_X5_ruleOf : mm_RN flX5 ct_X5_ruleOf mm_x0 [] 1 0 2 kdX5_ruleOf sp_X5_ruleOf := by
  intro av M d Q h
  unfold sp_X5_ruleOf at h
  split at h
  · rename_i o x
    obtain ⟨rfl, h4, hx, hq⟩ := h
    have q0 : x = 0 → Q (.inl (some (mm_I (M 17 5)))) M d := fun h => by rw [if_pos h] at hq; exact hq
    have q1 : x ≠ 0 → x = 1 → Q (.inl (some (mm_I (M 17 6)))) M d := fun h h2 => by rw [if_neg h, if_pos h2] at hq; exact hq
    have q2 : x ≠ 0 → x ≠ 1 → Q (.inl (some (mm_I (M 17 4)))) M d := fun h h2 => by rw [if_neg h, if_neg h2] at hq; exact hq
    obtain ⟨K, hK, hK2⟩ : ∃ K : Nat → mm_K, (∀ t ls st M d u, K t ls st M d u → rr_X5_ruleOf Q t ls st M d u) ∧ (∀ t ls st M d u, rr_X5_ruleOf Q t ls st M d u → K t ls st M d u) := ⟨rr_X5_ruleOf Q, fun _ _ _ _ _ _ h => h, fun _ _ _ _ _ _ h => h⟩
    refine ⟨Nat.le_of_ble_eq_true rfl, mm_run_at (stop := []) (S := K) kkX5_ruleOf 90 ?_ (fun _ _ _ _ _ _ _ h => hK _ _ _ _ _ _ h)⟩
    repeat' (first | with_reducible assumption | with_reducible exact True.intro | with_reducible exact mm_i17 | with_reducible exact mm_i18 | with_reducible exact mm_i19 | with_reducible exact mm_i20 | with_reducible exact mm_i21 | with_reducible exact mm_i22 | ((with_reducible show mm_rv _ _ _ _ _); first | exact True.intro | exact mm_i17 | exact mm_i18 | exact mm_i19 | exact mm_i20 | exact mm_i21 | exact mm_i22) | ((with_reducible show mm_bool _ _); first | exact True.intro | exact Or.inl rfl | exact Or.inr rfl | (show (_ : Int) = 0 ∨ _ = 1)) | rfl | with_reducible exact Or.inl rfl | with_reducible exact Or.inr rfl | exact Nat.le_of_ble_eq_true rfl | refine And.intro ?_ ?_ | intro _)
    all_goals (try simp (disch := omega) only [InI, Int.toNat_natCast, Int.tmod_eq_emod_of_nonneg, Int.tdiv_eq_ediv_of_nonneg, true_implies, true_or, or_true, mm_l18, mm_l19, mm_l20, mm_l21, mm_l22] at *)
    all_goals first | omega | exact q0 (by omega) | exact q1 (by omega) (by omega) | exact q2 (by omega) (by omega) | skip
  · exact h.elim
theorem me_X5_ruleOf {l : Launch} (hl : l.stackTraces = false) : mm_Met l yX5_ruleOf cX5_ruleOf 2 (some .int) [] 7 120 0 sp_X5_ruleOf := mm_mt hl rn_X5_ruleOf ⟨by decide, rfl⟩ kkX5_ruleOf rfl ⟨by decide, by decide⟩ flkX5 (fun _ h => nomatch h) (⟨mm_pe (me_X5_one hl) mwX5_one (mm_t6 170 rfl rfl) (Nat.le_of_ble_eq_true rfl) (Nat.le_of_ble_eq_true rfl), trivial⟩) (mm_xe0 _)
def sp_X5_canGo : mm_S := fun av M d Q => match av with
  | [.inr (.inr (.inl o)), .inl f] =>  o = 17 ∧ xA M ∧ (f = 0 ∨ f = 1) ∧ ∀ r, (r = 0 ∨ r = 1) ∧ (r = 1 ↔ (M 17 10 ≠ -1 ∧ M 17 13 = 0 ∧ (f ≠ 0 → M 17 11 < M 21 (M 17 10).toNat) ∧ (f = 0 → 0 < M 17 11))) → Q (.inl (some (mm_I r))) M d
  | _ => False
def ct_X5_canGo : List (Nat × mm_Ca) := [(240, (0, 1, 14, sp_X5_isThere, 0))]
abbrev rr_X5_canGo (Q : mm_Q) := mm_run (mm_look flX5) (mm_look ct_X5_canGo) mm_x0 (mm_look ([] : List (Nat × Int))) (fun _ => none) 2 0 (fun _ _ => none) Q kdX5_canGo
set_option maxRecDepth 20000 in
theorem rn_X5_canGo : mm_RN flX5 ct_X5_canGo mm_x0 [] 2 0 2 kdX5_canGo sp_X5_canGo := by
  intro av M d Q h
  unfold sp_X5_canGo at h
  split at h
  · rename_i o f
    obtain ⟨rfl, ha, hf, hq⟩ := h
    have l := ha.l
    have l2 := ha.2
    by_cases hc : M 17 10 ≠ -1 ∧ M 17 13 = 0
    · have hp := ha.p hc.1 hc.2
      have v1 := (ha.v (k := (M 17 10).toNat) (by omega)).1
      have hq0 : ¬ ((f ≠ 0 → M 17 11 < M 21 (M 17 10).toNat) ∧ (f = 0 → 0 < M 17 11)) → Q (.inl (some (mm_I 0))) M d := fun h => hq 0 ⟨Or.inl rfl, ⟨fun h => by omega, fun h2 => absurd h2.2.2 h⟩⟩
      have hq1 : ((f ≠ 0 → M 17 11 < M 21 (M 17 10).toNat) ∧ (f = 0 → 0 < M 17 11)) → Q (.inl (some (mm_I 1))) M d := fun h => hq 1 ⟨Or.inr rfl, ⟨fun _ => ⟨hc.1, hc.2, h⟩, fun _ => rfl⟩⟩
      obtain ⟨K, hK, hK2⟩ : ∃ K : Nat → mm_K, (∀ t ls st M d u, K t ls st M d u → rr_X5_canGo Q t ls st M d u) ∧ (∀ t ls st M d u, rr_X5_canGo Q t ls st M d u → K t ls st M d u) := ⟨rr_X5_canGo Q, fun _ _ _ _ _ _ h => h, fun _ _ _ _ _ _ h => h⟩
      have k4 : K 4 [some (mm_R 17), some (mm_I f)] [mm_I 1] M d 0 := by
        refine hK2 _ _ _ _ _ _ ?_
        refine mm_run_at (stop := []) (S := K) kkX5_canGo 90 ?_ (fun _ _ _ _ _ _ _ h => hK _ _ _ _ _ _ h)
        repeat' (first | with_reducible assumption | with_reducible exact True.intro | with_reducible exact mm_i17 | with_reducible exact mm_i18 | with_reducible exact mm_i19 | with_reducible exact mm_i20 | with_reducible exact mm_i21 | with_reducible exact mm_i22 | ((with_reducible show mm_rv _ _ _ _ _); first | exact True.intro | exact mm_i17 | exact mm_i18 | exact mm_i19 | exact mm_i20 | exact mm_i21 | exact mm_i22) | ((with_reducible show mm_bool _ _); first | exact True.intro | exact Or.inl rfl | exact Or.inr rfl | (show (_ : Int) = 0 ∨ _ = 1)) | rfl | with_reducible exact Or.inl rfl | with_reducible exact Or.inr rfl | exact Nat.le_of_ble_eq_true rfl | refine And.intro ?_ ?_ | intro _)
        all_goals (try simp (disch := omega) only [InI, Int.toNat_natCast, Int.tmod_eq_emod_of_nonneg, Int.tdiv_eq_ediv_of_nonneg, true_implies, true_or, or_true, mm_l18, mm_l19, mm_l20, mm_l21, mm_l22] at *)
        all_goals first | omega | exact hq0 (by omega) | exact hq1 (by omega) | skip
      refine ⟨Nat.le_of_ble_eq_true rfl, ?_⟩
      refine mm_run_at (stop := [4]) (S := K) kkX5_canGo 90 ?_ (fun _ _ _ _ _ _ _ h => hK _ _ _ _ _ _ h)
      refine mm_c5 rfl (Nat.le_of_ble_eq_true rfl) (by exact mm_i17) (Nat.le_of_ble_eq_true rfl) (Nat.le_of_ble_eq_true rfl) (mm_a4 rfl ⟨by omega, by omega⟩ l (fun r hr => ?_))
      rw [hr.1 hc]
      exact k4
    · have h0 := hq 0 ⟨Or.inl rfl, ⟨fun h => by omega, fun h => absurd ⟨h.1, h.2.1⟩ hc⟩⟩
      obtain ⟨K, hK, hK2⟩ : ∃ K : Nat → mm_K, (∀ t ls st M d u, K t ls st M d u → rr_X5_canGo Q t ls st M d u) ∧ (∀ t ls st M d u, rr_X5_canGo Q t ls st M d u → K t ls st M d u) := ⟨rr_X5_canGo Q, fun _ _ _ _ _ _ h => h, fun _ _ _ _ _ _ h => h⟩
      have k4 : K 4 [some (mm_R 17), some (mm_I f)] [mm_I 0] M d 0 := by
        refine hK2 _ _ _ _ _ _ ?_
        refine mm_run_at (stop := [7]) (S := K) kkX5_canGo 90 ?_ (fun _ _ _ _ _ _ _ h => hK _ _ _ _ _ _ h)
        repeat' (first | with_reducible assumption | with_reducible exact True.intro | with_reducible exact mm_i17 | with_reducible exact mm_i18 | with_reducible exact mm_i19 | with_reducible exact mm_i20 | with_reducible exact mm_i21 | with_reducible exact mm_i22 | ((with_reducible show mm_rv _ _ _ _ _); first | exact True.intro | exact mm_i17 | exact mm_i18 | exact mm_i19 | exact mm_i20 | exact mm_i21 | exact mm_i22) | ((with_reducible show mm_bool _ _); first | exact True.intro | exact Or.inl rfl | exact Or.inr rfl | (show (_ : Int) = 0 ∨ _ = 1)) | rfl | with_reducible exact Or.inl rfl | with_reducible exact Or.inr rfl | exact Nat.le_of_ble_eq_true rfl | refine And.intro ?_ ?_ | intro _)
        all_goals (try simp (disch := omega) only [InI, Int.toNat_natCast, Int.tmod_eq_emod_of_nonneg, Int.tdiv_eq_ediv_of_nonneg, true_implies, true_or, or_true, mm_l18, mm_l19, mm_l20, mm_l21, mm_l22] at *)
        all_goals first | omega | exact h0 | skip
      refine ⟨Nat.le_of_ble_eq_true rfl, ?_⟩
      refine mm_run_at (stop := [4]) (S := K) kkX5_canGo 90 ?_ (fun _ _ _ _ _ _ _ h => hK _ _ _ _ _ _ h)
      refine mm_c5 rfl (Nat.le_of_ble_eq_true rfl) (by exact mm_i17) (Nat.le_of_ble_eq_true rfl) (Nat.le_of_ble_eq_true rfl) (mm_a4 rfl ⟨by omega, by omega⟩ l (fun r hr => ?_))
      rw [hr.2 hc]
      exact k4
  · exact h.elim
theorem me_X5_canGo {l : Launch} (hl : l.stackTraces = false) : mm_Met l yX5_canGo cX5_canGo 2 (some .boolean) [] 7 120 0 sp_X5_canGo := mm_mt hl rn_X5_canGo ⟨by decide, rfl⟩ kkX5_canGo rfl ⟨by decide, by decide⟩ flkX5 (fun _ h => nomatch h) (⟨mm_pe (me_X5_isThere hl) mwX5_isThere (mm_t7 219 rfl rfl) (Nat.le_of_ble_eq_true rfl) (Nat.le_of_ble_eq_true rfl), trivial⟩) (mm_xe0 _)
def sp_X5_placeTold : mm_S := fun av M d Q => match av with
  | [.inr (.inr (.inl o)), .inl f] =>  o = 17 ∧ xA M ∧ (f = 0 ∨ f = 1) ∧ Q (.inl (some (mm_I (if M 17 10 ≠ -1 ∧ M 17 13 = 0 then (if f = 0 then M 17 11 - 1 else M 17 11) else -2)))) M d
  | _ => False
def ct_X5_placeTold : List (Nat × mm_Ca) := [(240, (0, 1, 14, sp_X5_isThere, 0))]
abbrev rr_X5_placeTold (Q : mm_Q) := mm_run (mm_look flX5) (mm_look ct_X5_placeTold) mm_x0 (mm_look ([] : List (Nat × Int))) (fun _ => none) 1 0 (fun _ _ => none) Q kdX5_placeTold
set_option maxRecDepth 20000 in
theorem rn_X5_placeTold : mm_RN flX5 ct_X5_placeTold mm_x0 [] 1 0 2 kdX5_placeTold sp_X5_placeTold := by
  intro av M d Q h
  unfold sp_X5_placeTold at h
  split at h
  · rename_i o f
    obtain ⟨rfl, ha, hf, hq⟩ := h
    have l := ha.l
    have l2 := ha.2
    have q2 : ¬ (M 17 10 ≠ -1 ∧ M 17 13 = 0) → Q (.inl (some (mm_I (-2)))) M d := fun h => by rw [if_neg h] at hq; exact hq
    have q0 : (M 17 10 ≠ -1 ∧ M 17 13 = 0) → f = 0 → Q (.inl (some (mm_I (M 17 11 - 1)))) M d := fun h h2 => by rw [if_pos h, if_pos h2] at hq; exact hq
    have q1 : (M 17 10 ≠ -1 ∧ M 17 13 = 0) → f ≠ 0 → Q (.inl (some (mm_I (M 17 11)))) M d := fun h h2 => by rw [if_pos h, if_neg h2] at hq; exact hq
    obtain ⟨K, hK, hK2⟩ : ∃ K : Nat → mm_K, (∀ t ls st M d u, K t ls st M d u → rr_X5_placeTold Q t ls st M d u) ∧ (∀ t ls st M d u, rr_X5_placeTold Q t ls st M d u → K t ls st M d u) := ⟨rr_X5_placeTold Q, fun _ _ _ _ _ _ h => h, fun _ _ _ _ _ _ h => h⟩
    have k4 : ∀ r, ((M 17 10 ≠ -1 ∧ M 17 13 = 0) → r = 1) ∧ (¬ (M 17 10 ≠ -1 ∧ M 17 13 = 0) → r = 0) → K 4 [some (mm_R 17), some (mm_I f)] [mm_I r] M d 0 := by
      intro r hr
      refine hK2 _ _ _ _ _ _ ?_
      by_cases hc : M 17 10 ≠ -1 ∧ M 17 13 = 0
      · rw [hr.1 hc]
        have q0 := q0 hc
        have q1 := q1 hc
        clear hr q2
        refine mm_run_at (stop := []) (S := K) kkX5_placeTold 90 ?_ (fun _ _ _ _ _ _ _ h => hK _ _ _ _ _ _ h)
        repeat' (first | with_reducible assumption | with_reducible exact True.intro | with_reducible exact mm_i17 | with_reducible exact mm_i18 | with_reducible exact mm_i19 | with_reducible exact mm_i20 | with_reducible exact mm_i21 | with_reducible exact mm_i22 | ((with_reducible show mm_rv _ _ _ _ _); first | exact True.intro | exact mm_i17 | exact mm_i18 | exact mm_i19 | exact mm_i20 | exact mm_i21 | exact mm_i22) | ((with_reducible show mm_bool _ _); first | exact True.intro | exact Or.inl rfl | exact Or.inr rfl | (show (_ : Int) = 0 ∨ _ = 1)) | rfl | with_reducible exact Or.inl rfl | with_reducible exact Or.inr rfl | exact Nat.le_of_ble_eq_true rfl | refine And.intro ?_ ?_ | intro _)
        all_goals (try simp (disch := omega) only [InI, Int.toNat_natCast, Int.tmod_eq_emod_of_nonneg, Int.tdiv_eq_ediv_of_nonneg, true_implies, true_or, or_true, mm_l18, mm_l19, mm_l20, mm_l21, mm_l22] at *)
        all_goals first | omega | exact q0 (by omega) | exact q1 (by omega) | skip
      · rw [hr.2 hc]
        have q2 := q2 hc
        refine mm_run_at (stop := [12]) (S := K) kkX5_placeTold 90 ?_ (fun _ _ _ _ _ _ _ h => hK _ _ _ _ _ _ h)
        repeat' (first | with_reducible assumption | with_reducible exact True.intro | with_reducible exact mm_i17 | with_reducible exact mm_i18 | with_reducible exact mm_i19 | with_reducible exact mm_i20 | with_reducible exact mm_i21 | with_reducible exact mm_i22 | ((with_reducible show mm_rv _ _ _ _ _); first | exact True.intro | exact mm_i17 | exact mm_i18 | exact mm_i19 | exact mm_i20 | exact mm_i21 | exact mm_i22) | ((with_reducible show mm_bool _ _); first | exact True.intro | exact Or.inl rfl | exact Or.inr rfl | (show (_ : Int) = 0 ∨ _ = 1)) | rfl | with_reducible exact Or.inl rfl | with_reducible exact Or.inr rfl | exact Nat.le_of_ble_eq_true rfl | refine And.intro ?_ ?_ | intro _)
        all_goals (try simp (disch := omega) only [InI, Int.toNat_natCast, Int.tmod_eq_emod_of_nonneg, Int.tdiv_eq_ediv_of_nonneg, true_implies, true_or, or_true, mm_l18, mm_l19, mm_l20, mm_l21, mm_l22] at *)
        all_goals first | omega | exact q2 | skip
    refine ⟨Nat.le_of_ble_eq_true rfl, ?_⟩
    refine mm_run_at (stop := [4]) (S := K) kkX5_placeTold 90 ?_ (fun _ _ _ _ _ _ _ h => hK _ _ _ _ _ _ h)
    exact mm_c5 rfl (Nat.le_of_ble_eq_true rfl) (by exact mm_i17) (Nat.le_of_ble_eq_true rfl) (Nat.le_of_ble_eq_true rfl) (mm_a4 rfl ⟨by omega, by omega⟩ l (fun r hr => k4 r hr))
  · exact h.elim
theorem me_X5_placeTold {l : Launch} (hl : l.stackTraces = false) : mm_Met l yX5_placeTold cX5_placeTold 2 (some .int) [] 7 120 0 sp_X5_placeTold := mm_mt hl rn_X5_placeTold ⟨by decide, rfl⟩ kkX5_placeTold rfl ⟨by decide, by decide⟩ flkX5 (fun _ h => nomatch h) (⟨mm_pe (me_X5_isThere hl) mwX5_isThere (mm_t7 219 rfl rfl) (Nat.le_of_ble_eq_true rfl) (Nat.le_of_ble_eq_true rfl), trivial⟩) (mm_xe0 _)
theorem at_X5_fittingHere_0 : mm_at 0 kdX5_fittingHere = [(0, .aload_n 0, 0), (1, .aload_n 0, 0), (2, .getfield 25, 0), (5, .aload_n 0, 0), (6, .getfield 237, 0), (9, .invokevirtual 105, 0), (12, .istore_n 2, 0), (13, .aload_n 0, 0), (14, .getfield 237, 0), (17, .aload_n 0, 0), (18, .getfield 19, 0), (21, .aload_n 0, 0), (22, .getfield 25, 0), (25, .iaload, 0), (26, .if_icmp .ne 10, 36), (29, .aload_n 0, 0), (30, .iload_n 1, 0), (31, .iload_n 2, 0), (32, .invokevirtual 124, 0), (35, .ireturn, 0), (36, .aload_n 0, 0), (37, .getfield 237, 0), (40, .ifCond .ne 10, 50), (43, .aload_n 0, 0), (44, .iload_n 1, 0), (45, .iload_n 2, 0), (46, .invokevirtual 184, 0), (49, .ireturn, 0), (50, .aload_n 0, 0), (51, .getfield 9, 0), (54, .iload_n 1, 0), (55, .iaload, 0), (56, .iload_n 2, 0), (57, .if_icmp .ne 19, 76), (60, .aload_n 0, 0), (61, .getfield 13, 0), (64, .iload_n 1, 0), (65, .iaload, 0), (66, .iload_n 2, 0), (67, .if_icmp .ne 9, 76), (70, .iconst 2, 0), (71, .iload_n 1, 0), (72, .imul, 0), (73, .goto 4, 77), (76, .iconst (-1), 0), (77, .ireturn, 0)] := rfl
theorem at_X5_fittingHere_36 : mm_at 36 kdX5_fittingHere = [(36, .aload_n 0, 0), (37, .getfield 237, 0), (40, .ifCond .ne 10, 50), (43, .aload_n 0, 0), (44, .iload_n 1, 0), (45, .iload_n 2, 0), (46, .invokevirtual 184, 0), (49, .ireturn, 0), (50, .aload_n 0, 0), (51, .getfield 9, 0), (54, .iload_n 1, 0), (55, .iaload, 0), (56, .iload_n 2, 0), (57, .if_icmp .ne 19, 76), (60, .aload_n 0, 0), (61, .getfield 13, 0), (64, .iload_n 1, 0), (65, .iaload, 0), (66, .iload_n 2, 0), (67, .if_icmp .ne 9, 76), (70, .iconst 2, 0), (71, .iload_n 1, 0), (72, .imul, 0), (73, .goto 4, 77), (76, .iconst (-1), 0), (77, .ireturn, 0)] := rfl
theorem at_X5_fittingHere_50 : mm_at 50 kdX5_fittingHere = [(50, .aload_n 0, 0), (51, .getfield 9, 0), (54, .iload_n 1, 0), (55, .iaload, 0), (56, .iload_n 2, 0), (57, .if_icmp .ne 19, 76), (60, .aload_n 0, 0), (61, .getfield 13, 0), (64, .iload_n 1, 0), (65, .iaload, 0), (66, .iload_n 2, 0), (67, .if_icmp .ne 9, 76), (70, .iconst 2, 0), (71, .iload_n 1, 0), (72, .imul, 0), (73, .goto 4, 77), (76, .iconst (-1), 0), (77, .ireturn, 0)] := rfl
theorem at_X5_fittingHere_76 : mm_at 76 kdX5_fittingHere = [(76, .iconst (-1), 0), (77, .ireturn, 0)] := rfl
theorem at_X5_fittingHere_77 : mm_at 77 kdX5_fittingHere = [(77, .ireturn, 0)] := rfl
def sp_X5_fittingHere : mm_S := fun av M d Q => match av with
  | [.inr (.inr (.inl o)), .inl s] =>  o = 17 ∧ xA M ∧ (M 17 10 ≠ -1 ∧ M 17 13 = 0) ∧ (0 ≤ s ∧ s < M 17 1) ∧ ∀ r, r = fhF (vX M) (8 + 2 * (M 17 10).toNat) s ∧ -1 ≤ r ∧ r < 2 * M 17 1 ∧ (0 ≤ r → r / 2 = s) → Q (.inl (some (mm_I r))) M d
  | _ => False
def ct_X5_fittingHere : List (Nat × mm_Ca) := [(105, (0, 3, 14, sp_X5_cornerOf, 0)), (124, (0, 3, 14, sp_X5_leaving, 0)), (184, (0, 3, 14, sp_X5_coming, 0))]
abbrev rr_X5_fittingHere (Q : mm_Q) := mm_run (mm_look flX5) (mm_look ct_X5_fittingHere) mm_x0 (mm_look ([] : List (Nat × Int))) (fun _ => none) 1 0 (fun _ _ => none) Q kdX5_fittingHere
set_option maxRecDepth 20000 in
theorem rn_X5_fittingHere : mm_RN flX5 ct_X5_fittingHere mm_x0 [] 1 0 3 kdX5_fittingHere sp_X5_fittingHere := by
  intro av M d Q h
  unfold sp_X5_fittingHere at h
  split at h
  · rename_i o s
    obtain ⟨rfl, ha, hc, hs, hq⟩ := h
    have hp := ha.p hc.1 hc.2
    obtain ⟨k, hk⟩ := Int.eq_ofNat_of_zero_le hp.1.1
    rw [hk] at hp hq
    simp only [Int.toNat_natCast] at hp hq
    have hk3 : k < 3 := by omega
    have hv := ha.v hk3
    have ht := ha.t
    have t1 := ht.1
    have v1 := hv.1
    have t2 := ht.2.1 s.toNat (by omega)
    have ec := cor_v (M := M) (p := M 17 11) (k := k) (by omega) hv hp.2.1
    have en := vX_n (M := M) (k := k) (by omega)
    have qa : ∀ c, (c = corX M k (M 17 11) ∧ 0 ≤ c ∧ c < 10) → M 17 11 = M 21 k → ∀ r, (r = lvX M s c ∧ -1 ≤ r ∧ r < 2 * M 17 1 ∧ (0 ≤ r → r / 2 = s)) → Q (.inl (some (mm_I r))) M d := fun c hc h r hr => hq r ⟨by unfold fhF; rw [vX_c2, en, if_pos h, ← ec, ← hc.1, hr.1, lv_v], hr.2⟩
    have qb : ∀ c, (c = corX M k (M 17 11) ∧ 0 ≤ c ∧ c < 10) → M 17 11 ≠ M 21 k → M 17 11 = 0 → ∀ r, (r = cmX M s c ∧ -1 ≤ r ∧ r < 2 * M 17 1 ∧ (0 ≤ r → r / 2 = s)) → Q (.inl (some (mm_I r))) M d := fun c hc h h2 r hr => hq r ⟨by unfold fhF; rw [vX_c2, en, if_neg h, if_pos h2, ← ec, ← hc.1, hr.1, cm_v], hr.2⟩
    have qc : ∀ c, (c = corX M k (M 17 11) ∧ 0 ≤ c ∧ c < 10) → M 17 11 ≠ M 21 k → M 17 11 ≠ 0 → M 18 s.toNat = c → M 19 s.toNat = c → Q (.inl (some (mm_I (2 * s)))) M d := fun c hc h h2 h3 h4 => hq _ ⟨by unfold fhF; rw [vX_c2, en, if_neg h, if_neg h2, ← ec, ← hc.1, if_pos ⟨h3, h4⟩], by omega, by omega, by omega⟩
    have qd : ∀ c, (c = corX M k (M 17 11) ∧ 0 ≤ c ∧ c < 10) → M 17 11 ≠ M 21 k → M 17 11 ≠ 0 → ¬ (M 18 s.toNat = c ∧ M 19 s.toNat = c) → Q (.inl (some (mm_I (-1)))) M d := fun c hc h h2 h3 => hq _ ⟨by unfold fhF; rw [vX_c2, en, if_neg h, if_neg h2, ← ec, ← hc.1, if_neg (show ¬ (vX M 3 s.toNat = c ∧ vX M 4 s.toNat = c) from h3)], by omega, by omega, by omega⟩
    obtain ⟨K, hK, hK2⟩ : ∃ K : Nat → mm_K, (∀ t ls st M d u, K t ls st M d u → rr_X5_fittingHere Q t ls st M d u) ∧ (∀ t ls st M d u, rr_X5_fittingHere Q t ls st M d u → K t ls st M d u) := ⟨rr_X5_fittingHere Q, fun _ _ _ _ _ _ h => h, fun _ _ _ _ _ _ h => h⟩
    have k13 : ∀ c, (c = corX M k (M 17 11) ∧ 0 ≤ c ∧ c < 10) → K 13 [some (mm_R 17), some (mm_I s), some (mm_I c)] [] M d 0 := by
      intro c hc2
      have qa := qa c hc2
      have qb := qb c hc2
      have qc := qc c hc2
      have qd := qd c hc2
      have hc3 := hc2.2
      refine hK2 _ _ _ _ _ _ ?_
      refine mm_run_at (stop := []) (S := K) kkX5_fittingHere 90 ?_ (fun _ _ _ _ _ _ _ h => hK _ _ _ _ _ _ h)
      repeat' (first | with_reducible assumption | with_reducible exact True.intro | with_reducible exact mm_i17 | with_reducible exact mm_i18 | with_reducible exact mm_i19 | with_reducible exact mm_i20 | with_reducible exact mm_i21 | with_reducible exact mm_i22 | ((with_reducible show mm_rv _ _ _ _ _); first | exact True.intro | exact mm_i17 | exact mm_i18 | exact mm_i19 | exact mm_i20 | exact mm_i21 | exact mm_i22) | ((with_reducible show mm_bool _ _); first | exact True.intro | exact Or.inl rfl | exact Or.inr rfl | (show (_ : Int) = 0 ∨ _ = 1)) | rfl | with_reducible exact Or.inl rfl | with_reducible exact Or.inr rfl | exact Nat.le_of_ble_eq_true rfl | refine And.intro ?_ ?_ | intro _)
      all_goals (try simp (disch := omega) only [hk, InI, Int.toNat_natCast, Int.tmod_eq_emod_of_nonneg, Int.tdiv_eq_ediv_of_nonneg, true_implies, true_or, or_true, mm_l18, mm_l19, mm_l20, mm_l21, mm_l22] at *)
      all_goals first | omega | exact qa (by omega) _ (by assumption) | exact qb (by omega) (by omega) _ (by assumption) | exact qc (by omega) (by omega) (by omega) (by omega) | exact qd (by omega) (by omega) (by omega) | skip
    refine ⟨Nat.le_of_ble_eq_true rfl, ?_⟩
    refine mm_run_at (stop := [13]) (S := K) kkX5_fittingHere 90 ?_ (fun _ _ _ _ _ _ _ h => hK _ _ _ _ _ _ h)
    refine mm_a2 (by exact mm_i17) (mm_a2 (by exact mm_i17) ?_)
    rw [hk]
    refine mm_c5 rfl (Nat.le_of_ble_eq_true rfl) (by exact mm_i17) (Nat.le_of_ble_eq_true rfl) (Nat.le_of_ble_eq_true rfl) (mm_a6 rfl ht ⟨by omega, by omega⟩ ?_ ?_ (fun r hr => ?_))
    · exact hv
    · exact hp.2.1
    · exact mm_a2 rfl (k13 r hr)
  · exact h.elim
theorem me_X5_fittingHere {l : Launch} (hl : l.stackTraces = false) : mm_Met l yX5_fittingHere cX5_fittingHere 3 (some .int) [] 8 144 0 sp_X5_fittingHere := mm_mt hl rn_X5_fittingHere ⟨by decide, rfl⟩ kkX5_fittingHere rfl ⟨by decide, by decide⟩ flkX5 (fun _ h => nomatch h) (⟨mm_pe (me_X5_cornerOf hl) mwX5_cornerOf (mm_t6 185 rfl rfl) (Nat.le_of_ble_eq_true rfl) (Nat.le_of_ble_eq_true rfl), mm_pe (me_X5_leaving hl) mwX5_leaving (mm_t7 52 rfl rfl) (Nat.le_of_ble_eq_true rfl) (Nat.le_of_ble_eq_true rfl), mm_pe (me_X5_coming hl) mwX5_coming (mm_t7 48 rfl rfl) (Nat.le_of_ble_eq_true rfl) (Nat.le_of_ble_eq_true rfl), trivial⟩) (mm_xe0 _)

