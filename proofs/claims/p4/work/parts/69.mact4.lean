/-! the model: more acts on one walk -/
theorem xP_q {M M1 : mm_M} {k : Nat} (ha : xA M) (hk : k < 3) (hx : fX M M1) (h17 : M1 17 = M 17) (hf : fr [8 + 2 * k, 8 + 2 * k + 1] (vX M) (vX M1)) (hv : mV M1 k) (hD : wD (vX M1) (8 + 2 * k)) : (M 21 k ≤ M1 21 k → xP M M1) ∧ xP M (mm_up M1 17 13 (if M1 17 10 = k then 1 else M1 17 13)) :=
  ⟨fun h => xP_we ha hk hx hf hv hD (by rw [h17]) h, xP_wL ha hk hx hf hv hD (by rw [h17])⟩
def sp_X5_on : mm_S := fun av M d Q => match av with
  | [.inr (.inr (.inl o)), .inl a, .inl f] =>  o = 17 ∧ xA M ∧ InI a ∧ (f = 0 ∨ f = 1) ∧ ∀ M' r, xP M M' → Q (.inl (some (mm_I r))) M' d
  | _ => False
def ct_X5_on : List (Nat × mm_Ca) := [(178, (0, 2, 14, sp_X5_isNoWalk, 0)), (146, (0, 3, 14, sp_X5_start, 0)), (127, (0, 4, 14, sp_X5_gone, 0)), (181, (0, 2, 14, sp_X5_lose, 0)), (156, (0, 2, 14, sp_X5_act, 0))]
abbrev rr_X5_on (Q : mm_Q) := mm_run (mm_look flX5) (mm_look ct_X5_on) mm_x0 (mm_look ([] : List (Nat × Int))) (fun _ => none) 1 0 (fun _ _ => none) Q kdX5_on
set_option maxRecDepth 20000 in
theorem rn_X5_on : mm_RN flX5 ct_X5_on mm_x0 [] 1 0 4 kdX5_on sp_X5_on := by
  intro av M d Q h
  unfold sp_X5_on at h
  split at h
  · rename_i o a f
    obtain ⟨rfl, ha, h1, hf, hq⟩ := h
    obtain ⟨K, hK, hK2⟩ : ∃ K : Nat → mm_K, (∀ t ls st M d u, K t ls st M d u → rr_X5_on Q t ls st M d u) ∧ (∀ t ls st M d u, rr_X5_on Q t ls st M d u → K t ls st M d u) := ⟨rr_X5_on Q, fun _ _ _ _ _ _ h => h, fun _ _ _ _ _ _ h => h⟩
    have k15 : ∀ v, (0 ≤ a ∧ a ≤ 2) → K 15 [some (mm_R 17), some (mm_I a), some (mm_I f), none] [] (mm_up M 17 0 v) d 0 := by
      intro v ca
      obtain ⟨M1, e0, ha1, hP1, e17, eo⟩ := xS (v := v) ha
      rw [e0]
      obtain ⟨k, rfl⟩ := Int.eq_ofNat_of_zero_le ca.1
      have hk : k < 3 := by omega
      have hv := ha1.v hk
      have hD := ha1.d hk
      have ht := ha1.t
      have v1 := hv.1
      have hl := ha1.l
      have h10 := ha1.2
      have k27 : ∀ M2 (r : Nat), fX M1 M2 ∧ M2 17 = M1 17 ∧ fr [8 + 2 * k, 8 + 2 * k + 1] (vX M1) (vX M2) ∧ mV M2 k ∧ wD (vX M2) (8 + 2 * k) ∧ goR f (8 + 2 * k) r (M1 21 k) (vX M1) (vX M2) ∧ M2 21 k = M1 21 k + r → K 27 [some (mm_R 17), some (mm_I k), some (mm_I f), none] [mm_I r] M2 d 0 := by
        intro M2 r ⟨g1, g2, g3, g4, g5, g6, g7⟩
        have hP := xP_q ha1 hk g1 g2 g3 g4 g5
        have q0 : ∀ x, Q (.inl (some (mm_I r))) (mm_up M2 17 14 x) d := fun x => hq _ _ (xP_ac (hP1.tr (hP.1 (by omega))))
        have q1 : ∀ x, Q (.inl (some (mm_I r))) (mm_up (mm_up M2 17 13 (if M2 17 10 = k then 1 else M2 17 13)) 17 14 x) d := fun x => hq _ _ (xP_ac (hP1.tr hP.2))
        have h10' : M2 17 10 = M1 17 10 := by rw [g2]
        have h13' : M2 17 13 = M1 17 13 := by rw [g2]
        clear hP
        have v3 := g4.1
        refine hK2 _ _ _ _ _ _ ?_
        refine mm_run_at (stop := []) (S := K) kkX5_on 90 ?_ (fun _ _ _ _ _ _ _ h => hK _ _ _ _ _ _ h)
        repeat' (first | with_reducible assumption | with_reducible exact True.intro | with_reducible exact mm_i17 | with_reducible exact mm_i18 | with_reducible exact mm_i19 | with_reducible exact mm_i20 | with_reducible exact mm_i21 | with_reducible exact mm_i22 | ((with_reducible show mm_rv _ _ _ _ _); first | exact True.intro | exact mm_i17 | exact mm_i18 | exact mm_i19 | exact mm_i20 | exact mm_i21 | exact mm_i22) | ((with_reducible show mm_bool _ _); first | exact True.intro | exact Or.inl rfl | exact Or.inr rfl | (show (_ : Int) = 0 ∨ _ = 1)) | rfl | with_reducible exact Or.inl rfl | with_reducible exact Or.inr rfl | exact Nat.le_of_ble_eq_true rfl | refine And.intro ?_ ?_ | intro _)
        all_goals (try simp (disch := omega) only [InI, Int.toNat_natCast, Int.tmod_eq_emod_of_nonneg, Int.tdiv_eq_ediv_of_nonneg, true_implies, true_or, or_true, mm_l18, mm_l19, mm_l20, mm_l21, mm_l22] at *)
        all_goals first | omega | exact q0 _ | exact q1 _ | skip
      refine hK2 _ _ _ _ _ _ ?_
      refine mm_run_at (stop := [27]) (S := K) kkX5_on 90 ?_ (fun _ _ _ _ _ _ _ h => hK _ _ _ _ _ _ h)
      repeat' (first | with_reducible assumption | with_reducible exact True.intro | with_reducible exact mm_i17 | with_reducible exact mm_i18 | with_reducible exact mm_i19 | with_reducible exact mm_i20 | with_reducible exact mm_i21 | with_reducible exact mm_i22 | ((with_reducible show mm_rv _ _ _ _ _); first | exact True.intro | exact mm_i17 | exact mm_i18 | exact mm_i19 | exact mm_i20 | exact mm_i21 | exact mm_i22 | ((with_reducible show mV _ _); exact hv) | ((with_reducible show wD _ _); exact hD)) | ((with_reducible show mV _ _); exact hv) | ((with_reducible show wD _ _); exact hD) | ((with_reducible show mm_bool _ _); first | exact True.intro | exact Or.inl rfl | exact Or.inr rfl | (show (_ : Int) = 0 ∨ _ = 1)) | rfl | with_reducible exact Or.inl rfl | with_reducible exact Or.inr rfl | exact Nat.le_of_ble_eq_true rfl | refine And.intro ?_ ?_ | intro _)
      all_goals (try simp (disch := omega) only [InI, Int.toNat_natCast, Int.tmod_eq_emod_of_nonneg, Int.tdiv_eq_ediv_of_nonneg, true_implies, true_or, or_true, mm_l18, mm_l19, mm_l20, mm_l21, mm_l22] at *)
      all_goals first | omega | exact k27 _ _ (by assumption) | skip
    refine ⟨Nat.le_of_ble_eq_true rfl, ?_⟩
    refine mm_run_at (stop := [15]) (S := K) kkX5_on 90 ?_ (fun _ _ _ _ _ _ _ h => hK _ _ _ _ _ _ h)
    repeat' (first | with_reducible assumption | with_reducible exact True.intro | with_reducible exact mm_i17 | with_reducible exact mm_i18 | with_reducible exact mm_i19 | with_reducible exact mm_i20 | with_reducible exact mm_i21 | with_reducible exact mm_i22 | ((with_reducible show mm_rv _ _ _ _ _); first | exact True.intro | exact mm_i17 | exact mm_i18 | exact mm_i19 | exact mm_i20 | exact mm_i21 | exact mm_i22) | ((with_reducible show mm_bool _ _); first | exact True.intro | exact Or.inl rfl | exact Or.inr rfl | (show (_ : Int) = 0 ∨ _ = 1)) | rfl | with_reducible exact Or.inl rfl | with_reducible exact Or.inr rfl | exact Nat.le_of_ble_eq_true rfl | refine And.intro ?_ ?_ | intro _)
    all_goals (try simp (disch := omega) only [InI, Int.toNat_natCast, Int.tmod_eq_emod_of_nonneg, Int.tdiv_eq_ediv_of_nonneg, true_implies, true_or, or_true, mm_l18, mm_l19, mm_l20, mm_l21, mm_l22] at *)
    all_goals first | omega | exact hq _ _ (xP_s ha) | exact k15 _ (by omega) | skip
  · exact h.elim
theorem me_X5_on {l : Launch} (hl : l.stackTraces = false) : mm_Met l yX5_on cX5_on 4 (some .int) [] 9 175 0 sp_X5_on := mm_mt hl rn_X5_on ⟨by decide, rfl⟩ kkX5_on rfl ⟨by decide, by decide⟩ flkX5 (fun _ h => nomatch h) (⟨mm_pe (me_X5_isNoWalk hl) mwX5_isNoWalk (mm_t7 40 rfl rfl) (Nat.le_of_ble_eq_true rfl) (Nat.le_of_ble_eq_true rfl), mm_pe (me_X5_start hl) mwX5_start (mm_t6 114 rfl rfl) (Nat.le_of_ble_eq_true rfl) (Nat.le_of_ble_eq_true rfl), mm_pe (me_X5_gone hl) mwX5_gone (mm_t7 72 rfl rfl) (Nat.le_of_ble_eq_true rfl) (Nat.le_of_ble_eq_true rfl), mm_pe (me_X5_lose hl) mwX5_lose (mm_t7 44 rfl rfl) (Nat.le_of_ble_eq_true rfl) (Nat.le_of_ble_eq_true rfl), mm_pe (me_X5_act hl) mwX5_act (mm_t6 134 rfl rfl) (Nat.le_of_ble_eq_true rfl) (Nat.le_of_ble_eq_true rfl), trivial⟩) (mm_xe0 _)
def sp_X5_complete : mm_S := fun av M d Q => match av with
  | [.inr (.inr (.inl o)), .inl a, .inl f] =>  o = 17 ∧ xA M ∧ InI a ∧ (f = 0 ∨ f = 1) ∧ ∀ M' r, xP M M' → Q (.inl (some (mm_I r))) M' d
  | _ => False
def ct_X5_complete : List (Nat × mm_Ca) := [(178, (0, 2, 14, sp_X5_isNoWalk, 0)), (146, (0, 3, 14, sp_X5_start, 0)), (79, (0, 1, 14, sp_X5_all, 0)), (83, (0, 3, 14, sp_X5_isStartOf, 0)), (149, (0, 1, 14, sp_X5_cannot, 0)), (190, (0, 3, 14, sp_X5_completed, 0)), (181, (0, 2, 14, sp_X5_lose, 0)), (156, (0, 2, 14, sp_X5_act, 0))]
abbrev rr_X5_complete (Q : mm_Q) := mm_run (mm_look flX5) (mm_look ct_X5_complete) mm_x0 (mm_look ([] : List (Nat × Int))) (fun _ => none) 1 0 (fun _ _ => none) Q kdX5_complete
set_option maxRecDepth 20000 in
theorem rn_X5_complete : mm_RN flX5 ct_X5_complete mm_x0 [] 1 0 4 kdX5_complete sp_X5_complete := by
  intro av M d Q h
  unfold sp_X5_complete at h
  split at h
  · rename_i o a f
    obtain ⟨rfl, ha, h1, hf, hq⟩ := h
    obtain ⟨K, hK, hK2⟩ : ∃ K : Nat → mm_K, (∀ t ls st M d u, K t ls st M d u → rr_X5_complete Q t ls st M d u) ∧ (∀ t ls st M d u, rr_X5_complete Q t ls st M d u → K t ls st M d u) := ⟨rr_X5_complete Q, fun _ _ _ _ _ _ h => h, fun _ _ _ _ _ _ h => h⟩
    have k15 : ∀ v, (0 ≤ a ∧ a ≤ 2) → K 15 [some (mm_R 17), some (mm_I a), some (mm_I f), none] [] (mm_up M 17 0 v) d 0 := by
      intro v ca
      obtain ⟨M1, e0, ha1, hP1, e17, eo⟩ := xS (v := v) ha
      rw [e0]
      obtain ⟨k, rfl⟩ := Int.eq_ofNat_of_zero_le ca.1
      have hk : k < 3 := by omega
      have hv := ha1.v hk
      have hD := ha1.d hk
      have ht := ha1.t
      have v1 := hv.1
      have v2 := hv.2.1
      have hl := ha1.l
      have h10 := ha1.2
      have hs := all_sub (n := (M1 17 1).toNat)
      have q9 := hq _ (-9) (hP1.tr (xA_u (x := M1 17 15 + 1) ha1))
      have k43 : ∀ M2 (r : Nat), fX M1 M2 ∧ M2 17 = M1 17 ∧ fr [8 + 2 * k, 8 + 2 * k + 1] (vX M1) (vX M2) ∧ mV M2 k ∧ wD (vX M2) (8 + 2 * k) ∧ comR f (8 + 2 * k) (vX M1) (vX M2) r ∧ M2 21 k = M1 21 k + r → K 43 [some (mm_R 17), some (mm_I k), some (mm_I f), none] [mm_I r] M2 d 0 := by
        intro M2 r ⟨g1, g2, g3, g4, g5, g6, g7⟩
        have hP := xP_q ha1 hk g1 g2 g3 g4 g5
        have q0 : ∀ x, Q (.inl (some (mm_I r))) (mm_up M2 17 14 x) d := fun x => hq _ _ (xP_ac (hP1.tr (hP.1 (by omega))))
        have q1 : ∀ x, Q (.inl (some (mm_I r))) (mm_up (mm_up M2 17 13 (if M2 17 10 = k then 1 else M2 17 13)) 17 14 x) d := fun x => hq _ _ (xP_ac (hP1.tr hP.2))
        have h10' : M2 17 10 = M1 17 10 := by rw [g2]
        have h13' : M2 17 13 = M1 17 13 := by rw [g2]
        clear hP
        have v3 := g4.1
        refine hK2 _ _ _ _ _ _ ?_
        refine mm_run_at (stop := []) (S := K) kkX5_complete 90 ?_ (fun _ _ _ _ _ _ _ h => hK _ _ _ _ _ _ h)
        repeat' (first | with_reducible assumption | with_reducible exact True.intro | with_reducible exact mm_i17 | with_reducible exact mm_i18 | with_reducible exact mm_i19 | with_reducible exact mm_i20 | with_reducible exact mm_i21 | with_reducible exact mm_i22 | ((with_reducible show mm_rv _ _ _ _ _); first | exact True.intro | exact mm_i17 | exact mm_i18 | exact mm_i19 | exact mm_i20 | exact mm_i21 | exact mm_i22) | ((with_reducible show mm_bool _ _); first | exact True.intro | exact Or.inl rfl | exact Or.inr rfl | (show (_ : Int) = 0 ∨ _ = 1)) | rfl | with_reducible exact Or.inl rfl | with_reducible exact Or.inr rfl | exact Nat.le_of_ble_eq_true rfl | refine And.intro ?_ ?_ | intro _)
        all_goals (try simp (disch := omega) only [InI, Int.toNat_natCast, Int.tmod_eq_emod_of_nonneg, Int.tdiv_eq_ediv_of_nonneg, true_implies, true_or, or_true, mm_l18, mm_l19, mm_l20, mm_l21, mm_l22] at *)
        all_goals first | omega | exact q0 _ | exact q1 _ | skip
      have k37 : K 37 [some (mm_R 17), some (mm_I k), some (mm_I f), none] [] M1 d 0 := by
        refine hK2 _ _ _ _ _ _ ?_
        refine mm_run_at (stop := [43]) (S := K) kkX5_complete 90 ?_ (fun _ _ _ _ _ _ _ h => hK _ _ _ _ _ _ h)
        repeat' (first | with_reducible assumption | with_reducible exact True.intro | with_reducible exact mm_i17 | with_reducible exact mm_i18 | with_reducible exact mm_i19 | with_reducible exact mm_i20 | with_reducible exact mm_i21 | with_reducible exact mm_i22 | ((with_reducible show mm_rv _ _ _ _ _); first | exact True.intro | exact mm_i17 | exact mm_i18 | exact mm_i19 | exact mm_i20 | exact mm_i21 | exact mm_i22 | ((with_reducible show mV _ _); exact hv) | ((with_reducible show wD _ _); exact hD)) | ((with_reducible show mV _ _); exact hv) | ((with_reducible show wD _ _); exact hD) | ((with_reducible show mm_bool _ _); first | exact True.intro | exact Or.inl rfl | exact Or.inr rfl | (show (_ : Int) = 0 ∨ _ = 1)) | rfl | with_reducible exact Or.inl rfl | with_reducible exact Or.inr rfl | exact Nat.le_of_ble_eq_true rfl | refine And.intro ?_ ?_ | intro _)
        all_goals (try simp (disch := omega) only [InI, Int.toNat_natCast, Int.tmod_eq_emod_of_nonneg, Int.tdiv_eq_ediv_of_nonneg, true_implies, true_or, or_true, mm_l18, mm_l19, mm_l20, mm_l21, mm_l22] at *)
        all_goals first | omega | exact k43 _ _ (by assumption) | skip
      have k29 : ∀ r, r = 0 ∨ r = 1 → K 29 [some (mm_R 17), some (mm_I k), some (mm_I f), none] [mm_I r] M1 d 0 := by
        intro r hr
        refine hK2 _ _ _ _ _ _ ?_
        refine mm_run_at (stop := [37]) (S := K) kkX5_complete 90 ?_ (fun _ _ _ _ _ _ _ h => hK _ _ _ _ _ _ h)
        repeat' (first | with_reducible assumption | with_reducible exact True.intro | with_reducible exact mm_i17 | with_reducible exact mm_i18 | with_reducible exact mm_i19 | with_reducible exact mm_i20 | with_reducible exact mm_i21 | with_reducible exact mm_i22 | ((with_reducible show mm_rv _ _ _ _ _); first | exact True.intro | exact mm_i17 | exact mm_i18 | exact mm_i19 | exact mm_i20 | exact mm_i21 | exact mm_i22) | ((with_reducible show mm_bool _ _); first | exact True.intro | exact Or.inl rfl | exact Or.inr rfl | (show (_ : Int) = 0 ∨ _ = 1)) | rfl | with_reducible exact Or.inl rfl | with_reducible exact Or.inr rfl | exact Nat.le_of_ble_eq_true rfl | refine And.intro ?_ ?_ | intro _)
        all_goals (try simp (disch := omega) only [InI, Int.toNat_natCast, Int.tmod_eq_emod_of_nonneg, Int.tdiv_eq_ediv_of_nonneg, true_implies, true_or, or_true, mm_l18, mm_l19, mm_l20, mm_l21, mm_l22] at *)
        all_goals first | omega | exact q9 | exact k37 | skip
      refine hK2 _ _ _ _ _ _ ?_
      refine mm_run_at (stop := [29]) (S := K) kkX5_complete 90 ?_ (fun _ _ _ _ _ _ _ h => hK _ _ _ _ _ _ h)
      refine mm_c5 rfl (Nat.le_of_ble_eq_true rfl) (by exact mm_i17) (Nat.le_of_ble_eq_true rfl) (Nat.le_of_ble_eq_true rfl) (mm_a3 rfl ht (fun r hr => ?_))
      obtain ⟨rfl, hr⟩ := hr
      have k29' : ∀ r, (ST (M1 18) (M1 19) (M1 17 1).toNat (M1 17 4) (2 ^ (M1 17 1).toNat - 1) (M1 22 k) → r = 1) ∧ (¬ ST (M1 18) (M1 19) (M1 17 1).toNat (M1 17 4) (2 ^ (M1 17 1).toNat - 1) (M1 22 k) → r = 0) → K 29 [some (mm_R 17), some (mm_I k), some (mm_I f), none] [mm_I r] M1 d 0 := fun r h => k29 r (in01 h)
      repeat' (first | with_reducible assumption | with_reducible exact True.intro | with_reducible exact mm_i17 | with_reducible exact mm_i18 | with_reducible exact mm_i19 | with_reducible exact mm_i20 | with_reducible exact mm_i21 | with_reducible exact mm_i22 | ((with_reducible show mm_rv _ _ _ _ _); first | exact True.intro | exact mm_i17 | exact mm_i18 | exact mm_i19 | exact mm_i20 | exact mm_i21 | exact mm_i22) | ((with_reducible show mm_bool _ _); first | exact True.intro | exact Or.inl rfl | exact Or.inr rfl | (show (_ : Int) = 0 ∨ _ = 1)) | rfl | with_reducible exact Or.inl rfl | with_reducible exact Or.inr rfl | exact Nat.le_of_ble_eq_true rfl | refine And.intro ?_ ?_ | intro _)
      all_goals (try simp (disch := omega) only [InI, Int.toNat_natCast, Int.tmod_eq_emod_of_nonneg, Int.tdiv_eq_ediv_of_nonneg, true_implies, true_or, or_true, mm_l18, mm_l19, mm_l20, mm_l21, mm_l22] at *)
      all_goals first | omega | exact k29' _ (by assumption) | skip
    refine ⟨Nat.le_of_ble_eq_true rfl, ?_⟩
    refine mm_run_at (stop := [15]) (S := K) kkX5_complete 90 ?_ (fun _ _ _ _ _ _ _ h => hK _ _ _ _ _ _ h)
    repeat' (first | with_reducible assumption | with_reducible exact True.intro | with_reducible exact mm_i17 | with_reducible exact mm_i18 | with_reducible exact mm_i19 | with_reducible exact mm_i20 | with_reducible exact mm_i21 | with_reducible exact mm_i22 | ((with_reducible show mm_rv _ _ _ _ _); first | exact True.intro | exact mm_i17 | exact mm_i18 | exact mm_i19 | exact mm_i20 | exact mm_i21 | exact mm_i22) | ((with_reducible show mm_bool _ _); first | exact True.intro | exact Or.inl rfl | exact Or.inr rfl | (show (_ : Int) = 0 ∨ _ = 1)) | rfl | with_reducible exact Or.inl rfl | with_reducible exact Or.inr rfl | exact Nat.le_of_ble_eq_true rfl | refine And.intro ?_ ?_ | intro _)
    all_goals (try simp (disch := omega) only [InI, Int.toNat_natCast, Int.tmod_eq_emod_of_nonneg, Int.tdiv_eq_ediv_of_nonneg, true_implies, true_or, or_true, mm_l18, mm_l19, mm_l20, mm_l21, mm_l22] at *)
    all_goals first | omega | exact hq _ _ (xP_s ha) | exact k15 _ (by omega) | skip
  · exact h.elim
theorem me_X5_complete {l : Launch} (hl : l.stackTraces = false) : mm_Met l yX5_complete cX5_complete 4 (some .int) [] 11 215 0 sp_X5_complete := mm_mt hl rn_X5_complete ⟨by decide, rfl⟩ kkX5_complete rfl ⟨by decide, by decide⟩ flkX5 (fun _ h => nomatch h) (⟨mm_pe (me_X5_isNoWalk hl) mwX5_isNoWalk (mm_t7 40 rfl rfl) (Nat.le_of_ble_eq_true rfl) (Nat.le_of_ble_eq_true rfl), mm_pe (me_X5_start hl) mwX5_start (mm_t6 114 rfl rfl) (Nat.le_of_ble_eq_true rfl) (Nat.le_of_ble_eq_true rfl), mm_pe (me_X5_all hl) mwX5_all (mm_t6 217 rfl rfl) (Nat.le_of_ble_eq_true rfl) (Nat.le_of_ble_eq_true rfl), mm_pe (me_X5_isStartOf hl) mwX5_isStartOf (mm_t7 20 rfl rfl) (Nat.le_of_ble_eq_true rfl) (Nat.le_of_ble_eq_true rfl), mm_pe (me_X5_cannot hl) mwX5_cannot (mm_t6 122 rfl rfl) (Nat.le_of_ble_eq_true rfl) (Nat.le_of_ble_eq_true rfl), mm_pe (me_X5_completed hl) mwX5_completed (mm_t7 84 rfl rfl) (Nat.le_of_ble_eq_true rfl) (Nat.le_of_ble_eq_true rfl), mm_pe (me_X5_lose hl) mwX5_lose (mm_t7 44 rfl rfl) (Nat.le_of_ble_eq_true rfl) (Nat.le_of_ble_eq_true rfl), mm_pe (me_X5_act hl) mwX5_act (mm_t6 134 rfl rfl) (Nat.le_of_ble_eq_true rfl) (Nat.le_of_ble_eq_true rfl), trivial⟩) (mm_xe0 _)
theorem at_X5_back_0 : mm_at 0 kdX5_back = [(0, .aload_n 0, 0), (1, .aload_n 0, 0), (2, .iload_n 1, 0), (3, .invokevirtual 178, 0), (6, .iconst 1, 0), (7, .invokevirtual 146, 0), (10, .ifCond .eq 5, 15), (13, .iconst 0, 0), (14, .ireturn, 0), (15, .aload_n 0, 0), (16, .getfield 19, 0), (19, .iload_n 1, 0), (20, .iaload, 0), (21, .ifCond .ne 8, 29), (24, .aload_n 0, 0), (25, .invokevirtual 149, 0), (28, .ireturn, 0), (29, .aload_n 0, 0), (30, .iload_n 1, 0), (31, .iload_n 2, 0), (32, .ifCond .eq 7, 39), (35, .iconst 0, 0), (36, .goto 11, 47), (39, .aload_n 0, 0), (40, .getfield 19, 0), (43, .iload_n 1, 0), (44, .iaload, 0), (45, .iconst 1, 0), (46, .isub, 0), (47, .invokevirtual 117, 0), (50, .istore_n 3, 0), (51, .iload_n 2, 0), (52, .ifCond .eq 14, 66), (55, .aload_n 0, 0), (56, .getfield 22, 0), (59, .iload_n 1, 0), (60, .aload_n 0, 0), (61, .iload_n 3, 0), (62, .invokevirtual 102, 0), (65, .iastore, 0), (66, .aload_n 0, 0), (67, .iload_n 1, 0), (68, .invokevirtual 181, 0), (71, .aload_n 0, 0), (72, .iload_n 3, 0), (73, .invokevirtual 156, 0), (76, .ireturn, 0)] := rfl
theorem at_X5_back_15 : mm_at 15 kdX5_back = [(15, .aload_n 0, 0), (16, .getfield 19, 0), (19, .iload_n 1, 0), (20, .iaload, 0), (21, .ifCond .ne 8, 29), (24, .aload_n 0, 0), (25, .invokevirtual 149, 0), (28, .ireturn, 0), (29, .aload_n 0, 0), (30, .iload_n 1, 0), (31, .iload_n 2, 0), (32, .ifCond .eq 7, 39), (35, .iconst 0, 0), (36, .goto 11, 47), (39, .aload_n 0, 0), (40, .getfield 19, 0), (43, .iload_n 1, 0), (44, .iaload, 0), (45, .iconst 1, 0), (46, .isub, 0), (47, .invokevirtual 117, 0), (50, .istore_n 3, 0), (51, .iload_n 2, 0), (52, .ifCond .eq 14, 66), (55, .aload_n 0, 0), (56, .getfield 22, 0), (59, .iload_n 1, 0), (60, .aload_n 0, 0), (61, .iload_n 3, 0), (62, .invokevirtual 102, 0), (65, .iastore, 0), (66, .aload_n 0, 0), (67, .iload_n 1, 0), (68, .invokevirtual 181, 0), (71, .aload_n 0, 0), (72, .iload_n 3, 0), (73, .invokevirtual 156, 0), (76, .ireturn, 0)] := rfl
theorem at_X5_back_29 : mm_at 29 kdX5_back = [(29, .aload_n 0, 0), (30, .iload_n 1, 0), (31, .iload_n 2, 0), (32, .ifCond .eq 7, 39), (35, .iconst 0, 0), (36, .goto 11, 47), (39, .aload_n 0, 0), (40, .getfield 19, 0), (43, .iload_n 1, 0), (44, .iaload, 0), (45, .iconst 1, 0), (46, .isub, 0), (47, .invokevirtual 117, 0), (50, .istore_n 3, 0), (51, .iload_n 2, 0), (52, .ifCond .eq 14, 66), (55, .aload_n 0, 0), (56, .getfield 22, 0), (59, .iload_n 1, 0), (60, .aload_n 0, 0), (61, .iload_n 3, 0), (62, .invokevirtual 102, 0), (65, .iastore, 0), (66, .aload_n 0, 0), (67, .iload_n 1, 0), (68, .invokevirtual 181, 0), (71, .aload_n 0, 0), (72, .iload_n 3, 0), (73, .invokevirtual 156, 0), (76, .ireturn, 0)] := rfl
theorem at_X5_back_39 : mm_at 39 kdX5_back = [(39, .aload_n 0, 0), (40, .getfield 19, 0), (43, .iload_n 1, 0), (44, .iaload, 0), (45, .iconst 1, 0), (46, .isub, 0), (47, .invokevirtual 117, 0), (50, .istore_n 3, 0), (51, .iload_n 2, 0), (52, .ifCond .eq 14, 66), (55, .aload_n 0, 0), (56, .getfield 22, 0), (59, .iload_n 1, 0), (60, .aload_n 0, 0), (61, .iload_n 3, 0), (62, .invokevirtual 102, 0), (65, .iastore, 0), (66, .aload_n 0, 0), (67, .iload_n 1, 0), (68, .invokevirtual 181, 0), (71, .aload_n 0, 0), (72, .iload_n 3, 0), (73, .invokevirtual 156, 0), (76, .ireturn, 0)] := rfl
theorem at_X5_back_47 : mm_at 47 kdX5_back = [(47, .invokevirtual 117, 0), (50, .istore_n 3, 0), (51, .iload_n 2, 0), (52, .ifCond .eq 14, 66), (55, .aload_n 0, 0), (56, .getfield 22, 0), (59, .iload_n 1, 0), (60, .aload_n 0, 0), (61, .iload_n 3, 0), (62, .invokevirtual 102, 0), (65, .iastore, 0), (66, .aload_n 0, 0), (67, .iload_n 1, 0), (68, .invokevirtual 181, 0), (71, .aload_n 0, 0), (72, .iload_n 3, 0), (73, .invokevirtual 156, 0), (76, .ireturn, 0)] := rfl
theorem at_X5_back_66 : mm_at 66 kdX5_back = [(66, .aload_n 0, 0), (67, .iload_n 1, 0), (68, .invokevirtual 181, 0), (71, .aload_n 0, 0), (72, .iload_n 3, 0), (73, .invokevirtual 156, 0), (76, .ireturn, 0)] := rfl
def sp_X5_back : mm_S := fun av M d Q => match av with
  | [.inr (.inr (.inl o)), .inl a, .inl f] =>  o = 17 ∧ xA M ∧ InI a ∧ (f = 0 ∨ f = 1) ∧ ∀ M' r, xP M M' → Q (.inl (some (mm_I r))) M' d
  | _ => False
def ct_X5_back : List (Nat × mm_Ca) := [(178, (0, 2, 14, sp_X5_isNoWalk, 0)), (146, (0, 3, 14, sp_X5_start, 0)), (149, (0, 1, 14, sp_X5_cannot, 0)), (117, (0, 3, 14, sp_X5_take, 0)), (102, (0, 2, 14, sp_X5_comesTo, 0)), (181, (0, 2, 14, sp_X5_lose, 0)), (156, (0, 2, 14, sp_X5_act, 0))]
abbrev rr_X5_back (Q : mm_Q) := mm_run (mm_look flX5) (mm_look ct_X5_back) mm_x0 (mm_look ([] : List (Nat × Int))) (fun _ => none) 1 0 (fun _ _ => none) Q kdX5_back
set_option maxRecDepth 20000 in
theorem rn_X5_back : mm_RN flX5 ct_X5_back mm_x0 [] 1 0 4 kdX5_back sp_X5_back := by
  intro av M d Q h
  unfold sp_X5_back at h
  split at h
  · rename_i o a f
    obtain ⟨rfl, ha, h1, hf, hq⟩ := h
    obtain ⟨K, hK, hK2⟩ : ∃ K : Nat → mm_K, (∀ t ls st M d u, K t ls st M d u → rr_X5_back Q t ls st M d u) ∧ (∀ t ls st M d u, rr_X5_back Q t ls st M d u → K t ls st M d u) := ⟨rr_X5_back Q, fun _ _ _ _ _ _ h => h, fun _ _ _ _ _ _ h => h⟩
    have k15 : ∀ v, (0 ≤ a ∧ a ≤ 2) → K 15 [some (mm_R 17), some (mm_I a), some (mm_I f), none] [] (mm_up M 17 0 v) d 0 := by
      intro v ca
      obtain ⟨M1, e0, ha1, hP1, e17, eo⟩ := xS (v := v) ha
      rw [e0]
      obtain ⟨k, rfl⟩ := Int.eq_ofNat_of_zero_le ca.1
      have hk : k < 3 := by omega
      have hv := ha1.v hk
      have hD := ha1.d hk
      have ht := ha1.t
      have v1 := hv.1
      have v2 := hv.2.1
      have hl := ha1.l
      have h10 := ha1.2
      have hwv := (mV_i (show k < 4 by omega)).mp hv
      have en := vX_n (M := M1) (show k < 4 by omega)
      have q9 := hq _ (-9) (hP1.tr (xA_u (x := M1 17 15 + 1) ha1))
      have k50 : ∀ p, (0 ≤ p ∧ p < M1 21 k) → ∀ M2, fX M1 M2 ∧ fr [8 + 2 * k, 8 + 2 * k + 1] (vX M1) (vX M2) ∧ mV M2 k ∧ takR (vX M1) (vX M2) (8 + 2 * k) p ∧ M2 17 = M1 17 → K 50 [some (mm_R 17), some (mm_I k), some (mm_I f), none] [mm_I (vX M1 (8 + 2 * k + 1) p.toNat)] M2 d 0 := by
        intro p hp M2 ⟨g1, g2, g3, g4, g5⟩
        have hD2 := tak_wD hD g4
        have ht2 := tX_to ht g2 (isKk (show k < 4 by omega))
        have hst : 0 ≤ vX M1 (8 + 2 * k + 1) p.toNat ∧ vX M1 (8 + 2 * k + 1) p.toNat < 2 * M2 17 1 := by rw [g5]; exact hwv.2.2 p.toNat (by rw [en]; omega)
        generalize vX M1 (8 + 2 * k + 1) p.toNat = st at hst
        have h10' : M2 17 10 = M1 17 10 := by rw [g5]
        have h13' : M2 17 13 = M1 17 13 := by rw [g5]
        have f0 := (xP_q ha1 hk g1 g5 g2 g3 hD2).2
        have f1 : ∀ c, (0 ≤ c ∧ c < 10) → xP M1 (mm_up (mm_up M2 22 k c) 17 13 (if (mm_up M2 22 k c) 17 10 = k then 1 else (mm_up M2 22 k c) 17 13)) := fun c hc => (xP_q ha1 hk (g1.tr (fX.rf.up (by omega))) ((mm_up_o _ (by omega)).trans g5) (g2.tr (by rw [vX_u22 (by omega)]; exact fr.rf.up (by simp))) (mV_b (by omega) g3 hc) (by rw [vX_u22 (by omega)]; exact wD_b hD2)).2
        have q0 : ∀ x r, Q (.inl (some (mm_I r))) (mm_up (mm_up M2 17 13 (if M2 17 10 = k then 1 else M2 17 13)) 17 14 x) d := fun x r => hq _ _ (xP_ac (hP1.tr f0))
        have q1 : ∀ c, (c = glX M2 st ∧ 0 ≤ c ∧ c < 10) → ∀ x r, Q (.inl (some (mm_I r))) (mm_up (mm_up (mm_up M2 22 k c) 17 13 (if (mm_up M2 22 k c) 17 10 = k then 1 else (mm_up M2 22 k c) 17 13)) 17 14 x) d := fun c hc x r => hq _ _ (xP_ac (hP1.tr (f1 c hc.2)))
        have z1 : ∀ c, mm_up M2 22 k c 17 10 = M2 17 10 ∧ mm_up M2 22 k c 17 13 = M2 17 13 := fun c => ⟨mm_up_ob (by omega), mm_up_ob (by omega)⟩
        refine hK2 _ _ _ _ _ _ ?_
        refine mm_run_at (stop := []) (S := K) kkX5_back 90 ?_ (fun _ _ _ _ _ _ _ h => hK _ _ _ _ _ _ h)
        repeat' (first | with_reducible assumption | with_reducible exact True.intro | with_reducible exact mm_i17 | with_reducible exact mm_i18 | with_reducible exact mm_i19 | with_reducible exact mm_i20 | with_reducible exact mm_i21 | with_reducible exact mm_i22 | ((with_reducible show mm_rv _ _ _ _ _); first | exact True.intro | exact mm_i17 | exact mm_i18 | exact mm_i19 | exact mm_i20 | exact mm_i21 | exact mm_i22) | ((with_reducible show mm_bool _ _); first | exact True.intro | exact Or.inl rfl | exact Or.inr rfl | (show (_ : Int) = 0 ∨ _ = 1)) | rfl | with_reducible exact Or.inl rfl | with_reducible exact Or.inr rfl | exact Nat.le_of_ble_eq_true rfl | refine And.intro ?_ ?_ | intro _)
        all_goals (try simp (disch := omega) only [InI, Int.toNat_natCast, Int.tmod_eq_emod_of_nonneg, Int.tdiv_eq_ediv_of_nonneg, true_implies, true_or, or_true, mm_l18, mm_l19, mm_l20, mm_l21, mm_l22] at *)
        all_goals first | omega | exact q0 _ _ | exact q1 _ (by assumption) _ _ | (rw [(z1 _).1]; omega) | (rw [(z1 _).2]; omega) | skip
      refine hK2 _ _ _ _ _ _ ?_
      refine mm_run_at (stop := [50]) (S := K) kkX5_back 90 ?_ (fun _ _ _ _ _ _ _ h => hK _ _ _ _ _ _ h)
      repeat' (first | with_reducible assumption | with_reducible exact True.intro | with_reducible exact mm_i17 | with_reducible exact mm_i18 | with_reducible exact mm_i19 | with_reducible exact mm_i20 | with_reducible exact mm_i21 | with_reducible exact mm_i22 | ((with_reducible show mm_rv _ _ _ _ _); first | exact True.intro | exact mm_i17 | exact mm_i18 | exact mm_i19 | exact mm_i20 | exact mm_i21 | exact mm_i22 | ((with_reducible show mV _ _); exact hv) | ((with_reducible show wD _ _); exact hD)) | ((with_reducible show mV _ _); exact hv) | ((with_reducible show wD _ _); exact hD) | ((with_reducible show mm_bool _ _); first | exact True.intro | exact Or.inl rfl | exact Or.inr rfl | (show (_ : Int) = 0 ∨ _ = 1)) | rfl | with_reducible exact Or.inl rfl | with_reducible exact Or.inr rfl | exact Nat.le_of_ble_eq_true rfl | refine And.intro ?_ ?_ | intro _)
      all_goals (try simp (disch := omega) only [InI, Int.toNat_natCast, Int.tmod_eq_emod_of_nonneg, Int.tdiv_eq_ediv_of_nonneg, true_implies, true_or, or_true, mm_l18, mm_l19, mm_l20, mm_l21, mm_l22] at *)
      all_goals first | omega | exact q9 | exact k50 0 (by omega) _ (by assumption) | exact k50 (M1 21 k - 1) (by omega) _ (by assumption) | skip
    refine ⟨Nat.le_of_ble_eq_true rfl, ?_⟩
    refine mm_run_at (stop := [15]) (S := K) kkX5_back 90 ?_ (fun _ _ _ _ _ _ _ h => hK _ _ _ _ _ _ h)
    repeat' (first | with_reducible assumption | with_reducible exact True.intro | with_reducible exact mm_i17 | with_reducible exact mm_i18 | with_reducible exact mm_i19 | with_reducible exact mm_i20 | with_reducible exact mm_i21 | with_reducible exact mm_i22 | ((with_reducible show mm_rv _ _ _ _ _); first | exact True.intro | exact mm_i17 | exact mm_i18 | exact mm_i19 | exact mm_i20 | exact mm_i21 | exact mm_i22) | ((with_reducible show mm_bool _ _); first | exact True.intro | exact Or.inl rfl | exact Or.inr rfl | (show (_ : Int) = 0 ∨ _ = 1)) | rfl | with_reducible exact Or.inl rfl | with_reducible exact Or.inr rfl | exact Nat.le_of_ble_eq_true rfl | refine And.intro ?_ ?_ | intro _)
    all_goals (try simp (disch := omega) only [InI, Int.toNat_natCast, Int.tmod_eq_emod_of_nonneg, Int.tdiv_eq_ediv_of_nonneg, true_implies, true_or, or_true, mm_l18, mm_l19, mm_l20, mm_l21, mm_l22] at *)
    all_goals first | omega | exact hq _ _ (xP_s ha) | exact k15 _ (by omega) | skip
  · exact h.elim
theorem me_X5_back {l : Launch} (hl : l.stackTraces = false) : mm_Met l yX5_back cX5_back 4 (some .int) [] 8 146 0 sp_X5_back := mm_mt hl rn_X5_back ⟨by decide, rfl⟩ kkX5_back rfl ⟨by decide, by decide⟩ flkX5 (fun _ h => nomatch h) (⟨mm_pe (me_X5_isNoWalk hl) mwX5_isNoWalk (mm_t7 40 rfl rfl) (Nat.le_of_ble_eq_true rfl) (Nat.le_of_ble_eq_true rfl), mm_pe (me_X5_start hl) mwX5_start (mm_t6 114 rfl rfl) (Nat.le_of_ble_eq_true rfl) (Nat.le_of_ble_eq_true rfl), mm_pe (me_X5_cannot hl) mwX5_cannot (mm_t6 122 rfl rfl) (Nat.le_of_ble_eq_true rfl) (Nat.le_of_ble_eq_true rfl), mm_pe (me_X5_take hl) mwX5_take (mm_t6 197 rfl rfl) (Nat.le_of_ble_eq_true rfl) (Nat.le_of_ble_eq_true rfl), mm_pe (me_X5_comesTo hl) mwX5_comesTo (mm_t6 193 rfl rfl) (Nat.le_of_ble_eq_true rfl) (Nat.le_of_ble_eq_true rfl), mm_pe (me_X5_lose hl) mwX5_lose (mm_t7 44 rfl rfl) (Nat.le_of_ble_eq_true rfl) (Nat.le_of_ble_eq_true rfl), mm_pe (me_X5_act hl) mwX5_act (mm_t6 134 rfl rfl) (Nat.le_of_ble_eq_true rfl) (Nat.le_of_ble_eq_true rfl), trivial⟩) (mm_xe0 _)
/-- walk 3, the place to look at -/
theorem xP_3 {M M1 : mm_M} (ha : xA M) (hx : fX M M1) (h17 : M1 17 10 = M 17 10) (hf : fr [14, 15, 5, 6] (vX M) (vX M1)) : xP M M1 := ⟨hx, ha.1.x hf, by rw [h17]; exact ha.2⟩
theorem at_X5_copy_0 : mm_at 0 kdX5_copy = [(0, .aload_n 0, 0), (1, .aload_n 0, 0), (2, .iload_n 1, 0), (3, .invokevirtual 178, 0), (6, .ifCond .ne 11, 17), (9, .aload_n 0, 0), (10, .iload_n 2, 0), (11, .invokevirtual 178, 0), (14, .ifCond .eq 7, 21), (17, .iconst 1, 0), (18, .goto 4, 22), (21, .iconst 0, 0), (22, .iconst 1, 0), (23, .invokevirtual 146, 0), (26, .ifCond .eq 5, 31), (29, .iconst 0, 0), (30, .ireturn, 0), (31, .iload_n 1, 0), (32, .iload_n 2, 0), (33, .if_icmp .ne 8, 41), (36, .aload_n 0, 0), (37, .invokevirtual 149, 0), (40, .ireturn, 0), (41, .aload_n 0, 0), (42, .getfield 19, 0), (45, .iload_n 1, 0), (46, .iaload, 0), (47, .ifCond .gt 12, 59), (50, .aload_n 0, 0), (51, .getfield 19, 0), (54, .iload_n 2, 0), (55, .iaload, 0), (56, .ifCond .le 8, 64), (59, .aload_n 0, 0), (60, .iload_n 2, 0), (61, .invokevirtual 181, 0), (64, .aload_n 0, 0), (65, .iload_n 1, 0), (66, .iload_n 2, 0), (67, .invokevirtual 210, 0), (70, .aload_n 0, 0), (71, .aload_n 0, 0), (72, .getfield 19, 0), (75, .iload_n 2, 0), (76, .iaload, 0), (77, .invokevirtual 156, 0), (80, .ireturn, 0)] := rfl
theorem at_X5_copy_17 : mm_at 17 kdX5_copy = [(17, .iconst 1, 0), (18, .goto 4, 22), (21, .iconst 0, 0), (22, .iconst 1, 0), (23, .invokevirtual 146, 0), (26, .ifCond .eq 5, 31), (29, .iconst 0, 0), (30, .ireturn, 0), (31, .iload_n 1, 0), (32, .iload_n 2, 0), (33, .if_icmp .ne 8, 41), (36, .aload_n 0, 0), (37, .invokevirtual 149, 0), (40, .ireturn, 0), (41, .aload_n 0, 0), (42, .getfield 19, 0), (45, .iload_n 1, 0), (46, .iaload, 0), (47, .ifCond .gt 12, 59), (50, .aload_n 0, 0), (51, .getfield 19, 0), (54, .iload_n 2, 0), (55, .iaload, 0), (56, .ifCond .le 8, 64), (59, .aload_n 0, 0), (60, .iload_n 2, 0), (61, .invokevirtual 181, 0), (64, .aload_n 0, 0), (65, .iload_n 1, 0), (66, .iload_n 2, 0), (67, .invokevirtual 210, 0), (70, .aload_n 0, 0), (71, .aload_n 0, 0), (72, .getfield 19, 0), (75, .iload_n 2, 0), (76, .iaload, 0), (77, .invokevirtual 156, 0), (80, .ireturn, 0)] := rfl
theorem at_X5_copy_21 : mm_at 21 kdX5_copy = [(21, .iconst 0, 0), (22, .iconst 1, 0), (23, .invokevirtual 146, 0), (26, .ifCond .eq 5, 31), (29, .iconst 0, 0), (30, .ireturn, 0), (31, .iload_n 1, 0), (32, .iload_n 2, 0), (33, .if_icmp .ne 8, 41), (36, .aload_n 0, 0), (37, .invokevirtual 149, 0), (40, .ireturn, 0), (41, .aload_n 0, 0), (42, .getfield 19, 0), (45, .iload_n 1, 0), (46, .iaload, 0), (47, .ifCond .gt 12, 59), (50, .aload_n 0, 0), (51, .getfield 19, 0), (54, .iload_n 2, 0), (55, .iaload, 0), (56, .ifCond .le 8, 64), (59, .aload_n 0, 0), (60, .iload_n 2, 0), (61, .invokevirtual 181, 0), (64, .aload_n 0, 0), (65, .iload_n 1, 0), (66, .iload_n 2, 0), (67, .invokevirtual 210, 0), (70, .aload_n 0, 0), (71, .aload_n 0, 0), (72, .getfield 19, 0), (75, .iload_n 2, 0), (76, .iaload, 0), (77, .invokevirtual 156, 0), (80, .ireturn, 0)] := rfl
theorem at_X5_copy_22 : mm_at 22 kdX5_copy = [(22, .iconst 1, 0), (23, .invokevirtual 146, 0), (26, .ifCond .eq 5, 31), (29, .iconst 0, 0), (30, .ireturn, 0), (31, .iload_n 1, 0), (32, .iload_n 2, 0), (33, .if_icmp .ne 8, 41), (36, .aload_n 0, 0), (37, .invokevirtual 149, 0), (40, .ireturn, 0), (41, .aload_n 0, 0), (42, .getfield 19, 0), (45, .iload_n 1, 0), (46, .iaload, 0), (47, .ifCond .gt 12, 59), (50, .aload_n 0, 0), (51, .getfield 19, 0), (54, .iload_n 2, 0), (55, .iaload, 0), (56, .ifCond .le 8, 64), (59, .aload_n 0, 0), (60, .iload_n 2, 0), (61, .invokevirtual 181, 0), (64, .aload_n 0, 0), (65, .iload_n 1, 0), (66, .iload_n 2, 0), (67, .invokevirtual 210, 0), (70, .aload_n 0, 0), (71, .aload_n 0, 0), (72, .getfield 19, 0), (75, .iload_n 2, 0), (76, .iaload, 0), (77, .invokevirtual 156, 0), (80, .ireturn, 0)] := rfl
theorem at_X5_copy_31 : mm_at 31 kdX5_copy = [(31, .iload_n 1, 0), (32, .iload_n 2, 0), (33, .if_icmp .ne 8, 41), (36, .aload_n 0, 0), (37, .invokevirtual 149, 0), (40, .ireturn, 0), (41, .aload_n 0, 0), (42, .getfield 19, 0), (45, .iload_n 1, 0), (46, .iaload, 0), (47, .ifCond .gt 12, 59), (50, .aload_n 0, 0), (51, .getfield 19, 0), (54, .iload_n 2, 0), (55, .iaload, 0), (56, .ifCond .le 8, 64), (59, .aload_n 0, 0), (60, .iload_n 2, 0), (61, .invokevirtual 181, 0), (64, .aload_n 0, 0), (65, .iload_n 1, 0), (66, .iload_n 2, 0), (67, .invokevirtual 210, 0), (70, .aload_n 0, 0), (71, .aload_n 0, 0), (72, .getfield 19, 0), (75, .iload_n 2, 0), (76, .iaload, 0), (77, .invokevirtual 156, 0), (80, .ireturn, 0)] := rfl
theorem at_X5_copy_41 : mm_at 41 kdX5_copy = [(41, .aload_n 0, 0), (42, .getfield 19, 0), (45, .iload_n 1, 0), (46, .iaload, 0), (47, .ifCond .gt 12, 59), (50, .aload_n 0, 0), (51, .getfield 19, 0), (54, .iload_n 2, 0), (55, .iaload, 0), (56, .ifCond .le 8, 64), (59, .aload_n 0, 0), (60, .iload_n 2, 0), (61, .invokevirtual 181, 0), (64, .aload_n 0, 0), (65, .iload_n 1, 0), (66, .iload_n 2, 0), (67, .invokevirtual 210, 0), (70, .aload_n 0, 0), (71, .aload_n 0, 0), (72, .getfield 19, 0), (75, .iload_n 2, 0), (76, .iaload, 0), (77, .invokevirtual 156, 0), (80, .ireturn, 0)] := rfl
theorem at_X5_copy_59 : mm_at 59 kdX5_copy = [(59, .aload_n 0, 0), (60, .iload_n 2, 0), (61, .invokevirtual 181, 0), (64, .aload_n 0, 0), (65, .iload_n 1, 0), (66, .iload_n 2, 0), (67, .invokevirtual 210, 0), (70, .aload_n 0, 0), (71, .aload_n 0, 0), (72, .getfield 19, 0), (75, .iload_n 2, 0), (76, .iaload, 0), (77, .invokevirtual 156, 0), (80, .ireturn, 0)] := rfl
theorem at_X5_copy_64 : mm_at 64 kdX5_copy = [(64, .aload_n 0, 0), (65, .iload_n 1, 0), (66, .iload_n 2, 0), (67, .invokevirtual 210, 0), (70, .aload_n 0, 0), (71, .aload_n 0, 0), (72, .getfield 19, 0), (75, .iload_n 2, 0), (76, .iaload, 0), (77, .invokevirtual 156, 0), (80, .ireturn, 0)] := rfl
def sp_X5_copy : mm_S := fun av M d Q => match av with
  | [.inr (.inr (.inl o)), .inl a, .inl b] =>  o = 17 ∧ xA M ∧ InI a ∧ InI b ∧ ∀ M' r, xP M M' → Q (.inl (some (mm_I r))) M' d
  | _ => False
def ct_X5_copy : List (Nat × mm_Ca) := [(178, (0, 2, 14, sp_X5_isNoWalk, 0)), (146, (0, 3, 14, sp_X5_start, 0)), (149, (0, 1, 14, sp_X5_cannot, 0)), (181, (0, 2, 14, sp_X5_lose, 0)), (210, (0, 3, 14, sp_X5_copied, 0)), (156, (0, 2, 14, sp_X5_act, 0))]
abbrev rr_X5_copy (Q : mm_Q) := mm_run (mm_look flX5) (mm_look ct_X5_copy) mm_x0 (mm_look ([] : List (Nat × Int))) (fun _ => none) 1 0 (fun _ _ => none) Q kdX5_copy
set_option maxRecDepth 20000 in
theorem rn_X5_copy : mm_RN flX5 ct_X5_copy mm_x0 [] 1 0 3 kdX5_copy sp_X5_copy := by
  intro av M d Q h
  unfold sp_X5_copy at h
  split at h
  · rename_i o a b
    obtain ⟨rfl, ha, h1, h2, hq⟩ := h
    obtain ⟨K, hK, hK2⟩ : ∃ K : Nat → mm_K, (∀ t ls st M d u, K t ls st M d u → rr_X5_copy Q t ls st M d u) ∧ (∀ t ls st M d u, rr_X5_copy Q t ls st M d u → K t ls st M d u) := ⟨rr_X5_copy Q, fun _ _ _ _ _ _ h => h, fun _ _ _ _ _ _ h => h⟩
    have k31 : ∀ v, (0 ≤ a ∧ a ≤ 2) → (0 ≤ b ∧ b ≤ 2) → K 31 [some (mm_R 17), some (mm_I a), some (mm_I b)] [] (mm_up M 17 0 v) d 0 := by
      intro v ca cb
      obtain ⟨M1, e0, ha1, hP1, e17, eo⟩ := xS (v := v) ha
      rw [e0]
      obtain ⟨k, rfl⟩ := Int.eq_ofNat_of_zero_le ca.1
      obtain ⟨w, rfl⟩ := Int.eq_ofNat_of_zero_le cb.1
      have hk : k < 3 := by omega
      have hw : w < 3 := by omega
      have hv := ha1.v hk
      have hD := ha1.d hk
      have v1 := hv.1
      have w1 := (ha1.v hw).1
      have en := vX_n (M := M1) (show k < 4 by omega)
      have q9 := hq _ (-9) (hP1.tr (xA_u (x := M1 17 15 + 1) ha1))
      have cp : (k : Int) ≠ w → ∀ M2, xP M1 M2 → (∀ o, o ≠ 17 → M2 o = M1 o) → (vX M2 16 1 = ((8 + 2 * w : Nat) : Int) → vX M2 16 4 = 1) ∨ M2 21 w ≤ 0 ∧ M2 21 k ≤ 0 → K 64 [some (mm_R 17), some (mm_I k), some (mm_I w)] [] M2 d 0 := by
        intro hne M2 hP2 eo hc
        have mv := hP2.a.v hk
        have hD2 := hP2.a.d hk
        have v1' := mv.1
        have w1' := (hP2.a.v hw).1
        have k70 : ∀ M3, fX M2 M3 ∧ M3 17 = M2 17 ∧ fr [8 + 2 * w, 8 + 2 * w + 1] (vX M2) (vX M3) ∧ cpyR (vX M2) (vX M3) (8 + 2 * w) (8 + 2 * k) ∧ mV M3 w → K 70 [some (mm_R 17), some (mm_I k), some (mm_I w)] [] M3 d 0 := by
          intro M3 ⟨g1, g2, g3, g4, g5⟩
          have hD3 := cpy_wD hD2 g4
          have e1 : M3 21 w = M2 21 k := by
            have := g4.1
            rw [vX_n (by omega), vX_n (by omega)] at this
            exact this
          have hP3 : xP M2 M3 := by
            rcases hc with hc | hc
            · exact xP_wl hP2.a hw hc g1 g3 g5 hD3 (by rw [g2])
            · exact xP_we hP2.a hw g1 g3 g5 hD3 (by rw [g2]) (by omega)
          have q0 : ∀ x r, Q (.inl (some (mm_I r))) (mm_up M3 17 14 x) d := fun x r => hq _ _ (xP_ac ((hP1.tr hP2).tr hP3))
          have g51 := g5.1
          refine hK2 _ _ _ _ _ _ ?_
          refine mm_run_at (stop := []) (S := K) kkX5_copy 90 ?_ (fun _ _ _ _ _ _ _ h => hK _ _ _ _ _ _ h)
          repeat' (first | with_reducible assumption | with_reducible exact True.intro | with_reducible exact mm_i17 | with_reducible exact mm_i18 | with_reducible exact mm_i19 | with_reducible exact mm_i20 | with_reducible exact mm_i21 | with_reducible exact mm_i22 | ((with_reducible show mm_rv _ _ _ _ _); first | exact True.intro | exact mm_i17 | exact mm_i18 | exact mm_i19 | exact mm_i20 | exact mm_i21 | exact mm_i22) | ((with_reducible show mm_bool _ _); first | exact True.intro | exact Or.inl rfl | exact Or.inr rfl | (show (_ : Int) = 0 ∨ _ = 1)) | rfl | with_reducible exact Or.inl rfl | with_reducible exact Or.inr rfl | exact Nat.le_of_ble_eq_true rfl | refine And.intro ?_ ?_ | intro _)
          all_goals (try simp (disch := omega) only [InI, Int.toNat_natCast, Int.tmod_eq_emod_of_nonneg, Int.tdiv_eq_ediv_of_nonneg, true_implies, true_or, or_true, mm_l18, mm_l19, mm_l20, mm_l21, mm_l22] at *)
          all_goals first | omega | exact q0 _ _ | skip
        refine hK2 _ _ _ _ _ _ ?_
        refine mm_run_at (stop := [70]) (S := K) kkX5_copy 90 ?_ (fun _ _ _ _ _ _ _ h => hK _ _ _ _ _ _ h)
        repeat' (first | with_reducible assumption | with_reducible exact True.intro | with_reducible exact mm_i17 | with_reducible exact mm_i18 | with_reducible exact mm_i19 | with_reducible exact mm_i20 | with_reducible exact mm_i21 | with_reducible exact mm_i22 | ((with_reducible show mm_rv _ _ _ _ _); first | exact True.intro | exact mm_i17 | exact mm_i18 | exact mm_i19 | exact mm_i20 | exact mm_i21 | exact mm_i22 | ((with_reducible show mV _ _); exact mv)) | ((with_reducible show mV _ _); exact mv) | ((with_reducible show mm_bool _ _); first | exact True.intro | exact Or.inl rfl | exact Or.inr rfl | (show (_ : Int) = 0 ∨ _ = 1)) | rfl | with_reducible exact Or.inl rfl | with_reducible exact Or.inr rfl | exact Nat.le_of_ble_eq_true rfl | refine And.intro ?_ ?_ | intro _)
        all_goals (try simp (disch := omega) only [InI, Int.toNat_natCast, Int.tmod_eq_emod_of_nonneg, Int.tdiv_eq_ediv_of_nonneg, true_implies, true_or, or_true, mm_l18, mm_l19, mm_l20, mm_l21, mm_l22] at *)
        all_goals first | omega | exact k70 _ (by assumption) | skip
      have hl := ha1.l
      have h10 := ha1.2
      have c0 := fun hne h => cp hne M1 ha1.rf (fun _ _ => rfl) (Or.inr h)
      have c1 := fun hne => cp hne _ (xP_lo (k := w) ha1 hw).1 (fun o ho => mm_up_o _ ho) (Or.inl (xP_lo ha1 hw).2)
      clear cp
      refine hK2 _ _ _ _ _ _ ?_
      refine mm_run_at (stop := [64]) (S := K) kkX5_copy 90 ?_ (fun _ _ _ _ _ _ _ h => hK _ _ _ _ _ _ h)
      repeat' (first | with_reducible assumption | with_reducible exact True.intro | with_reducible exact mm_i17 | with_reducible exact mm_i18 | with_reducible exact mm_i19 | with_reducible exact mm_i20 | with_reducible exact mm_i21 | with_reducible exact mm_i22 | ((with_reducible show mm_rv _ _ _ _ _); first | exact True.intro | exact mm_i17 | exact mm_i18 | exact mm_i19 | exact mm_i20 | exact mm_i21 | exact mm_i22) | ((with_reducible show mm_bool _ _); first | exact True.intro | exact Or.inl rfl | exact Or.inr rfl | (show (_ : Int) = 0 ∨ _ = 1)) | rfl | with_reducible exact Or.inl rfl | with_reducible exact Or.inr rfl | exact Nat.le_of_ble_eq_true rfl | refine And.intro ?_ ?_ | intro _)
      all_goals (try simp (disch := omega) only [InI, Int.toNat_natCast, Int.tmod_eq_emod_of_nonneg, Int.tdiv_eq_ediv_of_nonneg, true_implies, true_or, or_true, mm_l18, mm_l19, mm_l20, mm_l21, mm_l22] at *)
      all_goals first | omega | exact q9 | exact c0 (by omega) ⟨by omega, by omega⟩ | exact c1 (by omega) | skip
    refine ⟨Nat.le_of_ble_eq_true rfl, ?_⟩
    refine mm_run_at (stop := [31]) (S := K) kkX5_copy 90 ?_ (fun _ _ _ _ _ _ _ h => hK _ _ _ _ _ _ h)
    repeat' (first | with_reducible assumption | with_reducible exact True.intro | with_reducible exact mm_i17 | with_reducible exact mm_i18 | with_reducible exact mm_i19 | with_reducible exact mm_i20 | with_reducible exact mm_i21 | with_reducible exact mm_i22 | ((with_reducible show mm_rv _ _ _ _ _); first | exact True.intro | exact mm_i17 | exact mm_i18 | exact mm_i19 | exact mm_i20 | exact mm_i21 | exact mm_i22) | ((with_reducible show mm_bool _ _); first | exact True.intro | exact Or.inl rfl | exact Or.inr rfl | (show (_ : Int) = 0 ∨ _ = 1)) | rfl | with_reducible exact Or.inl rfl | with_reducible exact Or.inr rfl | exact Nat.le_of_ble_eq_true rfl | refine And.intro ?_ ?_ | intro _)
    all_goals (try simp (disch := omega) only [InI, Int.toNat_natCast, Int.tmod_eq_emod_of_nonneg, Int.tdiv_eq_ediv_of_nonneg, true_implies, true_or, or_true, mm_l18, mm_l19, mm_l20, mm_l21, mm_l22] at *)
    all_goals first | omega | exact hq _ _ (xP_s ha) | exact k31 _ (by omega) (by omega) | skip
  · exact h.elim
theorem me_X5_copy {l : Launch} (hl : l.stackTraces = false) : mm_Met l yX5_copy cX5_copy 3 (some .int) [] 8 145 0 sp_X5_copy := mm_mt hl rn_X5_copy ⟨by decide, rfl⟩ kkX5_copy rfl ⟨by decide, by decide⟩ flkX5 (fun _ h => nomatch h) (⟨mm_pe (me_X5_isNoWalk hl) mwX5_isNoWalk (mm_t7 40 rfl rfl) (Nat.le_of_ble_eq_true rfl) (Nat.le_of_ble_eq_true rfl), mm_pe (me_X5_start hl) mwX5_start (mm_t6 114 rfl rfl) (Nat.le_of_ble_eq_true rfl) (Nat.le_of_ble_eq_true rfl), mm_pe (me_X5_cannot hl) mwX5_cannot (mm_t6 122 rfl rfl) (Nat.le_of_ble_eq_true rfl) (Nat.le_of_ble_eq_true rfl), mm_pe (me_X5_lose hl) mwX5_lose (mm_t7 44 rfl rfl) (Nat.le_of_ble_eq_true rfl) (Nat.le_of_ble_eq_true rfl), mm_pe (me_X5_copied hl) mwX5_copied (mm_t7 144 rfl rfl) (Nat.le_of_ble_eq_true rfl) (Nat.le_of_ble_eq_true rfl), mm_pe (me_X5_act hl) mwX5_act (mm_t6 134 rfl rfl) (Nat.le_of_ble_eq_true rfl) (Nat.le_of_ble_eq_true rfl), trivial⟩) (mm_xe0 _)

