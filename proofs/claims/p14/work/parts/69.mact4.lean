/-! the model: more acts on one walk -/
theorem xP_q {M M1 : mm_M} {k : Nat} (ha : xA M) (hk : k < 3) (hx : fX M M1) (h17 : M1 17 = M 17) (hf : fr [8 + 2 * k, 8 + 2 * k + 1] (vX M) (vX M1)) (hv : mV M1 k) (hD : wD (vX M1) (8 + 2 * k)) : (M 21 k ≤ M1 21 k → xP M M1) ∧ xP M (mm_up M1 17 13 (if M1 17 10 = k then 1 else M1 17 13)) :=
  ⟨fun h => xP_we ha hk hx hf hv hD (by rw [h17]) h, xP_wL ha hk hx hf hv hD (by rw [h17])⟩
theorem cX_l {M2 M3 : mm_M} {k : Nat} {r : Int} {P : Prop} [Decidable P] (h10 : -1 ≤ M2 17 10 ∧ M2 17 10 ≤ 2) (hP : P) (hr : r ≠ -9) (e3 : M3 = mm_up M2 17 13 (if M2 17 10 = k then 1 else M2 17 13)) : vX (mm_up M3 17 14 (M3 17 14 + 1)) = cnF (losI P (vX M2) (8 + 2 * k)) r := by rw [cX_n hr, e3, los_m h10, losI_y hP]
theorem cX_m {M2 M3 : mm_M} {k : Nat} {r : Int} (h10 : -1 ≤ M2 17 10 ∧ M2 17 10 ≤ 2) (hr : r ≠ -9) (e3 : M3 = mm_up M2 17 13 (if M2 17 10 = k then 1 else M2 17 13)) : vX (mm_up M3 17 14 (M3 17 14 + 1)) = cnF (losM (vX M2) (8 + 2 * k)) r := by rw [cX_n hr, e3, los_m h10]
theorem cX_nl {M2 : mm_M} {w : Nat} {r : Int} {P : Prop} [Decidable P] (hP : ¬ P) (hr : r ≠ -9) : vX (mm_up M2 17 14 (M2 17 14 + 1)) = cnF (losI P (vX M2) w) r := by rw [cX_n hr, losI_n hP]
def sp_X5_on : mm_S := fun av M d Q => match av with
  | [.inr (.inr (.inl o)), .inl a, .inl f] =>  o = 17 ∧ xA M ∧ InI a ∧ (f = 0 ∨ f = 1) ∧ ∀ M' r, xP M M' → C_on a f (vX M) (vX M') (M' 17 0) r → Q (.inl (some (mm_I r))) M' d
  | _ => False
def ct_X5_on : List (Nat × mm_Ca) := [(178, (0, 2, 14, sp_X5_isNoWalk, 0)), (146, (0, 3, 14, sp_X5_start, 0)), (127, (0, 4, 14, sp_X5_gone, 0)), (181, (0, 2, 14, sp_X5_lose, 0)), (156, (0, 2, 14, sp_X5_act, 0))]
abbrev rr_X5_on (Q : mm_Q) := mm_run (mm_look flX5) (mm_look ct_X5_on) mm_x0 (mm_look ([] : List (Nat × Int))) (fun _ => none) 1 0 (fun _ _ => none) Q kdX5_on
set_option maxRecDepth 20000 in
theorem rn_X5_on : mm_RN flX5 ct_X5_on mm_x0 [] 1 0 4 kdX5_on sp_X5_on := by
  intro av M d Q h
  unfold sp_X5_on at h
  split at h
  · rename_i o a f
    obtain ⟨rfl, ha, h1, hf, hq⟩ := h
    obtain ⟨K, hK, hK2⟩ : ∃ K : Nat → mm_K, (∀ t ls st M d u, K t ls st M d u → rr_X5_on Q t ls st M d u) ∧ (∀ t ls st M d u, rr_X5_on Q t ls st M d u → K t ls st M d u) := ⟨rr_X5_on Q, fun _ _ _ _ _ _ h => h, fun _ _ _ _ _ _ h => h⟩
    have q1 : ∀ v, v = 1 → ¬ (0 ≤ a ∧ a ≤ 2) → Q (.inl (some (mm_I 0))) (mm_up M 17 0 v) d := fun v hv hn => hq _ _ (xP_s ha) (xq1 (fun h => by unfold iw at h; omega) hv)
    have k15 : ∀ v, v = 0 → (0 ≤ a ∧ a ≤ 2) → K 15 [some (mm_R 17), some (mm_I a), some (mm_I f), none] [] (mm_up M 17 0 v) d 0 := by
      intro v hv0 ca
      obtain ⟨M1, e0, ha1, hP1, e17, eo⟩ := xS (v := v) ha
      have e00 : M1 17 0 = 0 := by rw [← e0, hv0]; exact x00
      have eV : vX M1 = vX M := by rw [← e0, vX_u0]
      rw [e0]
      obtain ⟨k, rfl⟩ := Int.eq_ofNat_of_zero_le ca.1
      have hk : k < 3 := by omega
      have hv := ha1.v hk
      have hD := ha1.d hk
      have ht := ha1.t
      have v1 := hv.1
      have hl := ha1.l
      have h10 := ha1.2
      have k27 : ∀ M2 (r : Nat), fX M1 M2 ∧ M2 17 = M1 17 ∧ fr [8 + 2 * k, 8 + 2 * k + 1] (vX M1) (vX M2) ∧ mV M2 k ∧ wD (vX M2) (8 + 2 * k) ∧ goR f (8 + 2 * k) r (M1 21 k) (vX M1) (vX M2) ∧ M2 21 k = M1 21 k + r → K 27 [some (mm_R 17), some (mm_I k), some (mm_I f), none] [mm_I r] M2 d 0 := by
        intro M2 r ⟨g1, g2, g3, g4, g5, g6, g7⟩
        have hP := xP_q ha1 hk g1 g2 g3 g4 g5
        have h10' : M2 17 10 = M1 17 10 := by rw [g2]
        have h13' : M2 17 13 = M1 17 13 := by rw [g2]
        have h00 : M2 17 0 = 0 := by rw [g2]; exact e00
        have en := vX_n (M := M1) (show k < 4 by omega)
        have gg : goR f (wk (k : Int)) r (vX M (wk (k : Int)) 2) (vX M) (vX M2) := by rw [← eV]; rw [← en] at g6; exact g6
        have q0 : ¬ 0 < (r : Int) → Q (.inl (some (mm_I r))) (mm_up M2 17 14 (M2 17 14 + 1)) d := fun h => hq _ _ (xP_ac (hP1.tr (hP.1 (by omega)))) (Or.inr ⟨(wk_in ca).1, by rw [mm_up_ob2 (by omega)]; exact h00, vX M2, r, gg, rfl, SE.eq (cX_nl h (by omega))⟩)
        have q2 : 0 < (r : Int) → ∀ M3, M3 = mm_up M2 17 13 (if M2 17 10 = k then 1 else M2 17 13) → Q (.inl (some (mm_I r))) (mm_up M3 17 14 (M3 17 14 + 1)) d := fun h M3 e3 => hq _ _ (by rw [e3]; exact xP_ac (hP1.tr hP.2)) (Or.inr ⟨(wk_in ca).1, by rw [mm_up_ob2 (by omega), e3, mm_up_ob2 (by omega)]; exact h00, vX M2, r, gg, rfl, SE.eq (cX_l (by rw [h10']; exact h10) h (by omega) e3)⟩)
        clear hP gg g6 hq q1
        have v3 := g4.1
        refine hK2 _ _ _ _ _ _ ?_
        refine mm_run_at (stop := []) (S := K) kkX5_on 90 ?_ (fun _ _ _ _ _ _ _ h => hK _ _ _ _ _ _ h)
        repeat' (first | with_reducible assumption | with_reducible exact mm_i17 | with_reducible exact mm_i18 | with_reducible exact mm_i19 | with_reducible exact mm_i20 | with_reducible exact mm_i21 | with_reducible exact mm_i22 | ((with_reducible show mm_rv _ _ _ _ _); first | exact True.intro | exact mm_i17 | exact mm_i18 | exact mm_i19 | exact mm_i20 | exact mm_i21 | exact mm_i22) | ((with_reducible show mm_bool _ _); first | exact True.intro | exact Or.inl rfl | exact Or.inr rfl | (show (_ : Int) = 0 ∨ _ = 1)) | refine And.intro ?_ ?_ | intro _ | with_reducible exact True.intro | exact rfl | with_reducible exact Or.inl rfl | with_reducible exact Or.inr rfl | exact Nat.le_of_ble_eq_true rfl)
        all_goals (try simp (disch := omega) only [InI, Int.toNat_natCast, Int.tmod_eq_emod_of_nonneg, Int.tdiv_eq_ediv_of_nonneg, true_implies, true_or, or_true, mm_l18, mm_l19, mm_l20, mm_l21, mm_l22] at *)
        all_goals first | omega | exact q0 (by omega) | exact q2 (by omega) _ rfl | skip
      refine hK2 _ _ _ _ _ _ ?_
      refine mm_run_at (stop := [27]) (S := K) kkX5_on 90 ?_ (fun _ _ _ _ _ _ _ h => hK _ _ _ _ _ _ h)
      repeat' (first | with_reducible assumption | with_reducible exact mm_i17 | with_reducible exact mm_i18 | with_reducible exact mm_i19 | with_reducible exact mm_i20 | with_reducible exact mm_i21 | with_reducible exact mm_i22 | ((with_reducible show mm_rv _ _ _ _ _); first | exact True.intro | exact mm_i17 | exact mm_i18 | exact mm_i19 | exact mm_i20 | exact mm_i21 | exact mm_i22 | ((with_reducible show mV _ _); exact hv) | ((with_reducible show wD _ _); exact hD)) | ((with_reducible show mV _ _); exact hv) | ((with_reducible show wD _ _); exact hD) | ((with_reducible show mm_bool _ _); first | exact True.intro | exact Or.inl rfl | exact Or.inr rfl | (show (_ : Int) = 0 ∨ _ = 1)) | refine And.intro ?_ ?_ | intro _ | with_reducible exact True.intro | exact rfl | with_reducible exact Or.inl rfl | with_reducible exact Or.inr rfl | exact Nat.le_of_ble_eq_true rfl)
      all_goals (try simp (disch := omega) only [InI, Int.toNat_natCast, Int.tmod_eq_emod_of_nonneg, Int.tdiv_eq_ediv_of_nonneg, true_implies, true_or, or_true, mm_l18, mm_l19, mm_l20, mm_l21, mm_l22] at *)
      all_goals first | omega | exact k27 _ _ (by assumption) | skip
    clear hq
    refine ⟨Nat.le_of_ble_eq_true rfl, ?_⟩
    refine mm_run_at (stop := [15]) (S := K) kkX5_on 90 ?_ (fun _ _ _ _ _ _ _ h => hK _ _ _ _ _ _ h)
    repeat' (first | with_reducible assumption | with_reducible exact mm_i17 | with_reducible exact mm_i18 | with_reducible exact mm_i19 | with_reducible exact mm_i20 | with_reducible exact mm_i21 | with_reducible exact mm_i22 | ((with_reducible show mm_rv _ _ _ _ _); first | exact True.intro | exact mm_i17 | exact mm_i18 | exact mm_i19 | exact mm_i20 | exact mm_i21 | exact mm_i22) | ((with_reducible show mm_bool _ _); first | exact True.intro | exact Or.inl rfl | exact Or.inr rfl | (show (_ : Int) = 0 ∨ _ = 1)) | refine And.intro ?_ ?_ | intro _ | with_reducible exact True.intro | exact rfl | with_reducible exact Or.inl rfl | with_reducible exact Or.inr rfl | exact Nat.le_of_ble_eq_true rfl)
    all_goals (try simp (disch := omega) only [InI, Int.toNat_natCast, Int.tmod_eq_emod_of_nonneg, Int.tdiv_eq_ediv_of_nonneg, true_implies, true_or, or_true, mm_l18, mm_l19, mm_l20, mm_l21, mm_l22] at *)
    all_goals first | omega | exact q1 _ (by omega) (by omega) | exact k15 _ (by omega) (by omega) | skip
  · exact h.elim
theorem me_X5_on {l : Launch} (hl : l.stackTraces = false) : mm_Met l yX5_on cX5_on 4 (some .int) [] 9 175 0 sp_X5_on := mm_mt hl rn_X5_on ⟨plX5, rfl⟩ kkX5_on rfl ⟨Nat.le_of_ble_eq_true rfl, Nat.le_of_ble_eq_true rfl⟩ flkX5 (fun _ h => nomatch h) (⟨mm_pe (me_X5_isNoWalk hl) mwX5_isNoWalk (mm_t7 36 rfl rfl) (Nat.le_of_ble_eq_true rfl) (Nat.le_of_ble_eq_true rfl), mm_pe (me_X5_start hl) mwX5_start (mm_t6 110 rfl rfl) (Nat.le_of_ble_eq_true rfl) (Nat.le_of_ble_eq_true rfl), mm_pe (me_X5_gone hl) mwX5_gone (mm_t7 68 rfl rfl) (Nat.le_of_ble_eq_true rfl) (Nat.le_of_ble_eq_true rfl), mm_pe (me_X5_lose hl) mwX5_lose (mm_t7 40 rfl rfl) (Nat.le_of_ble_eq_true rfl) (Nat.le_of_ble_eq_true rfl), mm_pe (me_X5_act hl) mwX5_act (mm_t6 130 rfl rfl) (Nat.le_of_ble_eq_true rfl) (Nat.le_of_ble_eq_true rfl), trivial⟩) (mm_xe0 _) n9X5
def sp_X5_complete : mm_S := fun av M d Q => match av with
  | [.inr (.inr (.inl o)), .inl a, .inl f] =>  o = 17 ∧ xA M ∧ InI a ∧ (f = 0 ∨ f = 1) ∧ ∀ M' r, xP M M' → C_complete a f (vX M) (vX M') (M' 17 0) r → Q (.inl (some (mm_I r))) M' d
  | _ => False
def ct_X5_complete : List (Nat × mm_Ca) := [(178, (0, 2, 14, sp_X5_isNoWalk, 0)), (146, (0, 3, 14, sp_X5_start, 0)), (79, (0, 1, 14, sp_X5_all, 0)), (83, (0, 3, 14, sp_X5_isStartOf, 0)), (149, (0, 1, 14, sp_X5_cannot, 0)), (190, (0, 3, 14, sp_X5_completed, 0)), (181, (0, 2, 14, sp_X5_lose, 0)), (156, (0, 2, 14, sp_X5_act, 0))]
abbrev rr_X5_complete (Q : mm_Q) := mm_run (mm_look flX5) (mm_look ct_X5_complete) mm_x0 (mm_look ([] : List (Nat × Int))) (fun _ => none) 1 0 (fun _ _ => none) Q kdX5_complete
set_option maxRecDepth 20000 in
theorem rn_X5_complete : mm_RN flX5 ct_X5_complete mm_x0 [] 1 0 4 kdX5_complete sp_X5_complete := by
  intro av M d Q h
  unfold sp_X5_complete at h
  split at h
  · rename_i o a f
    obtain ⟨rfl, ha, h1, hf, hq⟩ := h
    obtain ⟨K, hK, hK2⟩ : ∃ K : Nat → mm_K, (∀ t ls st M d u, K t ls st M d u → rr_X5_complete Q t ls st M d u) ∧ (∀ t ls st M d u, rr_X5_complete Q t ls st M d u → K t ls st M d u) := ⟨rr_X5_complete Q, fun _ _ _ _ _ _ h => h, fun _ _ _ _ _ _ h => h⟩
    have q1 : ∀ v, v = 1 → ¬ (0 ≤ a ∧ a ≤ 2) → Q (.inl (some (mm_I 0))) (mm_up M 17 0 v) d := fun v hv hn => hq _ _ (xP_s ha) (xq1 (fun h => by unfold iw at h; omega) hv)
    have k15 : ∀ v, v = 0 → (0 ≤ a ∧ a ≤ 2) → K 15 [some (mm_R 17), some (mm_I a), some (mm_I f), none] [] (mm_up M 17 0 v) d 0 := by
      intro v hv0 ca
      obtain ⟨M1, e0, ha1, hP1, e17, eo⟩ := xS (v := v) ha
      have e00 : M1 17 0 = 0 := by rw [← e0, hv0]; exact x00
      have eV : vX M1 = vX M := by rw [← e0, vX_u0]
      rw [e0]
      obtain ⟨k, rfl⟩ := Int.eq_ofNat_of_zero_le ca.1
      have hk : k < 3 := by omega
      have hv := ha1.v hk
      have hD := ha1.d hk
      have ht := ha1.t
      have v1 := hv.1
      have v2 := hv.2.1
      have hl := ha1.l
      have h10 := ha1.2
      have hs := all_sub (n := (M1 17 1).toNat)
      have eb := vX_b (M := M1) (show k < 4 by omega)
      obtain ⟨PS, ePS⟩ : ∃ PS : Prop, PS ↔ STV (vX M1) (al (vX M1)) (vX M1 (8 + 2 * k) 3) := ⟨_, Iff.rfl⟩
      have q9 : ¬ PS → Q (.inl (some (mm_I (-9)))) (mm_up M1 17 15 (M1 17 15 + 1)) d := fun h => hq _ (-9) (hP1.tr (xA_u (x := M1 17 15 + 1) ha1)) (Or.inr ⟨(wk_in ca).1, by rw [mm_up_ob2 (by omega)]; exact e00, by rw [← eV]; exact no9.n (fun h2 => h (ePS.mpr h2)) cX_9⟩)
      have k43 : PS → ∀ M2 (r : Nat), fX M1 M2 ∧ M2 17 = M1 17 ∧ fr [8 + 2 * k, 8 + 2 * k + 1] (vX M1) (vX M2) ∧ mV M2 k ∧ wD (vX M2) (8 + 2 * k) ∧ comR f (8 + 2 * k) (vX M1) (vX M2) r ∧ M2 21 k = M1 21 k + r → K 43 [some (mm_R 17), some (mm_I k), some (mm_I f), none] [mm_I r] M2 d 0 := by
        intro hPS M2 r ⟨g1, g2, g3, g4, g5, g6, g7⟩
        have hP := xP_q ha1 hk g1 g2 g3 g4 g5
        have h10' : M2 17 10 = M1 17 10 := by rw [g2]
        have h13' : M2 17 13 = M1 17 13 := by rw [g2]
        have h00 : M2 17 0 = 0 := by rw [g2]; exact e00
        have key : ∀ V', V' = cnF (losI (0 < (r : Int)) (vX M2) (8 + 2 * k)) r → no9 (STV (vX M) (al (vX M)) (vX M (wk (k : Int)) 3)) (vX M) V' r (∃ V0 V1 n, fr [5, 6] (vX M) V0 ∧ comR f (wk (k : Int)) V0 V1 n ∧ fr [wk (k : Int), wk (k : Int) + 1] V0 V1 ∧ (r : Int) = n ∧ SE (cnF (losI (0 < (r : Int)) V1 (wk (k : Int))) r) V') := fun V' e => by
          rw [← eV]
          exact no9.y (ePS.mp hPS) ⟨vX M1, vX M2, r, fr.rf, g6, g3, rfl, SE.eq e⟩
        have q0 : ¬ 0 < (r : Int) → Q (.inl (some (mm_I r))) (mm_up M2 17 14 (M2 17 14 + 1)) d := fun h => hq _ _ (xP_ac (hP1.tr (hP.1 (by omega)))) (Or.inr ⟨(wk_in ca).1, by rw [mm_up_ob2 (by omega)]; exact h00, key _ (cX_nl h (by omega))⟩)
        have q2 : 0 < (r : Int) → ∀ M3, M3 = mm_up M2 17 13 (if M2 17 10 = k then 1 else M2 17 13) → Q (.inl (some (mm_I r))) (mm_up M3 17 14 (M3 17 14 + 1)) d := fun h M3 e3 => hq _ _ (by rw [e3]; exact xP_ac (hP1.tr hP.2)) (Or.inr ⟨(wk_in ca).1, by rw [mm_up_ob2 (by omega), e3, mm_up_ob2 (by omega)]; exact h00, key _ (cX_l (by rw [h10']; exact h10) h (by omega) e3)⟩)
        clear hP key g6 hq q1 q9 ePS
        have v3 := g4.1
        refine hK2 _ _ _ _ _ _ ?_
        refine mm_run_at (stop := []) (S := K) kkX5_complete 90 ?_ (fun _ _ _ _ _ _ _ h => hK _ _ _ _ _ _ h)
        repeat' (first | with_reducible assumption | with_reducible exact mm_i17 | with_reducible exact mm_i18 | with_reducible exact mm_i19 | with_reducible exact mm_i20 | with_reducible exact mm_i21 | with_reducible exact mm_i22 | ((with_reducible show mm_rv _ _ _ _ _); first | exact True.intro | exact mm_i17 | exact mm_i18 | exact mm_i19 | exact mm_i20 | exact mm_i21 | exact mm_i22) | ((with_reducible show mm_bool _ _); first | exact True.intro | exact Or.inl rfl | exact Or.inr rfl | (show (_ : Int) = 0 ∨ _ = 1)) | refine And.intro ?_ ?_ | intro _ | with_reducible exact True.intro | exact rfl | with_reducible exact Or.inl rfl | with_reducible exact Or.inr rfl | exact Nat.le_of_ble_eq_true rfl)
        all_goals (try simp (disch := omega) only [InI, Int.toNat_natCast, Int.tmod_eq_emod_of_nonneg, Int.tdiv_eq_ediv_of_nonneg, true_implies, true_or, or_true, mm_l18, mm_l19, mm_l20, mm_l21, mm_l22] at *)
        all_goals first | omega | exact q0 (by omega) | exact q2 (by omega) _ rfl | skip
      have k37 : PS → K 37 [some (mm_R 17), some (mm_I k), some (mm_I f), none] [] M1 d 0 := by
        intro hPS
        have k43' := k43 hPS
        clear k43 q9 hq q1 ePS
        refine hK2 _ _ _ _ _ _ ?_
        refine mm_run_at (stop := [43]) (S := K) kkX5_complete 90 ?_ (fun _ _ _ _ _ _ _ h => hK _ _ _ _ _ _ h)
        repeat' (first | with_reducible assumption | with_reducible exact mm_i17 | with_reducible exact mm_i18 | with_reducible exact mm_i19 | with_reducible exact mm_i20 | with_reducible exact mm_i21 | with_reducible exact mm_i22 | ((with_reducible show mm_rv _ _ _ _ _); first | exact True.intro | exact mm_i17 | exact mm_i18 | exact mm_i19 | exact mm_i20 | exact mm_i21 | exact mm_i22 | ((with_reducible show mV _ _); exact hv) | ((with_reducible show wD _ _); exact hD)) | ((with_reducible show mV _ _); exact hv) | ((with_reducible show wD _ _); exact hD) | ((with_reducible show mm_bool _ _); first | exact True.intro | exact Or.inl rfl | exact Or.inr rfl | (show (_ : Int) = 0 ∨ _ = 1)) | refine And.intro ?_ ?_ | intro _ | with_reducible exact True.intro | exact rfl | with_reducible exact Or.inl rfl | with_reducible exact Or.inr rfl | exact Nat.le_of_ble_eq_true rfl)
        all_goals (try simp (disch := omega) only [InI, Int.toNat_natCast, Int.tmod_eq_emod_of_nonneg, Int.tdiv_eq_ediv_of_nonneg, true_implies, true_or, or_true, mm_l18, mm_l19, mm_l20, mm_l21, mm_l22] at *)
        all_goals first | omega | exact k43' _ _ (by assumption) | skip
      have k29 : ∀ r, (ST (M1 18) (M1 19) (M1 17 1).toNat (M1 17 4) (2 ^ (M1 17 1).toNat - 1) (M1 22 k) → r = 1) ∧ (¬ ST (M1 18) (M1 19) (M1 17 1).toNat (M1 17 4) (2 ^ (M1 17 1).toNat - 1) (M1 22 k) → r = 0) → K 29 [some (mm_R 17), some (mm_I k), some (mm_I f), none] [mm_I r] M1 d 0 := by
        intro r hr
        have hr1 := in01 hr
        have ePS2 : PS ↔ ST (M1 18) (M1 19) (M1 17 1).toNat (M1 17 4) (2 ^ (M1 17 1).toNat - 1) (M1 22 k) := by rw [ePS, eb]; exact Iff.rfl
        rw [← ePS2] at hr
        have q99 : r = 0 → Q (.inl (some (mm_I (-9)))) (mm_up M1 17 15 (M1 17 15 + 1)) d := fun h => q9 (fun h2 => by have := hr.1 h2; omega)
        have k377 : r ≠ 0 → K 37 [some (mm_R 17), some (mm_I k), some (mm_I f), none] [] M1 d 0 := fun h => k37 (inI_y hr h)
        clear hr k37 q9 hq q1 k43 ePS ePS2
        refine hK2 _ _ _ _ _ _ ?_
        refine mm_run_at (stop := [37]) (S := K) kkX5_complete 90 ?_ (fun _ _ _ _ _ _ _ h => hK _ _ _ _ _ _ h)
        repeat' (first | with_reducible assumption | with_reducible exact mm_i17 | with_reducible exact mm_i18 | with_reducible exact mm_i19 | with_reducible exact mm_i20 | with_reducible exact mm_i21 | with_reducible exact mm_i22 | ((with_reducible show mm_rv _ _ _ _ _); first | exact True.intro | exact mm_i17 | exact mm_i18 | exact mm_i19 | exact mm_i20 | exact mm_i21 | exact mm_i22) | ((with_reducible show mm_bool _ _); first | exact True.intro | exact Or.inl rfl | exact Or.inr rfl | (show (_ : Int) = 0 ∨ _ = 1)) | refine And.intro ?_ ?_ | intro _ | with_reducible exact True.intro | exact rfl | with_reducible exact Or.inl rfl | with_reducible exact Or.inr rfl | exact Nat.le_of_ble_eq_true rfl)
        all_goals (try simp (disch := omega) only [InI, Int.toNat_natCast, Int.tmod_eq_emod_of_nonneg, Int.tdiv_eq_ediv_of_nonneg, true_implies, true_or, or_true, mm_l18, mm_l19, mm_l20, mm_l21, mm_l22] at *)
        all_goals first | omega | exact q99 (by omega) | exact k377 (by omega) | skip
      clear k37 q9 hq q1 k43 ePS
      refine hK2 _ _ _ _ _ _ ?_
      refine mm_run_at (stop := [29]) (S := K) kkX5_complete 90 ?_ (fun _ _ _ _ _ _ _ h => hK _ _ _ _ _ _ h)
      refine mm_c5 rfl (Nat.le_of_ble_eq_true rfl) (by exact mm_i17) (Nat.le_of_ble_eq_true rfl) (Nat.le_of_ble_eq_true rfl) (mm_a3 rfl ht (fun r hr => ?_))
      obtain ⟨rfl, hr⟩ := hr
      repeat' (first | with_reducible assumption | with_reducible exact mm_i17 | with_reducible exact mm_i18 | with_reducible exact mm_i19 | with_reducible exact mm_i20 | with_reducible exact mm_i21 | with_reducible exact mm_i22 | ((with_reducible show mm_rv _ _ _ _ _); first | exact True.intro | exact mm_i17 | exact mm_i18 | exact mm_i19 | exact mm_i20 | exact mm_i21 | exact mm_i22) | ((with_reducible show mm_bool _ _); first | exact True.intro | exact Or.inl rfl | exact Or.inr rfl | (show (_ : Int) = 0 ∨ _ = 1)) | refine And.intro ?_ ?_ | intro _ | with_reducible exact True.intro | exact rfl | with_reducible exact Or.inl rfl | with_reducible exact Or.inr rfl | exact Nat.le_of_ble_eq_true rfl)
      all_goals (try simp (disch := omega) only [InI, Int.toNat_natCast, Int.tmod_eq_emod_of_nonneg, Int.tdiv_eq_ediv_of_nonneg, true_implies, true_or, or_true, mm_l18, mm_l19, mm_l20, mm_l21, mm_l22] at *)
      all_goals first | omega | exact k29 _ (by assumption) | skip
    clear hq
    refine ⟨Nat.le_of_ble_eq_true rfl, ?_⟩
    refine mm_run_at (stop := [15]) (S := K) kkX5_complete 90 ?_ (fun _ _ _ _ _ _ _ h => hK _ _ _ _ _ _ h)
    repeat' (first | with_reducible assumption | with_reducible exact mm_i17 | with_reducible exact mm_i18 | with_reducible exact mm_i19 | with_reducible exact mm_i20 | with_reducible exact mm_i21 | with_reducible exact mm_i22 | ((with_reducible show mm_rv _ _ _ _ _); first | exact True.intro | exact mm_i17 | exact mm_i18 | exact mm_i19 | exact mm_i20 | exact mm_i21 | exact mm_i22) | ((with_reducible show mm_bool _ _); first | exact True.intro | exact Or.inl rfl | exact Or.inr rfl | (show (_ : Int) = 0 ∨ _ = 1)) | refine And.intro ?_ ?_ | intro _ | with_reducible exact True.intro | exact rfl | with_reducible exact Or.inl rfl | with_reducible exact Or.inr rfl | exact Nat.le_of_ble_eq_true rfl)
    all_goals (try simp (disch := omega) only [InI, Int.toNat_natCast, Int.tmod_eq_emod_of_nonneg, Int.tdiv_eq_ediv_of_nonneg, true_implies, true_or, or_true, mm_l18, mm_l19, mm_l20, mm_l21, mm_l22] at *)
    all_goals first | omega | exact q1 _ (by omega) (by omega) | exact k15 _ (by omega) (by omega) | skip
  · exact h.elim
theorem me_X5_complete {l : Launch} (hl : l.stackTraces = false) : mm_Met l yX5_complete cX5_complete 4 (some .int) [] 11 215 0 sp_X5_complete := mm_mt hl rn_X5_complete ⟨plX5, rfl⟩ kkX5_complete rfl ⟨Nat.le_of_ble_eq_true rfl, Nat.le_of_ble_eq_true rfl⟩ flkX5 (fun _ h => nomatch h) (⟨mm_pe (me_X5_isNoWalk hl) mwX5_isNoWalk (mm_t7 36 rfl rfl) (Nat.le_of_ble_eq_true rfl) (Nat.le_of_ble_eq_true rfl), mm_pe (me_X5_start hl) mwX5_start (mm_t6 110 rfl rfl) (Nat.le_of_ble_eq_true rfl) (Nat.le_of_ble_eq_true rfl), mm_pe (me_X5_all hl) mwX5_all (mm_t6 213 rfl rfl) (Nat.le_of_ble_eq_true rfl) (Nat.le_of_ble_eq_true rfl), mm_pe (me_X5_isStartOf hl) mwX5_isStartOf (mm_t7 16 rfl rfl) (Nat.le_of_ble_eq_true rfl) (Nat.le_of_ble_eq_true rfl), mm_pe (me_X5_cannot hl) mwX5_cannot (mm_t6 118 rfl rfl) (Nat.le_of_ble_eq_true rfl) (Nat.le_of_ble_eq_true rfl), mm_pe (me_X5_completed hl) mwX5_completed (mm_t7 80 rfl rfl) (Nat.le_of_ble_eq_true rfl) (Nat.le_of_ble_eq_true rfl), mm_pe (me_X5_lose hl) mwX5_lose (mm_t7 40 rfl rfl) (Nat.le_of_ble_eq_true rfl) (Nat.le_of_ble_eq_true rfl), mm_pe (me_X5_act hl) mwX5_act (mm_t6 130 rfl rfl) (Nat.le_of_ble_eq_true rfl) (Nat.le_of_ble_eq_true rfl), trivial⟩) (mm_xe0 _) n9X5
theorem at_X5_back_0 : mm_at 0 kdX5_back = [(0, .aload_n 0, 0), (1, .aload_n 0, 0), (2, .iload_n 1, 0), (3, .invokevirtual 178, 0), (6, .iconst 1, 0), (7, .invokevirtual 146, 0), (10, .ifCond .eq 5, 15), (13, .iconst 0, 0), (14, .ireturn, 0), (15, .aload_n 0, 0), (16, .getfield 19, 0), (19, .iload_n 1, 0), (20, .iaload, 0), (21, .ifCond .ne 8, 29), (24, .aload_n 0, 0), (25, .invokevirtual 149, 0), (28, .ireturn, 0), (29, .aload_n 0, 0), (30, .iload_n 1, 0), (31, .iload_n 2, 0), (32, .ifCond .eq 7, 39), (35, .iconst 0, 0), (36, .goto 11, 47), (39, .aload_n 0, 0), (40, .getfield 19, 0), (43, .iload_n 1, 0), (44, .iaload, 0), (45, .iconst 1, 0), (46, .isub, 0), (47, .invokevirtual 117, 0), (50, .istore_n 3, 0), (51, .iload_n 2, 0), (52, .ifCond .eq 14, 66), (55, .aload_n 0, 0), (56, .getfield 22, 0), (59, .iload_n 1, 0), (60, .aload_n 0, 0), (61, .iload_n 3, 0), (62, .invokevirtual 102, 0), (65, .iastore, 0), (66, .aload_n 0, 0), (67, .iload_n 1, 0), (68, .invokevirtual 181, 0), (71, .aload_n 0, 0), (72, .iload_n 3, 0), (73, .invokevirtual 156, 0), (76, .ireturn, 0)] := rfl
theorem at_X5_back_15 : mm_at 15 kdX5_back = [(15, .aload_n 0, 0), (16, .getfield 19, 0), (19, .iload_n 1, 0), (20, .iaload, 0), (21, .ifCond .ne 8, 29), (24, .aload_n 0, 0), (25, .invokevirtual 149, 0), (28, .ireturn, 0), (29, .aload_n 0, 0), (30, .iload_n 1, 0), (31, .iload_n 2, 0), (32, .ifCond .eq 7, 39), (35, .iconst 0, 0), (36, .goto 11, 47), (39, .aload_n 0, 0), (40, .getfield 19, 0), (43, .iload_n 1, 0), (44, .iaload, 0), (45, .iconst 1, 0), (46, .isub, 0), (47, .invokevirtual 117, 0), (50, .istore_n 3, 0), (51, .iload_n 2, 0), (52, .ifCond .eq 14, 66), (55, .aload_n 0, 0), (56, .getfield 22, 0), (59, .iload_n 1, 0), (60, .aload_n 0, 0), (61, .iload_n 3, 0), (62, .invokevirtual 102, 0), (65, .iastore, 0), (66, .aload_n 0, 0), (67, .iload_n 1, 0), (68, .invokevirtual 181, 0), (71, .aload_n 0, 0), (72, .iload_n 3, 0), (73, .invokevirtual 156, 0), (76, .ireturn, 0)] := rfl
theorem at_X5_back_29 : mm_at 29 kdX5_back = [(29, .aload_n 0, 0), (30, .iload_n 1, 0), (31, .iload_n 2, 0), (32, .ifCond .eq 7, 39), (35, .iconst 0, 0), (36, .goto 11, 47), (39, .aload_n 0, 0), (40, .getfield 19, 0), (43, .iload_n 1, 0), (44, .iaload, 0), (45, .iconst 1, 0), (46, .isub, 0), (47, .invokevirtual 117, 0), (50, .istore_n 3, 0), (51, .iload_n 2, 0), (52, .ifCond .eq 14, 66), (55, .aload_n 0, 0), (56, .getfield 22, 0), (59, .iload_n 1, 0), (60, .aload_n 0, 0), (61, .iload_n 3, 0), (62, .invokevirtual 102, 0), (65, .iastore, 0), (66, .aload_n 0, 0), (67, .iload_n 1, 0), (68, .invokevirtual 181, 0), (71, .aload_n 0, 0), (72, .iload_n 3, 0), (73, .invokevirtual 156, 0), (76, .ireturn, 0)] := rfl
theorem at_X5_back_39 : mm_at 39 kdX5_back = [(39, .aload_n 0, 0), (40, .getfield 19, 0), (43, .iload_n 1, 0), (44, .iaload, 0), (45, .iconst 1, 0), (46, .isub, 0), (47, .invokevirtual 117, 0), (50, .istore_n 3, 0), (51, .iload_n 2, 0), (52, .ifCond .eq 14, 66), (55, .aload_n 0, 0), (56, .getfield 22, 0), (59, .iload_n 1, 0), (60, .aload_n 0, 0), (61, .iload_n 3, 0), (62, .invokevirtual 102, 0), (65, .iastore, 0), (66, .aload_n 0, 0), (67, .iload_n 1, 0), (68, .invokevirtual 181, 0), (71, .aload_n 0, 0), (72, .iload_n 3, 0), (73, .invokevirtual 156, 0), (76, .ireturn, 0)] := rfl
theorem at_X5_back_47 : mm_at 47 kdX5_back = [(47, .invokevirtual 117, 0), (50, .istore_n 3, 0), (51, .iload_n 2, 0), (52, .ifCond .eq 14, 66), (55, .aload_n 0, 0), (56, .getfield 22, 0), (59, .iload_n 1, 0), (60, .aload_n 0, 0), (61, .iload_n 3, 0), (62, .invokevirtual 102, 0), (65, .iastore, 0), (66, .aload_n 0, 0), (67, .iload_n 1, 0), (68, .invokevirtual 181, 0), (71, .aload_n 0, 0), (72, .iload_n 3, 0), (73, .invokevirtual 156, 0), (76, .ireturn, 0)] := rfl
theorem at_X5_back_66 : mm_at 66 kdX5_back = [(66, .aload_n 0, 0), (67, .iload_n 1, 0), (68, .invokevirtual 181, 0), (71, .aload_n 0, 0), (72, .iload_n 3, 0), (73, .invokevirtual 156, 0), (76, .ireturn, 0)] := rfl
def sp_X5_back : mm_S := fun av M d Q => match av with
  | [.inr (.inr (.inl o)), .inl a, .inl f] =>  o = 17 ∧ xA M ∧ InI a ∧ (f = 0 ∨ f = 1) ∧ ∀ M' r, xP M M' → C_back a f (vX M) (vX M') (M' 17 0) r → Q (.inl (some (mm_I r))) M' d
  | _ => False
def ct_X5_back : List (Nat × mm_Ca) := [(178, (0, 2, 14, sp_X5_isNoWalk, 0)), (146, (0, 3, 14, sp_X5_start, 0)), (149, (0, 1, 14, sp_X5_cannot, 0)), (117, (0, 3, 14, sp_X5_take, 0)), (102, (0, 2, 14, sp_X5_comesTo, 0)), (181, (0, 2, 14, sp_X5_lose, 0)), (156, (0, 2, 14, sp_X5_act, 0))]
abbrev rr_X5_back (Q : mm_Q) := mm_run (mm_look flX5) (mm_look ct_X5_back) mm_x0 (mm_look ([] : List (Nat × Int))) (fun _ => none) 1 0 (fun _ _ => none) Q kdX5_back
set_option maxRecDepth 20000 in
theorem rn_X5_back : mm_RN flX5 ct_X5_back mm_x0 [] 1 0 4 kdX5_back sp_X5_back := by
  intro av M d Q h
  unfold sp_X5_back at h
  split at h
  · rename_i o a f
    obtain ⟨rfl, ha, h1, hf, hq⟩ := h
    obtain ⟨K, hK, hK2⟩ : ∃ K : Nat → mm_K, (∀ t ls st M d u, K t ls st M d u → rr_X5_back Q t ls st M d u) ∧ (∀ t ls st M d u, rr_X5_back Q t ls st M d u → K t ls st M d u) := ⟨rr_X5_back Q, fun _ _ _ _ _ _ h => h, fun _ _ _ _ _ _ h => h⟩
    have q1 : ∀ v, v = 1 → ¬ (0 ≤ a ∧ a ≤ 2) → Q (.inl (some (mm_I 0))) (mm_up M 17 0 v) d := fun v hv hn => hq _ _ (xP_s ha) (xq1 (fun h => by unfold iw at h; omega) hv)
    have k15 : ∀ v, v = 0 → (0 ≤ a ∧ a ≤ 2) → K 15 [some (mm_R 17), some (mm_I a), some (mm_I f), none] [] (mm_up M 17 0 v) d 0 := by
      intro v hv0 ca
      obtain ⟨M1, e0, ha1, hP1, e17, eo⟩ := xS (v := v) ha
      have e00 : M1 17 0 = 0 := by rw [← e0, hv0]; exact x00
      have eV : vX M1 = vX M := by rw [← e0, vX_u0]
      rw [e0]
      obtain ⟨k, rfl⟩ := Int.eq_ofNat_of_zero_le ca.1
      have hk : k < 3 := by omega
      have hv := ha1.v hk
      have hD := ha1.d hk
      have ht := ha1.t
      have v1 := hv.1
      have v2 := hv.2.1
      have hl := ha1.l
      have h10 := ha1.2
      have hwv := (mV_i (show k < 4 by omega)).mp hv
      have en := vX_n (M := M1) (show k < 4 by omega)
      have q9 : M1 21 k = 0 → Q (.inl (some (mm_I (-9)))) (mm_up M1 17 15 (M1 17 15 + 1)) d := fun h => hq _ (-9) (hP1.tr (xA_u (x := M1 17 15 + 1) ha1)) (Or.inr ⟨(wk_in ca).1, by rw [mm_up_ob2 (by omega)]; exact e00, by rw [← eV]; exact no9.n (fun h2 => by rw [show vX M1 (wk (k : Int)) 2 = M1 21 k from en] at h2; omega) cX_9⟩)
      have k50 : ∀ p, (0 ≤ p ∧ p < M1 21 k) → (p = if f = 0 then M1 21 k - 1 else 0) → ∀ M2, fX M1 M2 ∧ fr [8 + 2 * k, 8 + 2 * k + 1] (vX M1) (vX M2) ∧ mV M2 k ∧ takR (vX M1) (vX M2) (8 + 2 * k) p ∧ M2 17 = M1 17 → K 50 [some (mm_R 17), some (mm_I k), some (mm_I f), none] [mm_I (vX M1 (8 + 2 * k + 1) p.toNat)] M2 d 0 := by
        intro p hp hpf M2 ⟨g1, g2, g3, g4, g5⟩
        have hD2 := tak_wD hD g4
        have ht2 := tX_to ht g2 (isKk (show k < 4 by omega))
        have hst : 0 ≤ vX M1 (8 + 2 * k + 1) p.toNat ∧ vX M1 (8 + 2 * k + 1) p.toNat < 2 * M2 17 1 := by rw [g5]; exact hwv.2.2 p.toNat (by rw [en]; omega)
        obtain ⟨st, est⟩ : ∃ st, vX M1 (8 + 2 * k + 1) p.toNat = st := ⟨_, rfl⟩
        rw [est] at hst
        rw [est]
        have h10' : M2 17 10 = M1 17 10 := by rw [g5]
        have h13' : M2 17 13 = M1 17 13 := by rw [g5]
        have f0 := (xP_q ha1 hk g1 g5 g2 g3 hD2).2
        have f1 : ∀ c, (0 ≤ c ∧ c < 10) → xP M1 (mm_up (mm_up M2 22 k c) 17 13 (if (mm_up M2 22 k c) 17 10 = k then 1 else (mm_up M2 22 k c) 17 13)) := fun c hc => (xP_q ha1 hk (g1.tr (fX.rf.up (by omega))) ((mm_up_o _ (by omega)).trans g5) (g2.tr (by rw [vX_u22 (by omega)]; exact fr.rf.up (by simp))) (mV_b (by omega) g3 hc) (by rw [vX_u22 (by omega)]; exact wD_b hD2)).2
        have h00 : M2 17 0 = 0 := by rw [g5]; exact e00
        have e34 := fr_34 (isKk (show k < 4 by omega)) g2
        obtain ⟨t1, t2, t3⟩ := (g4.resolve_right (fun h => h.1 ⟨hp.1, by rw [en]; exact hp.2⟩)).2
        have key : ∀ M3 : mm_M, fr [8 + 2 * k, 8 + 2 * k + 1] (vX M2) (vX M3) → vX M3 (8 + 2 * k) 2 = vX M2 (8 + 2 * k) 2 → vX M3 (8 + 2 * k + 1) = vX M2 (8 + 2 * k + 1) → vX M3 (8 + 2 * k) 3 = (if f = 0 then vX M1 (8 + 2 * k) 3 else cor (vX M1) (8 + 2 * k) 1) → ∀ V', V' = cnF (losM (vX M3) (8 + 2 * k)) st → no9 (0 < vX M (wk (k : Int)) 2) (vX M) V' st (st = vX M (wk (k : Int) + 1) (if f = 0 then (vX M (wk (k : Int)) 2 - 1).toNat else 0) ∧ ∃ V1, bckR (vX M) V1 (wk (k : Int)) f ∧ SE (cnF (losM V1 (wk (k : Int))) st) V') := fun M3 b1 b2 b3 b4 V' e => by
          rw [← eV]
          refine no9.y (by rw [show vX M1 (wk (k : Int)) 2 = M1 21 k from en]; omega) ⟨?_, vX M3, ⟨g2.tr b1, by rw [show vX M3 (wk (k : Int)) 2 = vX M2 (8 + 2 * k) 2 from b2]; exact t1, b4, fun i hi => ?_⟩, SE.eq e⟩
          · rw [← est, show vX M1 (wk (k : Int)) 2 = M1 21 k from en, hpf]
            show vX M1 (8 + 2 * k + 1) _ = vX M1 (8 + 2 * k + 1) _
            congr 1
            split <;> rfl
          · show vX M3 (8 + 2 * k + 1) i = vX M1 (8 + 2 * k + 1) _
            have hi2 : (i : Int) + 1 < vX M1 (8 + 2 * k) 2 := hi
            have := t3 i hi2
            rw [b3]
            by_cases h : f = 0
            · rw [if_pos h]
              rw [if_pos h] at hpf
              exact this.1 (by rw [en] at hi2; omega)
            · rw [if_neg h]
              rw [if_neg h] at hpf
              exact this.2 (by omega)
        have q0 : f = 0 → ∀ M3, M3 = mm_up M2 17 13 (if M2 17 10 = k then 1 else M2 17 13) → Q (.inl (some (mm_I st))) (mm_up M3 17 14 (M3 17 14 + 1)) d := fun hf0 M3 e3 => hq _ _ (by rw [e3]; exact xP_ac (hP1.tr f0)) (Or.inr ⟨(wk_in ca).1, by rw [mm_up_ob2 (by omega), e3, mm_up_ob2 (by omega)]; exact h00, key M2 fr.rf rfl rfl (by rw [if_pos hf0]; exact t2) _ (cX_m (by rw [h10']; exact h10) (by omega) e3)⟩)
        have q2 : f ≠ 0 → ∀ c, (c = glX M2 st ∧ 0 ≤ c ∧ c < 10) → ∀ M3, M3 = mm_up (mm_up M2 22 k c) 17 13 (if (mm_up M2 22 k c) 17 10 = k then 1 else (mm_up M2 22 k c) 17 13) → Q (.inl (some (mm_I st))) (mm_up M3 17 14 (M3 17 14 + 1)) d := fun hf0 c hc M3 e3 => hq _ _ (by rw [e3]; exact xP_ac (hP1.tr (f1 c hc.2))) (Or.inr ⟨(wk_in ca).1, by rw [mm_up_ob2 (by omega), e3, mm_up_ob2 (by omega), mm_up_ob (by omega)]; exact h00, key (mm_up M2 22 k c) (by rw [vX_u22 (by omega)]; exact fr.rf.up (by simp)) (by rw [vX_u22 (by omega), mm_up_ob2 (by omega)]) (by rw [vX_u22 (by omega), mm_up_o _ (by omega)]) (by
          rw [if_neg hf0, vX_u22 (by omega), mm_up_sm, hc.1, gl_v, gl_e e34.1 e34.2.1]
          rw [if_neg hf0] at hpf
          subst hpf
          unfold cor
          rw [if_pos ⟨by omega, by rw [en]; omega⟩, ← est]
          rfl) _ (cX_m (by rw [mm_up_ob (by omega), h10']; exact h10) (by omega) e3)⟩)
        clear key g4 t1 t2 t3 est hq q1 q9 e34
        have z1 : ∀ c, mm_up M2 22 k c 17 10 = M2 17 10 ∧ mm_up M2 22 k c 17 13 = M2 17 13 := fun c => ⟨mm_up_ob (by omega), mm_up_ob (by omega)⟩
        refine hK2 _ _ _ _ _ _ ?_
        refine mm_run_at (stop := []) (S := K) kkX5_back 90 ?_ (fun _ _ _ _ _ _ _ h => hK _ _ _ _ _ _ h)
        repeat' (first | with_reducible assumption | with_reducible exact mm_i17 | with_reducible exact mm_i18 | with_reducible exact mm_i19 | with_reducible exact mm_i20 | with_reducible exact mm_i21 | with_reducible exact mm_i22 | ((with_reducible show mm_rv _ _ _ _ _); first | exact True.intro | exact mm_i17 | exact mm_i18 | exact mm_i19 | exact mm_i20 | exact mm_i21 | exact mm_i22) | ((with_reducible show mm_bool _ _); first | exact True.intro | exact Or.inl rfl | exact Or.inr rfl | (show (_ : Int) = 0 ∨ _ = 1)) | refine And.intro ?_ ?_ | intro _ | with_reducible exact True.intro | exact rfl | with_reducible exact Or.inl rfl | with_reducible exact Or.inr rfl | exact Nat.le_of_ble_eq_true rfl)
        all_goals (try simp (disch := omega) only [InI, Int.toNat_natCast, Int.tmod_eq_emod_of_nonneg, Int.tdiv_eq_ediv_of_nonneg, true_implies, true_or, or_true, mm_l18, mm_l19, mm_l20, mm_l21, mm_l22] at *)
        all_goals first | omega | exact q0 (by omega) _ rfl | exact q2 (by omega) _ (by assumption) _ rfl | (rw [(z1 _).1]; omega) | (rw [(z1 _).2]; omega) | skip
      have k0 : f ≠ 0 → 0 < M1 21 k → _ := fun h h2 => k50 0 ⟨by omega, h2⟩ (by rw [if_neg h])
      have k9 : f = 0 → 0 < M1 21 k → _ := fun h h2 => k50 (M1 21 k - 1) ⟨by omega, by omega⟩ (by rw [if_pos h])
      clear k50 hq q1
      refine hK2 _ _ _ _ _ _ ?_
      refine mm_run_at (stop := [50]) (S := K) kkX5_back 90 ?_ (fun _ _ _ _ _ _ _ h => hK _ _ _ _ _ _ h)
      repeat' (first | with_reducible assumption | with_reducible exact mm_i17 | with_reducible exact mm_i18 | with_reducible exact mm_i19 | with_reducible exact mm_i20 | with_reducible exact mm_i21 | with_reducible exact mm_i22 | ((with_reducible show mm_rv _ _ _ _ _); first | exact True.intro | exact mm_i17 | exact mm_i18 | exact mm_i19 | exact mm_i20 | exact mm_i21 | exact mm_i22 | ((with_reducible show mV _ _); exact hv) | ((with_reducible show wD _ _); exact hD)) | ((with_reducible show mV _ _); exact hv) | ((with_reducible show wD _ _); exact hD) | ((with_reducible show mm_bool _ _); first | exact True.intro | exact Or.inl rfl | exact Or.inr rfl | (show (_ : Int) = 0 ∨ _ = 1)) | refine And.intro ?_ ?_ | intro _ | with_reducible exact True.intro | exact rfl | with_reducible exact Or.inl rfl | with_reducible exact Or.inr rfl | exact Nat.le_of_ble_eq_true rfl)
      all_goals (try simp (disch := omega) only [InI, Int.toNat_natCast, Int.tmod_eq_emod_of_nonneg, Int.tdiv_eq_ediv_of_nonneg, true_implies, true_or, or_true, mm_l18, mm_l19, mm_l20, mm_l21, mm_l22] at *)
      all_goals first | omega | exact q9 (by omega) | exact k0 (by omega) (by omega) _ (by assumption) | exact k9 (by omega) (by omega) _ (by assumption) | skip
    clear hq
    refine ⟨Nat.le_of_ble_eq_true rfl, ?_⟩
    refine mm_run_at (stop := [15]) (S := K) kkX5_back 90 ?_ (fun _ _ _ _ _ _ _ h => hK _ _ _ _ _ _ h)
    repeat' (first | with_reducible assumption | with_reducible exact mm_i17 | with_reducible exact mm_i18 | with_reducible exact mm_i19 | with_reducible exact mm_i20 | with_reducible exact mm_i21 | with_reducible exact mm_i22 | ((with_reducible show mm_rv _ _ _ _ _); first | exact True.intro | exact mm_i17 | exact mm_i18 | exact mm_i19 | exact mm_i20 | exact mm_i21 | exact mm_i22) | ((with_reducible show mm_bool _ _); first | exact True.intro | exact Or.inl rfl | exact Or.inr rfl | (show (_ : Int) = 0 ∨ _ = 1)) | refine And.intro ?_ ?_ | intro _ | with_reducible exact True.intro | exact rfl | with_reducible exact Or.inl rfl | with_reducible exact Or.inr rfl | exact Nat.le_of_ble_eq_true rfl)
    all_goals (try simp (disch := omega) only [InI, Int.toNat_natCast, Int.tmod_eq_emod_of_nonneg, Int.tdiv_eq_ediv_of_nonneg, true_implies, true_or, or_true, mm_l18, mm_l19, mm_l20, mm_l21, mm_l22] at *)
    all_goals first | omega | exact q1 _ (by omega) (by omega) | exact k15 _ (by omega) (by omega) | skip
  · exact h.elim
theorem me_X5_back {l : Launch} (hl : l.stackTraces = false) : mm_Met l yX5_back cX5_back 4 (some .int) [] 8 146 0 sp_X5_back := mm_mt hl rn_X5_back ⟨plX5, rfl⟩ kkX5_back rfl ⟨Nat.le_of_ble_eq_true rfl, Nat.le_of_ble_eq_true rfl⟩ flkX5 (fun _ h => nomatch h) (⟨mm_pe (me_X5_isNoWalk hl) mwX5_isNoWalk (mm_t7 36 rfl rfl) (Nat.le_of_ble_eq_true rfl) (Nat.le_of_ble_eq_true rfl), mm_pe (me_X5_start hl) mwX5_start (mm_t6 110 rfl rfl) (Nat.le_of_ble_eq_true rfl) (Nat.le_of_ble_eq_true rfl), mm_pe (me_X5_cannot hl) mwX5_cannot (mm_t6 118 rfl rfl) (Nat.le_of_ble_eq_true rfl) (Nat.le_of_ble_eq_true rfl), mm_pe (me_X5_take hl) mwX5_take (mm_t6 193 rfl rfl) (Nat.le_of_ble_eq_true rfl) (Nat.le_of_ble_eq_true rfl), mm_pe (me_X5_comesTo hl) mwX5_comesTo (mm_t6 189 rfl rfl) (Nat.le_of_ble_eq_true rfl) (Nat.le_of_ble_eq_true rfl), mm_pe (me_X5_lose hl) mwX5_lose (mm_t7 40 rfl rfl) (Nat.le_of_ble_eq_true rfl) (Nat.le_of_ble_eq_true rfl), mm_pe (me_X5_act hl) mwX5_act (mm_t6 130 rfl rfl) (Nat.le_of_ble_eq_true rfl) (Nat.le_of_ble_eq_true rfl), trivial⟩) (mm_xe0 _) n9X5
/-- walk 3, the place to look at -/
theorem xP_3 {M M1 : mm_M} (ha : xA M) (hx : fX M M1) (h17 : M1 17 10 = M 17 10) (hf : fr [14, 15, 5, 6] (vX M) (vX M1)) : xP M M1 := ⟨hx, ha.1.x hf, by rw [h17]; exact ha.2⟩
theorem at_X5_copy_0 : mm_at 0 kdX5_copy = [(0, .aload_n 0, 0), (1, .aload_n 0, 0), (2, .iload_n 1, 0), (3, .invokevirtual 178, 0), (6, .ifCond .ne 11, 17), (9, .aload_n 0, 0), (10, .iload_n 2, 0), (11, .invokevirtual 178, 0), (14, .ifCond .eq 7, 21), (17, .iconst 1, 0), (18, .goto 4, 22), (21, .iconst 0, 0), (22, .iconst 1, 0), (23, .invokevirtual 146, 0), (26, .ifCond .eq 5, 31), (29, .iconst 0, 0), (30, .ireturn, 0), (31, .iload_n 1, 0), (32, .iload_n 2, 0), (33, .if_icmp .ne 8, 41), (36, .aload_n 0, 0), (37, .invokevirtual 149, 0), (40, .ireturn, 0), (41, .aload_n 0, 0), (42, .getfield 19, 0), (45, .iload_n 1, 0), (46, .iaload, 0), (47, .ifCond .gt 12, 59), (50, .aload_n 0, 0), (51, .getfield 19, 0), (54, .iload_n 2, 0), (55, .iaload, 0), (56, .ifCond .le 8, 64), (59, .aload_n 0, 0), (60, .iload_n 2, 0), (61, .invokevirtual 181, 0), (64, .aload_n 0, 0), (65, .iload_n 1, 0), (66, .iload_n 2, 0), (67, .invokevirtual 210, 0), (70, .aload_n 0, 0), (71, .aload_n 0, 0), (72, .getfield 19, 0), (75, .iload_n 2, 0), (76, .iaload, 0), (77, .invokevirtual 156, 0), (80, .ireturn, 0)] := rfl
theorem at_X5_copy_17 : mm_at 17 kdX5_copy = [(17, .iconst 1, 0), (18, .goto 4, 22), (21, .iconst 0, 0), (22, .iconst 1, 0), (23, .invokevirtual 146, 0), (26, .ifCond .eq 5, 31), (29, .iconst 0, 0), (30, .ireturn, 0), (31, .iload_n 1, 0), (32, .iload_n 2, 0), (33, .if_icmp .ne 8, 41), (36, .aload_n 0, 0), (37, .invokevirtual 149, 0), (40, .ireturn, 0), (41, .aload_n 0, 0), (42, .getfield 19, 0), (45, .iload_n 1, 0), (46, .iaload, 0), (47, .ifCond .gt 12, 59), (50, .aload_n 0, 0), (51, .getfield 19, 0), (54, .iload_n 2, 0), (55, .iaload, 0), (56, .ifCond .le 8, 64), (59, .aload_n 0, 0), (60, .iload_n 2, 0), (61, .invokevirtual 181, 0), (64, .aload_n 0, 0), (65, .iload_n 1, 0), (66, .iload_n 2, 0), (67, .invokevirtual 210, 0), (70, .aload_n 0, 0), (71, .aload_n 0, 0), (72, .getfield 19, 0), (75, .iload_n 2, 0), (76, .iaload, 0), (77, .invokevirtual 156, 0), (80, .ireturn, 0)] := rfl
theorem at_X5_copy_21 : mm_at 21 kdX5_copy = [(21, .iconst 0, 0), (22, .iconst 1, 0), (23, .invokevirtual 146, 0), (26, .ifCond .eq 5, 31), (29, .iconst 0, 0), (30, .ireturn, 0), (31, .iload_n 1, 0), (32, .iload_n 2, 0), (33, .if_icmp .ne 8, 41), (36, .aload_n 0, 0), (37, .invokevirtual 149, 0), (40, .ireturn, 0), (41, .aload_n 0, 0), (42, .getfield 19, 0), (45, .iload_n 1, 0), (46, .iaload, 0), (47, .ifCond .gt 12, 59), (50, .aload_n 0, 0), (51, .getfield 19, 0), (54, .iload_n 2, 0), (55, .iaload, 0), (56, .ifCond .le 8, 64), (59, .aload_n 0, 0), (60, .iload_n 2, 0), (61, .invokevirtual 181, 0), (64, .aload_n 0, 0), (65, .iload_n 1, 0), (66, .iload_n 2, 0), (67, .invokevirtual 210, 0), (70, .aload_n 0, 0), (71, .aload_n 0, 0), (72, .getfield 19, 0), (75, .iload_n 2, 0), (76, .iaload, 0), (77, .invokevirtual 156, 0), (80, .ireturn, 0)] := rfl
theorem at_X5_copy_22 : mm_at 22 kdX5_copy = [(22, .iconst 1, 0), (23, .invokevirtual 146, 0), (26, .ifCond .eq 5, 31), (29, .iconst 0, 0), (30, .ireturn, 0), (31, .iload_n 1, 0), (32, .iload_n 2, 0), (33, .if_icmp .ne 8, 41), (36, .aload_n 0, 0), (37, .invokevirtual 149, 0), (40, .ireturn, 0), (41, .aload_n 0, 0), (42, .getfield 19, 0), (45, .iload_n 1, 0), (46, .iaload, 0), (47, .ifCond .gt 12, 59), (50, .aload_n 0, 0), (51, .getfield 19, 0), (54, .iload_n 2, 0), (55, .iaload, 0), (56, .ifCond .le 8, 64), (59, .aload_n 0, 0), (60, .iload_n 2, 0), (61, .invokevirtual 181, 0), (64, .aload_n 0, 0), (65, .iload_n 1, 0), (66, .iload_n 2, 0), (67, .invokevirtual 210, 0), (70, .aload_n 0, 0), (71, .aload_n 0, 0), (72, .getfield 19, 0), (75, .iload_n 2, 0), (76, .iaload, 0), (77, .invokevirtual 156, 0), (80, .ireturn, 0)] := rfl
theorem at_X5_copy_31 : mm_at 31 kdX5_copy = [(31, .iload_n 1, 0), (32, .iload_n 2, 0), (33, .if_icmp .ne 8, 41), (36, .aload_n 0, 0), (37, .invokevirtual 149, 0), (40, .ireturn, 0), (41, .aload_n 0, 0), (42, .getfield 19, 0), (45, .iload_n 1, 0), (46, .iaload, 0), (47, .ifCond .gt 12, 59), (50, .aload_n 0, 0), (51, .getfield 19, 0), (54, .iload_n 2, 0), (55, .iaload, 0), (56, .ifCond .le 8, 64), (59, .aload_n 0, 0), (60, .iload_n 2, 0), (61, .invokevirtual 181, 0), (64, .aload_n 0, 0), (65, .iload_n 1, 0), (66, .iload_n 2, 0), (67, .invokevirtual 210, 0), (70, .aload_n 0, 0), (71, .aload_n 0, 0), (72, .getfield 19, 0), (75, .iload_n 2, 0), (76, .iaload, 0), (77, .invokevirtual 156, 0), (80, .ireturn, 0)] := rfl
theorem at_X5_copy_41 : mm_at 41 kdX5_copy = [(41, .aload_n 0, 0), (42, .getfield 19, 0), (45, .iload_n 1, 0), (46, .iaload, 0), (47, .ifCond .gt 12, 59), (50, .aload_n 0, 0), (51, .getfield 19, 0), (54, .iload_n 2, 0), (55, .iaload, 0), (56, .ifCond .le 8, 64), (59, .aload_n 0, 0), (60, .iload_n 2, 0), (61, .invokevirtual 181, 0), (64, .aload_n 0, 0), (65, .iload_n 1, 0), (66, .iload_n 2, 0), (67, .invokevirtual 210, 0), (70, .aload_n 0, 0), (71, .aload_n 0, 0), (72, .getfield 19, 0), (75, .iload_n 2, 0), (76, .iaload, 0), (77, .invokevirtual 156, 0), (80, .ireturn, 0)] := rfl
theorem at_X5_copy_59 : mm_at 59 kdX5_copy = [(59, .aload_n 0, 0), (60, .iload_n 2, 0), (61, .invokevirtual 181, 0), (64, .aload_n 0, 0), (65, .iload_n 1, 0), (66, .iload_n 2, 0), (67, .invokevirtual 210, 0), (70, .aload_n 0, 0), (71, .aload_n 0, 0), (72, .getfield 19, 0), (75, .iload_n 2, 0), (76, .iaload, 0), (77, .invokevirtual 156, 0), (80, .ireturn, 0)] := rfl
theorem at_X5_copy_64 : mm_at 64 kdX5_copy = [(64, .aload_n 0, 0), (65, .iload_n 1, 0), (66, .iload_n 2, 0), (67, .invokevirtual 210, 0), (70, .aload_n 0, 0), (71, .aload_n 0, 0), (72, .getfield 19, 0), (75, .iload_n 2, 0), (76, .iaload, 0), (77, .invokevirtual 156, 0), (80, .ireturn, 0)] := rfl
def sp_X5_copy : mm_S := fun av M d Q => match av with
  | [.inr (.inr (.inl o)), .inl a, .inl b] =>  o = 17 ∧ xA M ∧ InI a ∧ InI b ∧ ∀ M' r, xP M M' → C_copy a b (vX M) (vX M') (M' 17 0) r → Q (.inl (some (mm_I r))) M' d
  | _ => False
def ct_X5_copy : List (Nat × mm_Ca) := [(178, (0, 2, 14, sp_X5_isNoWalk, 0)), (146, (0, 3, 14, sp_X5_start, 0)), (149, (0, 1, 14, sp_X5_cannot, 0)), (181, (0, 2, 14, sp_X5_lose, 0)), (210, (0, 3, 14, sp_X5_copied, 0)), (156, (0, 2, 14, sp_X5_act, 0))]
abbrev rr_X5_copy (Q : mm_Q) := mm_run (mm_look flX5) (mm_look ct_X5_copy) mm_x0 (mm_look ([] : List (Nat × Int))) (fun _ => none) 1 0 (fun _ _ => none) Q kdX5_copy
set_option maxRecDepth 20000 in
theorem rn_X5_copy : mm_RN flX5 ct_X5_copy mm_x0 [] 1 0 3 kdX5_copy sp_X5_copy := by
  intro av M d Q h
  unfold sp_X5_copy at h
  split at h
  · rename_i o a b
    obtain ⟨rfl, ha, h1, h2, hq⟩ := h
    obtain ⟨K, hK, hK2⟩ : ∃ K : Nat → mm_K, (∀ t ls st M d u, K t ls st M d u → rr_X5_copy Q t ls st M d u) ∧ (∀ t ls st M d u, rr_X5_copy Q t ls st M d u → K t ls st M d u) := ⟨rr_X5_copy Q, fun _ _ _ _ _ _ h => h, fun _ _ _ _ _ _ h => h⟩
    have q1 : ∀ v, v = 1 → ¬ ((0 ≤ a ∧ a ≤ 2) ∧ (0 ≤ b ∧ b ≤ 2)) → Q (.inl (some (mm_I 0))) (mm_up M 17 0 v) d := fun v hv hn => hq _ _ (xP_s ha) (xq1 (fun h => by unfold iw at h; omega) hv)
    have k31 : ∀ v, v = 0 → (0 ≤ a ∧ a ≤ 2) → (0 ≤ b ∧ b ≤ 2) → K 31 [some (mm_R 17), some (mm_I a), some (mm_I b)] [] (mm_up M 17 0 v) d 0 := by
      intro v hv0 ca cb
      obtain ⟨M1, e0, ha1, hP1, e17, eo⟩ := xS (v := v) ha
      have e00 : M1 17 0 = 0 := by rw [← e0, hv0]; exact x00
      have eV : vX M1 = vX M := by rw [← e0, vX_u0]
      rw [e0]
      obtain ⟨k, rfl⟩ := Int.eq_ofNat_of_zero_le ca.1
      obtain ⟨w, rfl⟩ := Int.eq_ofNat_of_zero_le cb.1
      have hk : k < 3 := by omega
      have hw : w < 3 := by omega
      have hv := ha1.v hk
      have hD := ha1.d hk
      have v1 := hv.1
      have w1 := (ha1.v hw).1
      have en := vX_n (M := M1) (show k < 4 by omega)
      have enw := vX_n (M := M1) (show w < 4 by omega)
      have hl := ha1.l
      have h10 := ha1.2
      have q9 : (k : Int) = w → Q (.inl (some (mm_I (-9)))) (mm_up M1 17 15 (M1 17 15 + 1)) d := fun h => hq _ (-9) (hP1.tr (xA_u (x := M1 17 15 + 1) ha1)) (Or.inr ⟨⟨(wk_in ca).1, (wk_in cb).1⟩, by rw [mm_up_ob2 (by omega)]; exact e00, by rw [← eV]; exact no9.n (fun h2 => h2 (by rw [h])) cX_9⟩)
      have cp : (k : Int) ≠ w → ∀ M2, xP M1 M2 → (∀ o, o ≠ 17 → M2 o = M1 o) → M2 17 0 = 0 → vX M2 = losI (0 < vX M1 (8 + 2 * k) 2 ∨ 0 < vX M1 (8 + 2 * w) 2) (vX M1) (8 + 2 * w) → (vX M2 16 1 = ((8 + 2 * w : Nat) : Int) → vX M2 16 4 = 1) ∨ M2 21 w ≤ 0 ∧ M2 21 k ≤ 0 → K 64 [some (mm_R 17), some (mm_I k), some (mm_I w)] [] M2 d 0 := by
        intro hne M2 hP2 eo h0 hV hc
        have mv := hP2.a.v hk
        have hD2 := hP2.a.d hk
        have v1' := mv.1
        have w1' := (hP2.a.v hw).1
        have k70 : ∀ M3, fX M2 M3 ∧ M3 17 = M2 17 ∧ fr [8 + 2 * w, 8 + 2 * w + 1] (vX M2) (vX M3) ∧ cpyR (vX M2) (vX M3) (8 + 2 * w) (8 + 2 * k) ∧ mV M3 w → K 70 [some (mm_R 17), some (mm_I k), some (mm_I w)] [] M3 d 0 := by
          intro M3 ⟨g1, g2, g3, g4, g5⟩
          have hD3 := cpy_wD hD2 g4
          have e1 : M3 21 w = M2 21 k := by
            have := g4.1
            rw [vX_n (by omega), vX_n (by omega)] at this
            exact this
          have hP3 : xP M2 M3 := by
            rcases hc with hc | hc
            · exact xP_wl hP2.a hw hc g1 g3 g5 hD3 (by rw [g2])
            · exact xP_we hP2.a hw g1 g3 g5 hD3 (by rw [g2]) (by omega)
          have g51 := g5.1
          have e2 : M2 21 k = M1 21 k := by rw [eo 21 (by omega)]
          have q0 : Q (.inl (some (mm_I (M3 21 w)))) (mm_up M3 17 14 (M3 17 14 + 1)) d := hq _ _ (xP_ac ((hP1.tr hP2).tr hP3)) (Or.inr ⟨⟨(wk_in ca).1, (wk_in cb).1⟩, by rw [mm_up_ob2 (by omega), g2]; exact h0, by
            rw [← eV]
            refine no9.y (fun h => hne ?_) ⟨by rw [e1, e2]; exact en.symm, vX M2, vX M3, hV, g4, g3, SE.eq (cX_n (by omega))⟩
            have h9 : 8 + 2 * k = 8 + 2 * w := h
            omega⟩)
          clear hq q1 q9 hV g4 hc
          refine hK2 _ _ _ _ _ _ ?_
          refine mm_run_at (stop := []) (S := K) kkX5_copy 90 ?_ (fun _ _ _ _ _ _ _ h => hK _ _ _ _ _ _ h)
          repeat' (first | with_reducible assumption | with_reducible exact mm_i17 | with_reducible exact mm_i18 | with_reducible exact mm_i19 | with_reducible exact mm_i20 | with_reducible exact mm_i21 | with_reducible exact mm_i22 | ((with_reducible show mm_rv _ _ _ _ _); first | exact True.intro | exact mm_i17 | exact mm_i18 | exact mm_i19 | exact mm_i20 | exact mm_i21 | exact mm_i22) | ((with_reducible show mm_bool _ _); first | exact True.intro | exact Or.inl rfl | exact Or.inr rfl | (show (_ : Int) = 0 ∨ _ = 1)) | refine And.intro ?_ ?_ | intro _ | with_reducible exact True.intro | exact rfl | with_reducible exact Or.inl rfl | with_reducible exact Or.inr rfl | exact Nat.le_of_ble_eq_true rfl)
          all_goals (try simp (disch := omega) only [InI, Int.toNat_natCast, Int.tmod_eq_emod_of_nonneg, Int.tdiv_eq_ediv_of_nonneg, true_implies, true_or, or_true, mm_l18, mm_l19, mm_l20, mm_l21, mm_l22] at *)
          all_goals first | omega | exact q0 | skip
        clear hq q1 q9 hV hc
        refine hK2 _ _ _ _ _ _ ?_
        refine mm_run_at (stop := [70]) (S := K) kkX5_copy 90 ?_ (fun _ _ _ _ _ _ _ h => hK _ _ _ _ _ _ h)
        repeat' (first | with_reducible assumption | with_reducible exact mm_i17 | with_reducible exact mm_i18 | with_reducible exact mm_i19 | with_reducible exact mm_i20 | with_reducible exact mm_i21 | with_reducible exact mm_i22 | ((with_reducible show mm_rv _ _ _ _ _); first | exact True.intro | exact mm_i17 | exact mm_i18 | exact mm_i19 | exact mm_i20 | exact mm_i21 | exact mm_i22 | ((with_reducible show mV _ _); exact mv)) | ((with_reducible show mV _ _); exact mv) | ((with_reducible show mm_bool _ _); first | exact True.intro | exact Or.inl rfl | exact Or.inr rfl | (show (_ : Int) = 0 ∨ _ = 1)) | refine And.intro ?_ ?_ | intro _ | with_reducible exact True.intro | exact rfl | with_reducible exact Or.inl rfl | with_reducible exact Or.inr rfl | exact Nat.le_of_ble_eq_true rfl)
        all_goals (try simp (disch := omega) only [InI, Int.toNat_natCast, Int.tmod_eq_emod_of_nonneg, Int.tdiv_eq_ediv_of_nonneg, true_implies, true_or, or_true, mm_l18, mm_l19, mm_l20, mm_l21, mm_l22] at *)
        all_goals first | omega | exact k70 _ (by assumption) | skip
      have c0 := fun hne (h : M1 21 w ≤ 0 ∧ M1 21 k ≤ 0) => cp hne M1 ha1.rf (fun _ _ => rfl) e00 (losI_n (by rw [en, enw]; omega)).symm (Or.inr h)
      have c1 := fun hne (h : 0 < M1 21 k ∨ 0 < M1 21 w) => cp hne _ (xP_lo (k := w) ha1 hw).1 (fun o ho => mm_up_o _ ho) (by rw [mm_up_ob2 (by omega)]; exact e00) (by rw [losI_y (by rw [en, enw]; exact h)]; exact los_m h10) (Or.inl (xP_lo ha1 hw).2)
      clear cp hq q1
      refine hK2 _ _ _ _ _ _ ?_
      refine mm_run_at (stop := [64]) (S := K) kkX5_copy 90 ?_ (fun _ _ _ _ _ _ _ h => hK _ _ _ _ _ _ h)
      repeat' (first | with_reducible assumption | with_reducible exact mm_i17 | with_reducible exact mm_i18 | with_reducible exact mm_i19 | with_reducible exact mm_i20 | with_reducible exact mm_i21 | with_reducible exact mm_i22 | ((with_reducible show mm_rv _ _ _ _ _); first | exact True.intro | exact mm_i17 | exact mm_i18 | exact mm_i19 | exact mm_i20 | exact mm_i21 | exact mm_i22) | ((with_reducible show mm_bool _ _); first | exact True.intro | exact Or.inl rfl | exact Or.inr rfl | (show (_ : Int) = 0 ∨ _ = 1)) | refine And.intro ?_ ?_ | intro _ | with_reducible exact True.intro | exact rfl | with_reducible exact Or.inl rfl | with_reducible exact Or.inr rfl | exact Nat.le_of_ble_eq_true rfl)
      all_goals (try simp (disch := omega) only [InI, Int.toNat_natCast, Int.tmod_eq_emod_of_nonneg, Int.tdiv_eq_ediv_of_nonneg, true_implies, true_or, or_true, mm_l18, mm_l19, mm_l20, mm_l21, mm_l22] at *)
      all_goals first | omega | exact q9 (by omega) | exact c0 (by omega) ⟨by omega, by omega⟩ | exact c1 (by omega) (by omega) | skip
    clear hq
    refine ⟨Nat.le_of_ble_eq_true rfl, ?_⟩
    refine mm_run_at (stop := [31]) (S := K) kkX5_copy 90 ?_ (fun _ _ _ _ _ _ _ h => hK _ _ _ _ _ _ h)
    repeat' (first | with_reducible assumption | with_reducible exact mm_i17 | with_reducible exact mm_i18 | with_reducible exact mm_i19 | with_reducible exact mm_i20 | with_reducible exact mm_i21 | with_reducible exact mm_i22 | ((with_reducible show mm_rv _ _ _ _ _); first | exact True.intro | exact mm_i17 | exact mm_i18 | exact mm_i19 | exact mm_i20 | exact mm_i21 | exact mm_i22) | ((with_reducible show mm_bool _ _); first | exact True.intro | exact Or.inl rfl | exact Or.inr rfl | (show (_ : Int) = 0 ∨ _ = 1)) | refine And.intro ?_ ?_ | intro _ | with_reducible exact True.intro | exact rfl | with_reducible exact Or.inl rfl | with_reducible exact Or.inr rfl | exact Nat.le_of_ble_eq_true rfl)
    all_goals (try simp (disch := omega) only [InI, Int.toNat_natCast, Int.tmod_eq_emod_of_nonneg, Int.tdiv_eq_ediv_of_nonneg, true_implies, true_or, or_true, mm_l18, mm_l19, mm_l20, mm_l21, mm_l22] at *)
    all_goals first | omega | exact q1 _ (by omega) (by omega) | exact k31 _ (by omega) (by omega) (by omega) | skip
  · exact h.elim
theorem me_X5_copy {l : Launch} (hl : l.stackTraces = false) : mm_Met l yX5_copy cX5_copy 3 (some .int) [] 8 145 0 sp_X5_copy := mm_mt hl rn_X5_copy ⟨plX5, rfl⟩ kkX5_copy rfl ⟨Nat.le_of_ble_eq_true rfl, Nat.le_of_ble_eq_true rfl⟩ flkX5 (fun _ h => nomatch h) (⟨mm_pe (me_X5_isNoWalk hl) mwX5_isNoWalk (mm_t7 36 rfl rfl) (Nat.le_of_ble_eq_true rfl) (Nat.le_of_ble_eq_true rfl), mm_pe (me_X5_start hl) mwX5_start (mm_t6 110 rfl rfl) (Nat.le_of_ble_eq_true rfl) (Nat.le_of_ble_eq_true rfl), mm_pe (me_X5_cannot hl) mwX5_cannot (mm_t6 118 rfl rfl) (Nat.le_of_ble_eq_true rfl) (Nat.le_of_ble_eq_true rfl), mm_pe (me_X5_lose hl) mwX5_lose (mm_t7 40 rfl rfl) (Nat.le_of_ble_eq_true rfl) (Nat.le_of_ble_eq_true rfl), mm_pe (me_X5_copied hl) mwX5_copied (mm_t7 140 rfl rfl) (Nat.le_of_ble_eq_true rfl) (Nat.le_of_ble_eq_true rfl), mm_pe (me_X5_act hl) mwX5_act (mm_t6 130 rfl rfl) (Nat.le_of_ble_eq_true rfl) (Nat.le_of_ble_eq_true rfl), trivial⟩) (mm_xe0 _) n9X5

