/-! the model: acts on the town -/
def sp_X5_wordAt : mm_S := fun av M d Q => match av with
  | [.inr (.inr (.inl o)), .inl a, .inl b, .inl c] =>  o = 17 ∧ xA M ∧ InI a ∧ InI b ∧ InI c ∧ ∀ M' r, xP M M' → C_wordAt a b c (vX M) (vX M') (M' 17 0) r → Q (.inl (some (mm_I r))) M' d
  | _ => False
def ct_X5_wordAt : List (Nat × mm_Ca) := [(178, (0, 2, 14, sp_X5_isNoWalk, 0)), (146, (0, 3, 14, sp_X5_start, 0)), (45, (1, 3, 0, sp_X5_isIn, 0)), (35, (0, 3, 14, sp_X5_refuse, 0)), (234, (0, 4, 14, sp_X5_wordIn, 0))]
abbrev rr_X5_wordAt (Q : mm_Q) := mm_run (mm_look flX5) (mm_look ct_X5_wordAt) mm_x0 (mm_look ([] : List (Nat × Int))) (fun _ => none) 1 0 (fun _ _ => none) Q kdX5_wordAt
set_option maxRecDepth 20000 in
theorem rn_X5_wordAt : mm_RN flX5 ct_X5_wordAt mm_x0 [] 1 0 4 kdX5_wordAt sp_X5_wordAt := by
  intro av M d Q h
  unfold sp_X5_wordAt at h
  split at h
  · rename_i o a b c
    obtain ⟨rfl, ha, h1, h2, h3, hq⟩ := h
    obtain ⟨K, hK, hK2⟩ : ∃ K : Nat → mm_K, (∀ t ls st M d u, K t ls st M d u → rr_X5_wordAt Q t ls st M d u) ∧ (∀ t ls st M d u, rr_X5_wordAt Q t ls st M d u → K t ls st M d u) := ⟨rr_X5_wordAt Q, fun _ _ _ _ _ _ h => h, fun _ _ _ _ _ _ h => h⟩
    have q1 : ∀ v, v = 1 → ¬ (0 ≤ a ∧ a ≤ 2) → Q (.inl (some (mm_I 0))) (mm_up M 17 0 v) d := fun v hv hn => hq _ _ (xP_s ha) (Or.inl ⟨fun h => by unfold iw at h; omega, by simp [mm_up, hv], xse⟩)
    have q2 : (0 ≤ a ∧ a ≤ 2) → ¬ ((0 ≤ b ∧ b ≤ 29) ∧ (0 ≤ c ∧ c ≤ 29)) → Q (.inl (some (mm_I 0))) (mm_up (mm_up M 17 0 0) 17 0 2) d := fun hc hn => hq _ _ ((xP_s ha).tr (xP_s ha.s)) (Or.inr (Or.inl ⟨(wk_in hc).1, hn, by simp [mm_up], SE.eq (by rw [vX_u0, vX_u0])⟩))
    have q0 : (0 ≤ a ∧ a ≤ 2) → ((0 ≤ b ∧ b ≤ 29) ∧ (0 ≤ c ∧ c ≤ 29)) → ∀ r, ((-1 ≤ r ∧ r ≤ 30) ∧ wdR (vX (mm_up M 17 0 0)) (8 + 2 * a.toNat) b c r) → Q (.inl (some (mm_I r))) (mm_up M 17 0 0) d := fun hc hx r hr => hq _ _ (xP_s ha) (Or.inr (Or.inr ⟨(wk_in hc).1, hx, x00, fun _ => by have := hr.2; rw [vX_u0] at this; exact this, xse⟩))
    clear hq
    have k50 : (0 ≤ a ∧ a ≤ 2) → ((0 ≤ b ∧ b ≤ 29) ∧ (0 ≤ c ∧ c ≤ 29)) → K 50 [some (mm_R 17), some (mm_I a), some (mm_I b), some (mm_I c)] [] (mm_up M 17 0 0) d 0 := by
      intro ca cbc
      have q0 := q0 ca cbc
      have ht := ha.s (v := 0) |>.t
      have hv := ha.s (v := 0) |>.v (k := a.toNat) (by omega)
      refine hK2 _ _ _ _ _ _ ?_
      refine mm_run_at (stop := []) (S := K) kkX5_wordAt 90 ?_ (fun _ _ _ _ _ _ _ h => hK _ _ _ _ _ _ h)
      repeat' (first | with_reducible assumption | with_reducible exact mm_i17 | with_reducible exact mm_i18 | with_reducible exact mm_i19 | with_reducible exact mm_i20 | with_reducible exact mm_i21 | with_reducible exact mm_i22 | ((with_reducible show mm_rv _ _ _ _ _); first | exact True.intro | exact mm_i17 | exact mm_i18 | exact mm_i19 | exact mm_i20 | exact mm_i21 | exact mm_i22) | ((with_reducible show mm_bool _ _); first | exact True.intro | exact Or.inl rfl | exact Or.inr rfl | (show (_ : Int) = 0 ∨ _ = 1)) | refine And.intro ?_ ?_ | intro _ | with_reducible exact True.intro | exact rfl | with_reducible exact Or.inl rfl | with_reducible exact Or.inr rfl | exact Nat.le_of_ble_eq_true rfl)
      all_goals (try simp (disch := omega) only [InI, Int.toNat_natCast, Int.tmod_eq_emod_of_nonneg, Int.tdiv_eq_ediv_of_nonneg, true_implies, true_or, or_true, mm_l18, mm_l19, mm_l20, mm_l21, mm_l22] at *)
      all_goals first | omega | exact q0 _ (by assumption) | skip
    have k43 : ∀ (v : Int) M' r, (v = 0 ∨ v = 1) → (v = 0 → 0 ≤ a ∧ a ≤ 2) → v = 0 → ∀ f : Int, (f = 0 ∨ f = 1) → (f = 0 → (0 ≤ b ∧ b ≤ 29) ∧ (0 ≤ c ∧ c ≤ 29)) → (f = 1 → ¬ ((0 ≤ b ∧ b ≤ 29) ∧ (0 ≤ c ∧ c ≤ 29))) → (M' = if f = 1 ∧ mm_up M 17 0 v 17 0 = 0 then mm_up (mm_up M 17 0 v) 17 0 2 else mm_up M 17 0 v) ∧ (0 < M' 17 0 → r = 1) ∧ (M' 17 0 ≤ 0 → r = 0) → K 43 [some (mm_R 17), some (mm_I a), some (mm_I b), some (mm_I c)] [mm_I r] M' d 0 := by
      intro v M' r hv hc hv0 f hf hf0 hf1 ⟨g1, g2, g3⟩
      subst hv0
      have hcc := hc rfl
      by_cases e : f = 1
      · rw [if_pos ⟨e, x00⟩] at g1
        have q2 := q2 hcc (hf1 e)
        have hr : r = 1 := g2 (by rw [g1]; simp [mm_up])
        subst g1
        subst hr
        refine hK2 _ _ _ _ _ _ ?_
        refine mm_run_at (stop := [50]) (S := K) kkX5_wordAt 90 ?_ (fun _ _ _ _ _ _ _ h => hK _ _ _ _ _ _ h)
        repeat' (first | with_reducible assumption | with_reducible exact mm_i17 | with_reducible exact mm_i18 | with_reducible exact mm_i19 | with_reducible exact mm_i20 | with_reducible exact mm_i21 | with_reducible exact mm_i22 | ((with_reducible show mm_rv _ _ _ _ _); first | exact True.intro | exact mm_i17 | exact mm_i18 | exact mm_i19 | exact mm_i20 | exact mm_i21 | exact mm_i22) | ((with_reducible show mm_bool _ _); first | exact True.intro | exact Or.inl rfl | exact Or.inr rfl | (show (_ : Int) = 0 ∨ _ = 1)) | refine And.intro ?_ ?_ | intro _ | with_reducible exact True.intro | exact rfl | with_reducible exact Or.inl rfl | with_reducible exact Or.inr rfl | exact Nat.le_of_ble_eq_true rfl)
        all_goals (try simp (disch := omega) only [InI, Int.toNat_natCast, Int.tmod_eq_emod_of_nonneg, Int.tdiv_eq_ediv_of_nonneg, true_implies, true_or, or_true, mm_l18, mm_l19, mm_l20, mm_l21, mm_l22] at *)
        all_goals first | omega | exact q2 | skip
      · rw [if_neg (fun h => e h.1)] at g1
        have k50 := k50 hcc (hf0 (by omega))
        have hr : r = 0 := g3 (by rw [g1, x00]; exact Int.le_refl _)
        subst g1
        subst hr
        refine hK2 _ _ _ _ _ _ ?_
        refine mm_run_at (stop := [50]) (S := K) kkX5_wordAt 90 ?_ (fun _ _ _ _ _ _ _ h => hK _ _ _ _ _ _ h)
        repeat' (first | with_reducible assumption | with_reducible exact mm_i17 | with_reducible exact mm_i18 | with_reducible exact mm_i19 | with_reducible exact mm_i20 | with_reducible exact mm_i21 | with_reducible exact mm_i22 | ((with_reducible show mm_rv _ _ _ _ _); first | exact True.intro | exact mm_i17 | exact mm_i18 | exact mm_i19 | exact mm_i20 | exact mm_i21 | exact mm_i22) | ((with_reducible show mm_bool _ _); first | exact True.intro | exact Or.inl rfl | exact Or.inr rfl | (show (_ : Int) = 0 ∨ _ = 1)) | refine And.intro ?_ ?_ | intro _ | with_reducible exact True.intro | exact rfl | with_reducible exact Or.inl rfl | with_reducible exact Or.inr rfl | exact Nat.le_of_ble_eq_true rfl)
        all_goals (try simp (disch := omega) only [InI, Int.toNat_natCast, Int.tmod_eq_emod_of_nonneg, Int.tdiv_eq_ediv_of_nonneg, true_implies, true_or, or_true, mm_l18, mm_l19, mm_l20, mm_l21, mm_l22] at *)
        all_goals first | omega | exact k50 | skip
    have k39 : ∀ v : Int, (v = 0 ∨ v = 1) → (v = 0 → 0 ≤ a ∧ a ≤ 2) → v = 0 → ∀ f : Int, (f = 0 ∨ f = 1) → (f = 0 → (0 ≤ b ∧ b ≤ 29) ∧ (0 ≤ c ∧ c ≤ 29)) → (f = 1 → ¬ ((0 ≤ b ∧ b ≤ 29) ∧ (0 ≤ c ∧ c ≤ 29))) → K 39 [some (mm_R 17), some (mm_I a), some (mm_I b), some (mm_I c)] [mm_I f, mm_R 17] (mm_up M 17 0 v) d 0 := by
      intro v hv hc hv0 f hf hf0 hf1
      have e0 : mm_up M 17 0 v 17 0 = v := by simp [mm_up]
      refine hK2 _ _ _ _ _ _ ?_
      refine mm_run_at (stop := [43]) (S := K) kkX5_wordAt 90 ?_ (fun _ _ _ _ _ _ _ h => hK _ _ _ _ _ _ h)
      exact mm_c5 rfl (Nat.le_of_ble_eq_true rfl) (by exact mm_i17) (Nat.le_of_ble_eq_true rfl) (Nat.le_of_ble_eq_true rfl) (mm_a5 rfl hf (by rw [e0]; exact ⟨by omega, by omega⟩) ⟨by omega, by omega⟩ (fun M' r hr => k43 v M' r hv hc hv0 f hf hf0 hf1 hr))
    refine ⟨Nat.le_of_ble_eq_true rfl, ?_⟩
    refine mm_run_at (stop := [39]) (S := K) kkX5_wordAt 90 ?_ (fun _ _ _ _ _ _ _ h => hK _ _ _ _ _ _ h)
    repeat' (first | with_reducible assumption | with_reducible exact mm_i17 | with_reducible exact mm_i18 | with_reducible exact mm_i19 | with_reducible exact mm_i20 | with_reducible exact mm_i21 | with_reducible exact mm_i22 | ((with_reducible show mm_rv _ _ _ _ _); first | exact True.intro | exact mm_i17 | exact mm_i18 | exact mm_i19 | exact mm_i20 | exact mm_i21 | exact mm_i22) | ((with_reducible show mm_bool _ _); first | exact True.intro | exact Or.inl rfl | exact Or.inr rfl | (show (_ : Int) = 0 ∨ _ = 1)) | refine And.intro ?_ ?_ | intro _ | with_reducible exact True.intro | exact rfl | with_reducible exact Or.inl rfl | with_reducible exact Or.inr rfl | exact Nat.le_of_ble_eq_true rfl)
    all_goals (try simp (disch := omega) only [InI, Int.toNat_natCast, Int.tmod_eq_emod_of_nonneg, Int.tdiv_eq_ediv_of_nonneg, true_implies, true_or, or_true, mm_l18, mm_l19, mm_l20, mm_l21, mm_l22] at *)
    all_goals first | omega | exact q1 _ (by omega) (by omega) | exact k39 _ (by omega) (by omega) (by omega) _ (by omega) (by omega) (by omega) | skip
  · exact h.elim
theorem me_X5_wordAt {l : Launch} (hl : l.stackTraces = false) : mm_Met l yX5_wordAt cX5_wordAt 4 (some .int) [] 8 148 0 sp_X5_wordAt := mm_mt hl rn_X5_wordAt ⟨plX5, rfl⟩ kkX5_wordAt rfl ⟨Nat.le_of_ble_eq_true rfl, Nat.le_of_ble_eq_true rfl⟩ flkX5 (fun _ h => nomatch h) (⟨mm_pe (me_X5_isNoWalk hl) mwX5_isNoWalk (mm_t7 36 rfl rfl) (Nat.le_of_ble_eq_true rfl) (Nat.le_of_ble_eq_true rfl), mm_pe (me_X5_start hl) mwX5_start (mm_t6 110 rfl rfl) (Nat.le_of_ble_eq_true rfl) (Nat.le_of_ble_eq_true rfl), mm_pe (me_X5_isIn hl) mwX5_isIn (mm_t6 107 rfl rfl) (Nat.le_of_ble_eq_true rfl) (Nat.le_of_ble_eq_true rfl), mm_pe (me_X5_refuse hl) mwX5_refuse (mm_t6 114 rfl rfl) (Nat.le_of_ble_eq_true rfl) (Nat.le_of_ble_eq_true rfl), mm_pe (me_X5_wordIn hl) mwX5_wordIn (mm_t7 203 rfl rfl) (Nat.le_of_ble_eq_true rfl) (Nat.le_of_ble_eq_true rfl), trivial⟩) (mm_xe0 _) n9X5
/-- the town is another, the walks fit -/
theorem xP_t {M M' : mm_M} (h : xA M) (hx : fX M M') (ht : tX M') (hf : fr [2, 3, 4, 5, 6] (vX M) (vX M')) (hn : M 17 1 ≤ M' 17 1) (h10 : M' 17 10 = M 17 10) : xP M M' := ⟨hx, h.1.t ht hf hn, by rw [h10]; exact h.2⟩
theorem xP_ac {M M' : mm_M} {x : Int} (h : xP M M') : xP M (mm_up M' 17 14 x) := h.tr (xA_n h.a)
theorem xP_un {M M' : mm_M} {x : Int} (h : xP M M') : xP M (mm_up M' 17 15 x) := h.tr (xA_u h.a)
theorem addX_spec {M : mm_M} {a b : Int} (h : xA M) (hn : M 17 1 < 30) (ca : 0 ≤ a ∧ a < 10) (cb : 0 ≤ b ∧ b < 10) : xP M (mm_up (mm_up (mm_up M 18 (M 17 1).toNat a) 19 (M 17 1).toNat b) 17 1 (M 17 1 + 1)) := by
  have t1 := h.t.1
  obtain ⟨n, hn2⟩ := Int.eq_ofNat_of_zero_le t1.1
  have hs := addS_spec (M := vX M) (a := a) (b := b) (n := n) h.t (by rw [vX_24]; exact hn2) (by omega) ca cb
  have e : vX (mm_up (mm_up (mm_up M 18 (M 17 1).toNat a) 19 (M 17 1).toNat b) 17 1 (M 17 1 + 1)) = addS (vX M) a b := by
    rw [vX_u1, vX_u19, vX_u18]
    rfl
  refine xP_t h (((fX.rf.up (by omega)).up (by omega)).up (by omega)) ?_ ?_ (by
    have h9 : (mm_up (mm_up (mm_up M 18 (M 17 1).toNat a) 19 (M 17 1).toNat b) 17 1 (M 17 1 + 1)) 17 1 = M 17 1 + 1 := by simp [mm_up]
    omega) (by simp [mm_up])
  · refine tX_i.mpr ?_
    rw [e]
    exact hs.1
  · rw [e]
    exact hs.2.1.mono (by simp)
theorem endX {M : mm_M} (h : xA M) : xP M (mm_up (mm_up M 17 5 0) 17 6 0) := by
  have e : vX (mm_up (mm_up M 17 5 0) 17 6 0) = mm_up (mm_up (vX M) 2 6 0) 2 7 0 := by rw [vX_u6, vX_u5]
  refine xP_t h ((fX.rf.up (by omega)).up (by omega)) ?_ ?_ (by simp [mm_up]) (by simp [mm_up])
  · refine tX_i.mpr ?_
    rw [e]
    exact h.1.1.q
  · rw [e]
    exact (fr.rf.up (by simp)).up (by simp)
theorem cX_n {M : mm_M} {r : Int} (h : r ≠ -9) : vX (mm_up M 17 14 (M 17 14 + 1)) = cnF (vX M) r := by
  rw [vX_u14]
  unfold cnF
  rw [if_neg h]
  rfl
theorem cX_9 {M : mm_M} : vX (mm_up M 17 15 (M 17 15 + 1)) = cnF (vX M) (-9) := by
  rw [vX_u15]
  unfold cnF
  rw [if_pos rfl]
  rfl
theorem addS_endM {V : mm_M} {a b : Int} : addS (endM V) a b = endM (addS V a b) := by
  have e : endM V 2 4 = V 2 4 := by simp [endM, mm_up]
  funext o k
  unfold addS
  rw [e]
  simp only [endM, mm_up]
  (repeat' split) <;> first | rfl | omega
/-- it can't be done: told and counted -/
theorem x9 {M M1 : mm_M} {P R : Prop} {v : Int} (e0 : mm_up M 17 0 v = M1) (hn : ¬ P) : no9 P (vX M) (vX (mm_up M1 17 15 (M1 17 15 + 1))) (-9) R := no9.n hn (by rw [cX_9, ← e0, vX_u0])
theorem vX_end {M : mm_M} : vX (mm_up (mm_up M 17 5 0) 17 6 0) = endM (vX M) := by
  rw [vX_u6, vX_u5]
  rfl
theorem vX_add {M : mm_M} {a b : Int} : vX (mm_up (mm_up (mm_up M 18 (M 17 1).toNat a) 19 (M 17 1).toNat b) 17 1 (M 17 1 + 1)) = addS (vX M) a b := by
  rw [vX_u1, vX_u19, vX_u18]
  rfl
def sp_X5_lay : mm_S := fun av M d Q => match av with
  | [.inr (.inr (.inl o)), .inl a, .inl b] =>  o = 17 ∧ xA M ∧ InI a ∧ InI b ∧ ∀ M' r, xP M M' → C_lay a b (vX M) (vX M') (M' 17 0) r → Q (.inl (some (mm_I r))) M' d
  | _ => False
def ct_X5_lay : List (Nat × mm_Ca) := [(143, (0, 2, 14, sp_X5_isNoCorner, 0)), (146, (0, 3, 14, sp_X5_start, 0)), (149, (0, 1, 14, sp_X5_cannot, 0)), (152, (0, 3, 14, sp_X5_laid, 0)), (95, (0, 1, 14, sp_X5_endWords, 0)), (156, (0, 2, 14, sp_X5_act, 0))]
abbrev rr_X5_lay (Q : mm_Q) := mm_run (mm_look flX5) (mm_look ct_X5_lay) mm_x0 (mm_look ([] : List (Nat × Int))) (fun _ => none) 1 0 (fun _ _ => none) Q kdX5_lay
set_option maxRecDepth 20000 in
theorem rn_X5_lay : mm_RN flX5 ct_X5_lay mm_x0 [] 1 0 3 kdX5_lay sp_X5_lay := by
  intro av M d Q h
  unfold sp_X5_lay at h
  split at h
  · rename_i o a b
    obtain ⟨rfl, ha, h1, h2, hq⟩ := h
    obtain ⟨K, hK, hK2⟩ : ∃ K : Nat → mm_K, (∀ t ls st M d u, K t ls st M d u → rr_X5_lay Q t ls st M d u) ∧ (∀ t ls st M d u, rr_X5_lay Q t ls st M d u → K t ls st M d u) := ⟨rr_X5_lay Q, fun _ _ _ _ _ _ h => h, fun _ _ _ _ _ _ h => h⟩
    have q1 : ∀ v, v = 1 → ¬ ((0 ≤ a ∧ a ≤ 9) ∧ (0 ≤ b ∧ b ≤ 9)) → Q (.inl (some (mm_I 0))) (mm_up M 17 0 v) d := fun v hv hn => hq _ _ (xP_s ha) (xq1 (fun h => by unfold ic at h; omega) hv)
    have k31 : ∀ v, v = 0 → (0 ≤ a ∧ a ≤ 9) → (0 ≤ b ∧ b ≤ 9) → K 31 [some (mm_R 17), some (mm_I a), some (mm_I b)] [] (mm_up M 17 0 v) d 0 := by
      intro v hv ca cb
      obtain ⟨M1, e0, ha1, hP1, e17, eo⟩ := xS (v := v) ha
      have e00 : M1 17 0 = 0 := by rw [← e0, hv]; exact x00
      have eV : vX M1 = vX M := by rw [← e0, vX_u0]
      rw [e0]
      have ht := ha1.t
      have t1 := ht.1
      have e24 : M1 17 1 = vX M 2 4 := e17 1 (by omega)
      have hcc : ic a ∧ ic b := ⟨⟨ca.1, by omega⟩, ⟨cb.1, by omega⟩⟩
      have q9 : M1 17 1 = 30 → Q (.inl (some (mm_I (-9)))) (mm_up M1 17 15 (M1 17 15 + 1)) d := fun h => hq _ (-9) (hP1.tr (xA_u (x := M1 17 15 + 1) ha1)) (Or.inr ⟨hcc, by rw [mm_up_ob2 (by omega)]; exact e00, x9 e0 (by omega)⟩)
      have ql : M1 17 1 ≠ 30 → ∀ M2, M2 = mm_up (mm_up (mm_up M1 18 (M1 17 1).toNat a) 19 (M1 17 1).toNat b) 17 1 (M1 17 1 + 1) → ∀ N, N = mm_up (mm_up M2 17 5 0) 17 6 0 → Q (.inl (some (mm_I (N 17 1 - 1)))) (mm_up N 17 14 (N 17 14 + 1)) d := by
        intro hn M2 e N eN
        have hP2 : xP M M2 := hP1.tr (by rw [e]; exact addX_spec ha1 (by omega) (by omega) (by omega))
        have en : N 17 1 = M1 17 1 + 1 := by rw [eN, e]; simp [mm_up]
        have e0' : N 17 0 = 0 := by rw [eN, e]; simp [mm_up]; exact e00
        refine hq _ _ (by rw [eN]; exact xP_ac (hP2.tr (endX hP2.a))) (Or.inr ⟨hcc, by rw [mm_up_ob2 (by omega)]; exact e0', no9.y (by omega) ⟨by omega, SE.eq ?_⟩⟩)
        rw [cX_n (r := N 17 1 - 1) (by omega)]
        rw [eN, vX_end, e, vX_add, eV, addS_endM]
      clear hq
      refine hK2 _ _ _ _ _ _ ?_
      refine mm_run_at (stop := []) (S := K) kkX5_lay 90 ?_ (fun _ _ _ _ _ _ _ h => hK _ _ _ _ _ _ h)
      repeat' (first | with_reducible assumption | with_reducible exact mm_i17 | with_reducible exact mm_i18 | with_reducible exact mm_i19 | with_reducible exact mm_i20 | with_reducible exact mm_i21 | with_reducible exact mm_i22 | ((with_reducible show mm_rv _ _ _ _ _); first | exact True.intro | exact mm_i17 | exact mm_i18 | exact mm_i19 | exact mm_i20 | exact mm_i21 | exact mm_i22) | ((with_reducible show mm_bool _ _); first | exact True.intro | exact Or.inl rfl | exact Or.inr rfl | (show (_ : Int) = 0 ∨ _ = 1)) | refine And.intro ?_ ?_ | intro _ | with_reducible exact True.intro | exact rfl | with_reducible exact Or.inl rfl | with_reducible exact Or.inr rfl | exact Nat.le_of_ble_eq_true rfl)
      all_goals (try simp (disch := omega) only [InI, Int.toNat_natCast, Int.tmod_eq_emod_of_nonneg, Int.tdiv_eq_ediv_of_nonneg, true_implies, true_or, or_true, mm_l18, mm_l19, mm_l20, mm_l21, mm_l22] at *)
      all_goals first | omega | exact q9 (by omega) | exact ql (by omega) _ rfl _ rfl | skip
    clear hq
    refine ⟨Nat.le_of_ble_eq_true rfl, ?_⟩
    refine mm_run_at (stop := [31]) (S := K) kkX5_lay 90 ?_ (fun _ _ _ _ _ _ _ h => hK _ _ _ _ _ _ h)
    repeat' (first | with_reducible assumption | with_reducible exact mm_i17 | with_reducible exact mm_i18 | with_reducible exact mm_i19 | with_reducible exact mm_i20 | with_reducible exact mm_i21 | with_reducible exact mm_i22 | ((with_reducible show mm_rv _ _ _ _ _); first | exact True.intro | exact mm_i17 | exact mm_i18 | exact mm_i19 | exact mm_i20 | exact mm_i21 | exact mm_i22) | ((with_reducible show mm_bool _ _); first | exact True.intro | exact Or.inl rfl | exact Or.inr rfl | (show (_ : Int) = 0 ∨ _ = 1)) | refine And.intro ?_ ?_ | intro _ | with_reducible exact True.intro | exact rfl | with_reducible exact Or.inl rfl | with_reducible exact Or.inr rfl | exact Nat.le_of_ble_eq_true rfl)
    all_goals (try simp (disch := omega) only [InI, Int.toNat_natCast, Int.tmod_eq_emod_of_nonneg, Int.tdiv_eq_ediv_of_nonneg, true_implies, true_or, or_true, mm_l18, mm_l19, mm_l20, mm_l21, mm_l22] at *)
    all_goals first | omega | exact q1 _ (by omega) (by omega) | exact k31 _ (by omega) (by omega) (by omega) | skip
  · exact h.elim
theorem me_X5_lay {l : Launch} (hl : l.stackTraces = false) : mm_Met l yX5_lay cX5_lay 3 (some .int) [] 8 144 0 sp_X5_lay := mm_mt hl rn_X5_lay ⟨plX5, rfl⟩ kkX5_lay rfl ⟨Nat.le_of_ble_eq_true rfl, Nat.le_of_ble_eq_true rfl⟩ flkX5 (fun _ h => nomatch h) (⟨mm_pe (me_X5_isNoCorner hl) mwX5_isNoCorner (mm_t6 103 rfl rfl) (Nat.le_of_ble_eq_true rfl) (Nat.le_of_ble_eq_true rfl), mm_pe (me_X5_start hl) mwX5_start (mm_t6 110 rfl rfl) (Nat.le_of_ble_eq_true rfl) (Nat.le_of_ble_eq_true rfl), mm_pe (me_X5_cannot hl) mwX5_cannot (mm_t6 118 rfl rfl) (Nat.le_of_ble_eq_true rfl) (Nat.le_of_ble_eq_true rfl), mm_pe (me_X5_laid hl) mwX5_laid (mm_t6 122 rfl rfl) (Nat.le_of_ble_eq_true rfl) (Nat.le_of_ble_eq_true rfl), mm_pe (me_X5_endWords hl) mwX5_endWords (mm_t6 126 rfl rfl) (Nat.le_of_ble_eq_true rfl) (Nat.le_of_ble_eq_true rfl), mm_pe (me_X5_act hl) mwX5_act (mm_t6 130 rfl rfl) (Nat.le_of_ble_eq_true rfl) (Nat.le_of_ble_eq_true rfl), trivial⟩) (mm_xe0 _) n9X5
theorem at_X5_layRing_0 : mm_at 0 kdX5_layRing = [(0, .aload_n 0, 0), (1, .iload_n 1, 0), (2, .iconst 1, 0), (3, .bipush 10, 0), (5, .invokestatic 45, 0), (8, .ifCond .eq 13, 21), (11, .iload_n 2, 0), (12, .iconst 0, 0), (13, .bipush 9, 0), (15, .invokestatic 45, 0), (18, .ifCond .ne 7, 25), (21, .iconst 1, 0), (22, .goto 4, 26), (25, .iconst 0, 0), (26, .iconst 1, 0), (27, .invokevirtual 146, 0), (30, .ifCond .eq 5, 35), (33, .iconst 0, 0), (34, .ireturn, 0), (35, .aload_n 0, 0), (36, .getfield 49, 0), (39, .iload_n 1, 0), (40, .iadd, 0), (41, .bipush 30, 0), (43, .if_icmp .le 8, 51), (46, .aload_n 0, 0), (47, .invokevirtual 149, 0), (50, .ireturn, 0), (51, .iconst 0, 0), (52, .istore_n 3, 0), (53, .iload_n 3, 0), (54, .iload_n 1, 0), (55, .if_icmp .ge 19, 74), (58, .aload_n 0, 0), (59, .iload_n 3, 0), (60, .iload_n 3, 0), (61, .iload_n 2, 0), (62, .iadd, 0), (63, .iload_n 1, 0), (64, .irem, 0), (65, .invokevirtual 152, 0), (68, .iinc 3 1, 0), (71, .goto (-18), 53), (74, .aload_n 0, 0), (75, .invokevirtual 95, 0), (78, .aload_n 0, 0), (79, .aload_n 0, 0), (80, .getfield 49, 0), (83, .invokevirtual 156, 0), (86, .ireturn, 0)] := rfl
theorem at_X5_layRing_21 : mm_at 21 kdX5_layRing = [(21, .iconst 1, 0), (22, .goto 4, 26), (25, .iconst 0, 0), (26, .iconst 1, 0), (27, .invokevirtual 146, 0), (30, .ifCond .eq 5, 35), (33, .iconst 0, 0), (34, .ireturn, 0), (35, .aload_n 0, 0), (36, .getfield 49, 0), (39, .iload_n 1, 0), (40, .iadd, 0), (41, .bipush 30, 0), (43, .if_icmp .le 8, 51), (46, .aload_n 0, 0), (47, .invokevirtual 149, 0), (50, .ireturn, 0), (51, .iconst 0, 0), (52, .istore_n 3, 0), (53, .iload_n 3, 0), (54, .iload_n 1, 0), (55, .if_icmp .ge 19, 74), (58, .aload_n 0, 0), (59, .iload_n 3, 0), (60, .iload_n 3, 0), (61, .iload_n 2, 0), (62, .iadd, 0), (63, .iload_n 1, 0), (64, .irem, 0), (65, .invokevirtual 152, 0), (68, .iinc 3 1, 0), (71, .goto (-18), 53), (74, .aload_n 0, 0), (75, .invokevirtual 95, 0), (78, .aload_n 0, 0), (79, .aload_n 0, 0), (80, .getfield 49, 0), (83, .invokevirtual 156, 0), (86, .ireturn, 0)] := rfl
theorem at_X5_layRing_25 : mm_at 25 kdX5_layRing = [(25, .iconst 0, 0), (26, .iconst 1, 0), (27, .invokevirtual 146, 0), (30, .ifCond .eq 5, 35), (33, .iconst 0, 0), (34, .ireturn, 0), (35, .aload_n 0, 0), (36, .getfield 49, 0), (39, .iload_n 1, 0), (40, .iadd, 0), (41, .bipush 30, 0), (43, .if_icmp .le 8, 51), (46, .aload_n 0, 0), (47, .invokevirtual 149, 0), (50, .ireturn, 0), (51, .iconst 0, 0), (52, .istore_n 3, 0), (53, .iload_n 3, 0), (54, .iload_n 1, 0), (55, .if_icmp .ge 19, 74), (58, .aload_n 0, 0), (59, .iload_n 3, 0), (60, .iload_n 3, 0), (61, .iload_n 2, 0), (62, .iadd, 0), (63, .iload_n 1, 0), (64, .irem, 0), (65, .invokevirtual 152, 0), (68, .iinc 3 1, 0), (71, .goto (-18), 53), (74, .aload_n 0, 0), (75, .invokevirtual 95, 0), (78, .aload_n 0, 0), (79, .aload_n 0, 0), (80, .getfield 49, 0), (83, .invokevirtual 156, 0), (86, .ireturn, 0)] := rfl
theorem at_X5_layRing_26 : mm_at 26 kdX5_layRing = [(26, .iconst 1, 0), (27, .invokevirtual 146, 0), (30, .ifCond .eq 5, 35), (33, .iconst 0, 0), (34, .ireturn, 0), (35, .aload_n 0, 0), (36, .getfield 49, 0), (39, .iload_n 1, 0), (40, .iadd, 0), (41, .bipush 30, 0), (43, .if_icmp .le 8, 51), (46, .aload_n 0, 0), (47, .invokevirtual 149, 0), (50, .ireturn, 0), (51, .iconst 0, 0), (52, .istore_n 3, 0), (53, .iload_n 3, 0), (54, .iload_n 1, 0), (55, .if_icmp .ge 19, 74), (58, .aload_n 0, 0), (59, .iload_n 3, 0), (60, .iload_n 3, 0), (61, .iload_n 2, 0), (62, .iadd, 0), (63, .iload_n 1, 0), (64, .irem, 0), (65, .invokevirtual 152, 0), (68, .iinc 3 1, 0), (71, .goto (-18), 53), (74, .aload_n 0, 0), (75, .invokevirtual 95, 0), (78, .aload_n 0, 0), (79, .aload_n 0, 0), (80, .getfield 49, 0), (83, .invokevirtual 156, 0), (86, .ireturn, 0)] := rfl
theorem at_X5_layRing_35 : mm_at 35 kdX5_layRing = [(35, .aload_n 0, 0), (36, .getfield 49, 0), (39, .iload_n 1, 0), (40, .iadd, 0), (41, .bipush 30, 0), (43, .if_icmp .le 8, 51), (46, .aload_n 0, 0), (47, .invokevirtual 149, 0), (50, .ireturn, 0), (51, .iconst 0, 0), (52, .istore_n 3, 0), (53, .iload_n 3, 0), (54, .iload_n 1, 0), (55, .if_icmp .ge 19, 74), (58, .aload_n 0, 0), (59, .iload_n 3, 0), (60, .iload_n 3, 0), (61, .iload_n 2, 0), (62, .iadd, 0), (63, .iload_n 1, 0), (64, .irem, 0), (65, .invokevirtual 152, 0), (68, .iinc 3 1, 0), (71, .goto (-18), 53), (74, .aload_n 0, 0), (75, .invokevirtual 95, 0), (78, .aload_n 0, 0), (79, .aload_n 0, 0), (80, .getfield 49, 0), (83, .invokevirtual 156, 0), (86, .ireturn, 0)] := rfl
theorem at_X5_layRing_51 : mm_at 51 kdX5_layRing = [(51, .iconst 0, 0), (52, .istore_n 3, 0), (53, .iload_n 3, 0), (54, .iload_n 1, 0), (55, .if_icmp .ge 19, 74), (58, .aload_n 0, 0), (59, .iload_n 3, 0), (60, .iload_n 3, 0), (61, .iload_n 2, 0), (62, .iadd, 0), (63, .iload_n 1, 0), (64, .irem, 0), (65, .invokevirtual 152, 0), (68, .iinc 3 1, 0), (71, .goto (-18), 53), (74, .aload_n 0, 0), (75, .invokevirtual 95, 0), (78, .aload_n 0, 0), (79, .aload_n 0, 0), (80, .getfield 49, 0), (83, .invokevirtual 156, 0), (86, .ireturn, 0)] := rfl
theorem at_X5_layRing_53 : mm_at 53 kdX5_layRing = [(53, .iload_n 3, 0), (54, .iload_n 1, 0), (55, .if_icmp .ge 19, 74), (58, .aload_n 0, 0), (59, .iload_n 3, 0), (60, .iload_n 3, 0), (61, .iload_n 2, 0), (62, .iadd, 0), (63, .iload_n 1, 0), (64, .irem, 0), (65, .invokevirtual 152, 0), (68, .iinc 3 1, 0), (71, .goto (-18), 53), (74, .aload_n 0, 0), (75, .invokevirtual 95, 0), (78, .aload_n 0, 0), (79, .aload_n 0, 0), (80, .getfield 49, 0), (83, .invokevirtual 156, 0), (86, .ireturn, 0)] := rfl
theorem at_X5_layRing_74 : mm_at 74 kdX5_layRing = [(74, .aload_n 0, 0), (75, .invokevirtual 95, 0), (78, .aload_n 0, 0), (79, .aload_n 0, 0), (80, .getfield 49, 0), (83, .invokevirtual 156, 0), (86, .ireturn, 0)] := rfl
def sp_X5_layRing : mm_S := fun av M d Q => match av with
  | [.inr (.inr (.inl o)), .inl a, .inl b] =>  o = 17 ∧ xA M ∧ InI a ∧ InI b ∧ ∀ M' r, xP M M' → C_layRing a b (vX M) (vX M') (M' 17 0) r → Q (.inl (some (mm_I r))) M' d
  | _ => False
def ct_X5_layRing : List (Nat × mm_Ca) := [(45, (1, 3, 0, sp_X5_isIn, 0)), (146, (0, 3, 14, sp_X5_start, 0)), (149, (0, 1, 14, sp_X5_cannot, 0)), (152, (0, 3, 14, sp_X5_laid, 0)), (95, (0, 1, 14, sp_X5_endWords, 0)), (156, (0, 2, 14, sp_X5_act, 0))]
abbrev rr_X5_layRing (Q : mm_Q) := mm_run (mm_look flX5) (mm_look ct_X5_layRing) mm_x0 (mm_look ([] : List (Nat × Int))) (fun _ => none) 1 0 (fun _ _ => none) Q kdX5_layRing
def rgI (V V1 : mm_M) (a b : Int) (i : Nat) : Prop := fr [2, 3, 4] V V1 ∧ (∀ j, j ≠ 4 → V1 2 j = V 2 j) ∧ V1 2 4 = V 2 4 + i ∧ (∀ x : Nat, x < V 2 4 → V1 3 x = V 3 x ∧ V1 4 x = V 4 x) ∧ ∀ k : Nat, k < i → V1 3 ((V 2 4).toNat + k) = k ∧ V1 4 ((V 2 4).toNat + k) = (k + b) % a
set_option maxRecDepth 20000 in
theorem rgI_s {V V1 : mm_M} {a b : Int} {i : Nat} (h : rgI V V1 a b i) (ht : tW V1) (h0 : 0 ≤ V 2 4) (hn : V1 2 4 < 30) (ca : 0 ≤ (i : Int) ∧ (i : Int) < 10) (cb : 0 ≤ ((i : Int) + b) % a ∧ ((i : Int) + b) % a < 10) : rgI V (addS V1 i (((i : Int) + b) % a)) a b (i + 1) := by
  obtain ⟨h1, h2, h3, h4, h5⟩ := h
  obtain ⟨n, hn2⟩ := Int.eq_ofNat_of_zero_le ht.1.1
  have hs := addS_spec (n := n) ht hn2 (by omega) ca cb
  obtain ⟨-, s1, s2, s3, s4, s5, s6⟩ := hs
  refine ⟨h1.tr s1, fun j hj => by rw [s2 j hj, h2 j hj], by omega, fun x hx => ?_, fun k hk => ?_⟩
  · rw [(s4 x (by omega)).1, (s4 x (by omega)).2]
    exact h4 x hx
  · by_cases e : k = i
    · subst e
      rw [show (V 2 4).toNat + k = n by omega]
      exact ⟨s5, s6⟩
    · rw [(s4 ((V 2 4).toNat + k) (by omega)).1, (s4 ((V 2 4).toNat + k) (by omega)).2]
      exact h5 k (by omega)
set_option maxRecDepth 20000 in
theorem rg_end {V V1 : mm_M} {a b : Int} (h : rgR V V1 a b) : rgR (endM V) (endM V1) a b := by
  obtain ⟨h1, h2, h3, h4, h5⟩ := h
  have e : ∀ W, endM W 2 4 = W 2 4 := fun W => by simp [endM, mm_up]
  have e3 : ∀ W : mm_M, ∀ o, o ≠ 2 → endM W o = W o := fun W o ho => by unfold endM; rw [mm_up_o _ ho, mm_up_o _ ho]
  refine ⟨fun o ho => ?_, fun j hj => ?_, by rw [e, e]; exact h3, fun x hx => ?_, fun k hk => ?_⟩
  · have : o ≠ 2 := fun e => ho (by rw [e]; simp)
    rw [e3 _ _ this, e3 _ _ this]
    exact h1 o ho
  · simp only [endM, mm_up]
    (repeat' split) <;> first | rfl | exact h2 j hj
  · rw [e] at hx
    rw [e3 _ _ (by omega), e3 _ _ (by omega), e3 _ _ (by omega), e3 _ _ (by omega)]
    exact h4 x hx
  · rw [e, e3 _ _ (by omega), e3 _ _ (by omega)]
    exact h5 k hk
set_option maxRecDepth 20000 in
theorem lp_X5_layRing {M0 : mm_M} {d : List Nat} {Q : mm_Q} {a b : Int} (ca : 1 ≤ a ∧ a ≤ 10) (cb : 0 ≤ b ∧ b ≤ 9) (hc : M0 17 1 + a ≤ 30) (h00 : 0 ≤ M0 17 1) (hq : ∀ M N, xP M0 M → M 17 0 = M0 17 0 → rgR (vX M0) (vX M) a b → N = mm_up (mm_up M 17 5 0) 17 6 0 → Q (.inl (some (mm_I (N 17 1)))) (mm_up N 17 14 (N 17 14 + 1)) d) : ∀ (j i : Nat) (M : mm_M), i + j = a.toNat → xP M0 M → M 17 1 = M0 17 1 + i → M 17 0 = M0 17 0 → rgI (vX M0) (vX M) a b i → rr_X5_layRing Q 53 [some (mm_R 17), some (mm_I a), some (mm_I b), some (mm_I i)] [] M d 0 := by
  intro j
  induction j with
  | zero =>
    intro i M hi hP hl h0 hR
    have q := fun N eN => hq M N hP h0 ⟨hR.1, hR.2.1, by rw [hR.2.2.1]; omega, hR.2.2.2.1, fun k hk => hR.2.2.2.2 k (by omega)⟩ eN
    obtain ⟨K, hK, hK2⟩ : ∃ K : Nat → mm_K, (∀ t ls st M d u, K t ls st M d u → rr_X5_layRing Q t ls st M d u) ∧ (∀ t ls st M d u, rr_X5_layRing Q t ls st M d u → K t ls st M d u) := ⟨rr_X5_layRing Q, fun _ _ _ _ _ _ h => h, fun _ _ _ _ _ _ h => h⟩
    refine mm_run_at (stop := [58]) (S := K) kkX5_layRing 90 ?_ (fun _ _ _ _ _ _ _ h => hK _ _ _ _ _ _ h)
    repeat' (first | with_reducible assumption | with_reducible exact mm_i17 | with_reducible exact mm_i18 | with_reducible exact mm_i19 | with_reducible exact mm_i20 | with_reducible exact mm_i21 | with_reducible exact mm_i22 | ((with_reducible show mm_rv _ _ _ _ _); first | exact True.intro | exact mm_i17 | exact mm_i18 | exact mm_i19 | exact mm_i20 | exact mm_i21 | exact mm_i22) | ((with_reducible show mm_bool _ _); first | exact True.intro | exact Or.inl rfl | exact Or.inr rfl | (show (_ : Int) = 0 ∨ _ = 1)) | refine And.intro ?_ ?_ | intro _ | with_reducible exact True.intro | exact rfl | with_reducible exact Or.inl rfl | with_reducible exact Or.inr rfl | exact Nat.le_of_ble_eq_true rfl)
    all_goals (try simp (disch := omega) only [InI, Int.toNat_natCast, Int.tmod_eq_emod_of_nonneg, Int.tdiv_eq_ediv_of_nonneg, true_implies, true_or, or_true, mm_l18, mm_l19, mm_l20, mm_l21, mm_l22] at *)
    all_goals first | omega | exact q _ rfl | skip
  | succ j ih =>
    intro i M hi hP hl h0 hR
    have ht := hP.a.t
    have t1 := ht.1
    have hr := Int.emod_nonneg ((i : Int) + b) (show a ≠ 0 by omega)
    have hr2 := Int.emod_lt_of_pos ((i : Int) + b) (show 0 < a by omega)
    have e := Int.tmod_eq_emod_of_nonneg (show 0 ≤ (i : Int) + b by omega) (b := a)
    obtain ⟨K, hK, hK2⟩ : ∃ K : Nat → mm_K, (∀ t ls st M d u, K t ls st M d u → rr_X5_layRing Q t ls st M d u) ∧ (∀ t ls st M d u, rr_X5_layRing Q t ls st M d u → K t ls st M d u) := ⟨rr_X5_layRing Q, fun _ _ _ _ _ _ h => h, fun _ _ _ _ _ _ h => h⟩
    have st : ∀ y, y = ((i : Int) + b) % a → ∀ M2, M2 = mm_up (mm_up (mm_up M 18 (M 17 1).toNat i) 19 (M 17 1).toNat y) 17 1 (M 17 1 + 1) → K 53 [some (mm_R 17), some (mm_I a), some (mm_I b), some (mm_I ((i : Int) + 1))] [] M2 d 0 := by
      intro y hy M2 e
      subst hy
      refine hK2 _ _ _ _ _ _ (ih (i + 1) M2 (by omega) (hP.tr (by rw [e]; exact addX_spec hP.a (by omega) (by omega) (by omega))) (by rw [e]; simp [mm_up]; omega) (by rw [e]; simp [mm_up]; exact h0) (by rw [e, vX_add]; exact rgI_s hR ht h00 (show M 17 1 < 30 by omega) (by omega) (by omega)))
    clear hq hR
    refine mm_run_at (stop := [53, 74]) (S := K) kkX5_layRing 90 ?_ (fun _ _ _ _ _ _ _ h => hK _ _ _ _ _ _ h)
    repeat' (first | with_reducible assumption | with_reducible exact mm_i17 | with_reducible exact mm_i18 | with_reducible exact mm_i19 | with_reducible exact mm_i20 | with_reducible exact mm_i21 | with_reducible exact mm_i22 | ((with_reducible show mm_rv _ _ _ _ _); first | exact True.intro | exact mm_i17 | exact mm_i18 | exact mm_i19 | exact mm_i20 | exact mm_i21 | exact mm_i22) | ((with_reducible show mm_bool _ _); first | exact True.intro | exact Or.inl rfl | exact Or.inr rfl | (show (_ : Int) = 0 ∨ _ = 1)) | refine And.intro ?_ ?_ | intro _ | with_reducible exact True.intro | exact rfl | with_reducible exact Or.inl rfl | with_reducible exact Or.inr rfl | exact Nat.le_of_ble_eq_true rfl)
    all_goals (try simp (disch := omega) only [e, InI, Int.toNat_natCast, Int.tmod_eq_emod_of_nonneg, Int.tdiv_eq_ediv_of_nonneg, true_implies, true_or, or_true, mm_l18, mm_l19, mm_l20, mm_l21, mm_l22] at *)
    all_goals first | omega | exact st _ rfl _ rfl | skip
set_option maxRecDepth 20000 in
theorem rn_X5_layRing : mm_RN flX5 ct_X5_layRing mm_x0 [] 1 0 4 kdX5_layRing sp_X5_layRing := by
  intro av M d Q h
  unfold sp_X5_layRing at h
  split at h
  · rename_i o a b
    obtain ⟨rfl, ha, h1, h2, hq⟩ := h
    obtain ⟨K, hK, hK2⟩ : ∃ K : Nat → mm_K, (∀ t ls st M d u, K t ls st M d u → rr_X5_layRing Q t ls st M d u) ∧ (∀ t ls st M d u, rr_X5_layRing Q t ls st M d u → K t ls st M d u) := ⟨rr_X5_layRing Q, fun _ _ _ _ _ _ h => h, fun _ _ _ _ _ _ h => h⟩
    have q1 : ∀ v, v = 1 → ¬ ((1 ≤ a ∧ a ≤ 10) ∧ (0 ≤ b ∧ b ≤ 9)) → Q (.inl (some (mm_I 0))) (mm_up M 17 0 v) d := fun v hv hn => hq _ _ (xP_s ha) (xq1 hn hv)
    have k35 : ∀ v, v = 0 → (1 ≤ a ∧ a ≤ 10) → (0 ≤ b ∧ b ≤ 9) → K 35 [some (mm_R 17), some (mm_I a), some (mm_I b), none] [] (mm_up M 17 0 v) d 0 := by
      intro v hv ca cb
      obtain ⟨M1, e0, ha1, hP1, e17, eo⟩ := xS (v := v) ha
      have e00 : M1 17 0 = 0 := by rw [← e0, hv]; exact x00
      have eV : vX M1 = vX M := by rw [← e0, vX_u0]
      rw [e0]
      have ht := ha1.t
      have t1 := ht.1
      have e24 : M1 17 1 = vX M 2 4 := e17 1 (by omega)
      have q9 : 30 < M1 17 1 + a → Q (.inl (some (mm_I (-9)))) (mm_up M1 17 15 (M1 17 15 + 1)) d := fun h => hq _ (-9) (hP1.tr (xA_u (x := M1 17 15 + 1) ha1)) (Or.inr ⟨⟨ca, cb⟩, by rw [mm_up_ob2 (by omega)]; exact e00, x9 e0 (by omega)⟩)
      have k53 := fun h => hK2 _ _ _ _ _ _ (lp_X5_layRing (M0 := M1) (Q := Q) (d := d) ca cb h t1.1 (fun M2 N hP2 h0 hR eN => by
        have en : N 17 1 = M2 17 1 := by rw [eN]; simp [mm_up]
        have e21 : M2 17 1 = M1 17 1 + a := hR.2.2.1
        have e0' : N 17 0 = 0 := by rw [eN]; simp [mm_up]; omega
        refine hq _ _ (by rw [eN]; exact xP_ac (hP1.tr (hP2.tr (endX hP2.a)))) (Or.inr ⟨⟨ca, cb⟩, by rw [mm_up_ob2 (by omega)]; exact e0', no9.y (by omega) ⟨by omega, endM (vX M2), by rw [← eV]; exact rg_end hR, SE.eq ?_⟩⟩)
        rw [cX_n (r := N 17 1) (by omega)]
        rw [eN, vX_end]) a.toNat 0 M1 (by omega) ha1.rf (by omega) rfl ⟨fr.rf, fun _ _ => rfl, by omega, fun _ _ => ⟨rfl, rfl⟩, fun k hk => by omega⟩)
      clear hq
      refine hK2 _ _ _ _ _ _ ?_
      refine mm_run_at (stop := [53]) (S := K) kkX5_layRing 90 ?_ (fun _ _ _ _ _ _ _ h => hK _ _ _ _ _ _ h)
      repeat' (first | with_reducible assumption | with_reducible exact mm_i17 | with_reducible exact mm_i18 | with_reducible exact mm_i19 | with_reducible exact mm_i20 | with_reducible exact mm_i21 | with_reducible exact mm_i22 | ((with_reducible show mm_rv _ _ _ _ _); first | exact True.intro | exact mm_i17 | exact mm_i18 | exact mm_i19 | exact mm_i20 | exact mm_i21 | exact mm_i22) | ((with_reducible show mm_bool _ _); first | exact True.intro | exact Or.inl rfl | exact Or.inr rfl | (show (_ : Int) = 0 ∨ _ = 1)) | refine And.intro ?_ ?_ | intro _ | with_reducible exact True.intro | exact rfl | with_reducible exact Or.inl rfl | with_reducible exact Or.inr rfl | exact Nat.le_of_ble_eq_true rfl)
      all_goals (try simp (disch := omega) only [InI, Int.toNat_natCast, Int.tmod_eq_emod_of_nonneg, Int.tdiv_eq_ediv_of_nonneg, true_implies, true_or, or_true, mm_l18, mm_l19, mm_l20, mm_l21, mm_l22] at *)
      all_goals first | omega | exact q9 (by omega) | exact k53 (by omega) | skip
    clear hq
    refine ⟨Nat.le_of_ble_eq_true rfl, ?_⟩
    refine mm_run_at (stop := [35]) (S := K) kkX5_layRing 90 ?_ (fun _ _ _ _ _ _ _ h => hK _ _ _ _ _ _ h)
    repeat' (first | with_reducible assumption | with_reducible exact mm_i17 | with_reducible exact mm_i18 | with_reducible exact mm_i19 | with_reducible exact mm_i20 | with_reducible exact mm_i21 | with_reducible exact mm_i22 | ((with_reducible show mm_rv _ _ _ _ _); first | exact True.intro | exact mm_i17 | exact mm_i18 | exact mm_i19 | exact mm_i20 | exact mm_i21 | exact mm_i22) | ((with_reducible show mm_bool _ _); first | exact True.intro | exact Or.inl rfl | exact Or.inr rfl | (show (_ : Int) = 0 ∨ _ = 1)) | refine And.intro ?_ ?_ | intro _ | with_reducible exact True.intro | exact rfl | with_reducible exact Or.inl rfl | with_reducible exact Or.inr rfl | exact Nat.le_of_ble_eq_true rfl)
    all_goals (try simp (disch := omega) only [InI, Int.toNat_natCast, Int.tmod_eq_emod_of_nonneg, Int.tdiv_eq_ediv_of_nonneg, true_implies, true_or, or_true, mm_l18, mm_l19, mm_l20, mm_l21, mm_l22] at *)
    all_goals first | omega | exact q1 _ (by omega) (by omega) | exact k35 _ (by omega) (by omega) (by omega) | skip
  · exact h.elim
theorem me_X5_layRing {l : Launch} (hl : l.stackTraces = false) : mm_Met l yX5_layRing cX5_layRing 4 (some .int) [] 8 144 0 sp_X5_layRing := mm_mt hl rn_X5_layRing ⟨plX5, rfl⟩ kkX5_layRing rfl ⟨Nat.le_of_ble_eq_true rfl, Nat.le_of_ble_eq_true rfl⟩ flkX5 (fun _ h => nomatch h) (⟨mm_pe (me_X5_isIn hl) mwX5_isIn (mm_t6 107 rfl rfl) (Nat.le_of_ble_eq_true rfl) (Nat.le_of_ble_eq_true rfl), mm_pe (me_X5_start hl) mwX5_start (mm_t6 110 rfl rfl) (Nat.le_of_ble_eq_true rfl) (Nat.le_of_ble_eq_true rfl), mm_pe (me_X5_cannot hl) mwX5_cannot (mm_t6 118 rfl rfl) (Nat.le_of_ble_eq_true rfl) (Nat.le_of_ble_eq_true rfl), mm_pe (me_X5_laid hl) mwX5_laid (mm_t6 122 rfl rfl) (Nat.le_of_ble_eq_true rfl) (Nat.le_of_ble_eq_true rfl), mm_pe (me_X5_endWords hl) mwX5_endWords (mm_t6 126 rfl rfl) (Nat.le_of_ble_eq_true rfl) (Nat.le_of_ble_eq_true rfl), mm_pe (me_X5_act hl) mwX5_act (mm_t6 130 rfl rfl) (Nat.le_of_ble_eq_true rfl) (Nat.le_of_ble_eq_true rfl), trivial⟩) (mm_xe0 _) n9X5
/-- all streets gone -/
theorem xP_e {M M' : mm_M} (h : xA M) (hx : fX M M') (he : emR (vX M) (vX M')) (h10 : M' 17 10 = -1) : xP M M' ∧ M' 17 1 = 0 := by
  obtain ⟨e1, e2, e3, e4, e5, e6, e7, e8, e9, e10⟩ := he
  have ht : tW (vX M') := by
    obtain ⟨a, b, c, e, f⟩ := h.1.1
    refine ⟨by rw [e2]; omega, by rw [e1 3 (by simp), e1 4 (by simp)]; exact b, by rw [e3]; exact c, by rw [e4]; omega, by rw [e5]; omega⟩
  refine ⟨⟨hx, ⟨⟨ht, fun w hw => ?_, Or.inl e7, by rw [e10]; exact h.1.2.2.2.1, fun h2 => absurd e7 h2⟩, cF.of e1 (by simp), by rw [e1 1 (by simp)]⟩, by rw [h10]; omega⟩, e2⟩
  have h5 : vX M' w 2 = 0 ∧ vX M' w 3 = 0 := by
    rcases hw with rfl | rfl | rfl
    · exact e6 0 (by omega)
    · exact e6 1 (by omega)
    · exact e6 2 (by omega)
  exact ⟨⟨by rw [h5.1]; omega, by rw [h5.2]; omega, fun i hi => by rw [h5.1] at hi; omega⟩, wD_0 h5.1⟩
theorem xP_1w {M : mm_M} {v : Int} (h : xA M) (hv : v = 0 ∨ v = 1) : xP M (mm_up M 17 4 v) := by
  have e : vX (mm_up M 17 4 v) = mm_up (vX M) 2 5 v := vX_u4
  refine xP_t h (fX.rf.up (by omega)) ?_ ?_ (by rw [mm_up_ob2 (by omega)]; exact Int.le_refl _) (by simp [mm_up])
  · refine tX_i.mpr ?_
    rw [e]
    obtain ⟨p1, p2, p3, p4, p5⟩ := h.1.1
    exact ⟨by simpa [mm_up] using p1, by simpa [mm_up] using p2, by simpa [mm_up] using hv, by simpa [mm_up] using p4, by simpa [mm_up] using p5⟩
  · rw [e]
    exact fr.rf.up (by simp)
def sp_X5_clear : mm_S := fun av M d Q => match av with
  | [.inr (.inr (.inl o))] =>  o = 17 ∧ xA M ∧ ∀ M' r, xP M M' → C_clear (vX M) (vX M') (M' 17 0) r → Q (.inl (some (mm_I r))) M' d
  | _ => False
def ct_X5_clear : List (Nat × mm_Ca) := [(159, (0, 1, 14, sp_X5_emptied, 0)), (156, (0, 2, 14, sp_X5_act, 0))]
abbrev rr_X5_clear (Q : mm_Q) := mm_run (mm_look flX5) (mm_look ct_X5_clear) mm_x0 (mm_look ([] : List (Nat × Int))) (fun _ => none) 1 0 (fun _ _ => none) Q kdX5_clear
set_option maxRecDepth 20000 in
theorem rn_X5_clear : mm_RN flX5 ct_X5_clear mm_x0 [] 1 0 2 kdX5_clear sp_X5_clear := by
  intro av M d Q h
  unfold sp_X5_clear at h
  split at h
  · rename_i o
    obtain ⟨rfl, ha, hq⟩ := h
    have ha0 := ha.s (v := 0)
    have fin : ∀ M1, fX (mm_up M 17 0 0) M1 ∧ emR (vX (mm_up M 17 0 0)) (vX M1) ∧ M1 17 10 = -1 ∧ M1 17 0 = mm_up M 17 0 0 17 0 → ∀ N, N = mm_up M1 17 4 0 → Q (.inl (some (mm_I (mm_up M 17 0 0 17 1)))) (mm_up N 17 14 (N 17 14 + 1)) d := fun M1 h N eN => by
      have h1 := (xP_e ha0 h.1 h.2.1 h.2.2.1).1
      have t1 := ha.t.1
      have em : mm_up M 17 0 0 17 1 = M 17 1 := mm_up_ob2 (by omega)
      have e0' : N 17 0 = 0 := by rw [eN, mm_up_ob2 (by omega), h.2.2.2, x00]
      obtain ⟨z1, z2, z3, z4, z5, z6, z7, z8⟩ := h.2.1
      rw [vX_u0] at z1
      have eN2 : vX N = mm_up (vX M1) 2 5 0 := by rw [eN, vX_u4]
      refine hq _ _ (by rw [eN]; exact xP_ac (((xP_s ha).tr h1).tr (xP_1w h1.a (Or.inl rfl)))) ⟨by rw [mm_up_ob2 (by omega)]; exact e0', em, vX N, ⟨.of ?_, ?_, ?_, ?_, ?_, fun w hw => ?_, ?_⟩, SE.eq ?_⟩
      · rw [eN2, mm_up_o _ (by omega)]; exact z1 1 (by simp)
      · rw [eN2, mm_up_ob2 (by omega)]; exact z2
      · rw [eN2]; simp [mm_up]
      · rw [eN2, mm_up_ob2 (by omega)]; exact z4
      · rw [eN2, mm_up_ob2 (by omega)]; exact z5
      · rw [eN2]
        rcases hw with rfl | rfl | rfl
        · rw [mm_up_o _ (by omega)]; exact z6 0 (by omega)
        · rw [mm_up_o _ (by omega)]; exact z6 1 (by omega)
        · rw [mm_up_o _ (by omega)]; exact z6 2 (by omega)
      · rw [eN2, mm_up_o _ (by omega)]; exact z7
      · rw [cX_n (r := mm_up M 17 0 0 17 1) (by omega)]
    clear hq
    obtain ⟨K, hK, hK2⟩ : ∃ K : Nat → mm_K, (∀ t ls st M d u, K t ls st M d u → rr_X5_clear Q t ls st M d u) ∧ (∀ t ls st M d u, rr_X5_clear Q t ls st M d u → K t ls st M d u) := ⟨rr_X5_clear Q, fun _ _ _ _ _ _ h => h, fun _ _ _ _ _ _ h => h⟩
    refine ⟨Nat.le_of_ble_eq_true rfl, mm_run_at (stop := []) (S := K) kkX5_clear 90 ?_ (fun _ _ _ _ _ _ _ h => hK _ _ _ _ _ _ h)⟩
    repeat' (first | with_reducible assumption | with_reducible exact mm_i17 | with_reducible exact mm_i18 | with_reducible exact mm_i19 | with_reducible exact mm_i20 | with_reducible exact mm_i21 | with_reducible exact mm_i22 | ((with_reducible show mm_rv _ _ _ _ _); first | exact True.intro | exact mm_i17 | exact mm_i18 | exact mm_i19 | exact mm_i20 | exact mm_i21 | exact mm_i22) | ((with_reducible show mm_bool _ _); first | exact True.intro | exact Or.inl rfl | exact Or.inr rfl | (show (_ : Int) = 0 ∨ _ = 1)) | refine And.intro ?_ ?_ | intro _ | with_reducible exact True.intro | exact rfl | with_reducible exact Or.inl rfl | with_reducible exact Or.inr rfl | exact Nat.le_of_ble_eq_true rfl)
    all_goals (try simp (disch := omega) only [InI, Int.toNat_natCast, Int.tmod_eq_emod_of_nonneg, Int.tdiv_eq_ediv_of_nonneg, true_implies, true_or, or_true, mm_l18, mm_l19, mm_l20, mm_l21, mm_l22] at *)
    all_goals first | omega | exact fin _ (by assumption) _ rfl | skip
  · exact h.elim
theorem me_X5_clear {l : Launch} (hl : l.stackTraces = false) : mm_Met l yX5_clear cX5_clear 2 (some .int) [] 8 141 0 sp_X5_clear := mm_mt hl rn_X5_clear ⟨plX5, rfl⟩ kkX5_clear rfl ⟨Nat.le_of_ble_eq_true rfl, Nat.le_of_ble_eq_true rfl⟩ flkX5 (fun _ h => nomatch h) (⟨mm_pe (me_X5_emptied hl) mwX5_emptied (mm_t6 142 rfl rfl) (Nat.le_of_ble_eq_true rfl) (Nat.le_of_ble_eq_true rfl), mm_pe (me_X5_act hl) mwX5_act (mm_t6 130 rfl rfl) (Nat.le_of_ble_eq_true rfl) (Nat.le_of_ble_eq_true rfl), trivial⟩) (mm_xe0 _) n9X5
/-- words are laid -/
theorem xP_w {M M' : mm_M} {a b x y : Int} (h : xA M) (ha : 2 ≤ a ∧ a ≤ 5) (hb : 1 ≤ b ∧ b ≤ 4) : xP M (mm_up (mm_up (mm_up M 17 4 1) 17 5 a) 17 6 b) := by
  have e : vX (mm_up (mm_up (mm_up M 17 4 1) 17 5 a) 17 6 b) = mm_up (mm_up (mm_up (vX M) 2 5 1) 2 6 a) 2 7 b := by rw [vX_u6, vX_u5, vX_u4]
  refine xP_t h (((fX.rf.up (by omega)).up (by omega)).up (by omega)) ?_ ?_ (by rw [mm_up_ob2 (by omega), mm_up_ob2 (by omega), mm_up_ob2 (by omega)]; exact Int.le_refl _) (by simp [mm_up])
  · refine tX_i.mpr ?_
    rw [e]
    obtain ⟨p1, p2, p3, p4, p5⟩ := h.1.1
    exact ⟨by simpa [mm_up] using p1, by simpa [mm_up] using p2, by simp [mm_up], by simp [mm_up]; omega, by simp [mm_up]; omega⟩
  · rw [e]
    exact ((fr.rf.up (by simp)).up (by simp)).up (by simp)
theorem at_X5_words_0 : mm_at 0 kdX5_words = [(0, .aload_n 0, 0), (1, .iload_n 1, 0), (2, .iconst 2, 0), (3, .iconst 5, 0), (4, .invokestatic 45, 0), (7, .ifCond .eq 12, 19), (10, .iload_n 2, 0), (11, .iconst 1, 0), (12, .iconst 4, 0), (13, .invokestatic 45, 0), (16, .ifCond .ne 7, 23), (19, .iconst 1, 0), (20, .goto 4, 24), (23, .iconst 0, 0), (24, .iconst 1, 0), (25, .invokevirtual 146, 0), (28, .ifCond .eq 5, 33), (31, .iconst 0, 0), (32, .ireturn, 0), (33, .iconst 1, 0), (34, .istore_n 3, 0), (35, .iconst 1, 0), (36, .istore 4, 0), (38, .iload 4, 0), (40, .iload_n 2, 0), (41, .if_icmp .ge 13, 54), (44, .iload_n 3, 0), (45, .iload_n 1, 0), (46, .imul, 0), (47, .istore_n 3, 0), (48, .iinc 4 1, 0), (51, .goto (-13), 38), (54, .iload_n 3, 0), (55, .iload_n 1, 0), (56, .imul, 0), (57, .bipush 30, 0), (59, .if_icmp .le 8, 67), (62, .aload_n 0, 0), (63, .invokevirtual 149, 0), (66, .ireturn, 0), (67, .aload_n 0, 0), (68, .invokevirtual 159, 0), (71, .iconst 0, 0), (72, .istore 4, 0), (74, .iload 4, 0), (76, .iload_n 3, 0), (77, .iload_n 1, 0), (78, .imul, 0), (79, .if_icmp .ge 21, 100), (82, .aload_n 0, 0), (83, .iload 4, 0), (85, .iload_n 1, 0), (86, .idiv, 0), (87, .iload 4, 0), (89, .iload_n 3, 0), (90, .irem, 0), (91, .invokevirtual 152, 0), (94, .iinc 4 1, 0), (97, .goto (-23), 74), (100, .aload_n 0, 0), (101, .iconst 1, 0), (102, .putfield 60, 0), (105, .aload_n 0, 0), (106, .iload_n 1, 0), (107, .putfield 89, 0), (110, .aload_n 0, 0), (111, .iload_n 2, 0), (112, .putfield 92, 0), (115, .aload_n 0, 0), (116, .aload_n 0, 0), (117, .getfield 49, 0), (120, .invokevirtual 156, 0), (123, .ireturn, 0)] := rfl
theorem at_X5_words_19 : mm_at 19 kdX5_words = [(19, .iconst 1, 0), (20, .goto 4, 24), (23, .iconst 0, 0), (24, .iconst 1, 0), (25, .invokevirtual 146, 0), (28, .ifCond .eq 5, 33), (31, .iconst 0, 0), (32, .ireturn, 0), (33, .iconst 1, 0), (34, .istore_n 3, 0), (35, .iconst 1, 0), (36, .istore 4, 0), (38, .iload 4, 0), (40, .iload_n 2, 0), (41, .if_icmp .ge 13, 54), (44, .iload_n 3, 0), (45, .iload_n 1, 0), (46, .imul, 0), (47, .istore_n 3, 0), (48, .iinc 4 1, 0), (51, .goto (-13), 38), (54, .iload_n 3, 0), (55, .iload_n 1, 0), (56, .imul, 0), (57, .bipush 30, 0), (59, .if_icmp .le 8, 67), (62, .aload_n 0, 0), (63, .invokevirtual 149, 0), (66, .ireturn, 0), (67, .aload_n 0, 0), (68, .invokevirtual 159, 0), (71, .iconst 0, 0), (72, .istore 4, 0), (74, .iload 4, 0), (76, .iload_n 3, 0), (77, .iload_n 1, 0), (78, .imul, 0), (79, .if_icmp .ge 21, 100), (82, .aload_n 0, 0), (83, .iload 4, 0), (85, .iload_n 1, 0), (86, .idiv, 0), (87, .iload 4, 0), (89, .iload_n 3, 0), (90, .irem, 0), (91, .invokevirtual 152, 0), (94, .iinc 4 1, 0), (97, .goto (-23), 74), (100, .aload_n 0, 0), (101, .iconst 1, 0), (102, .putfield 60, 0), (105, .aload_n 0, 0), (106, .iload_n 1, 0), (107, .putfield 89, 0), (110, .aload_n 0, 0), (111, .iload_n 2, 0), (112, .putfield 92, 0), (115, .aload_n 0, 0), (116, .aload_n 0, 0), (117, .getfield 49, 0), (120, .invokevirtual 156, 0), (123, .ireturn, 0)] := rfl
theorem at_X5_words_23 : mm_at 23 kdX5_words = [(23, .iconst 0, 0), (24, .iconst 1, 0), (25, .invokevirtual 146, 0), (28, .ifCond .eq 5, 33), (31, .iconst 0, 0), (32, .ireturn, 0), (33, .iconst 1, 0), (34, .istore_n 3, 0), (35, .iconst 1, 0), (36, .istore 4, 0), (38, .iload 4, 0), (40, .iload_n 2, 0), (41, .if_icmp .ge 13, 54), (44, .iload_n 3, 0), (45, .iload_n 1, 0), (46, .imul, 0), (47, .istore_n 3, 0), (48, .iinc 4 1, 0), (51, .goto (-13), 38), (54, .iload_n 3, 0), (55, .iload_n 1, 0), (56, .imul, 0), (57, .bipush 30, 0), (59, .if_icmp .le 8, 67), (62, .aload_n 0, 0), (63, .invokevirtual 149, 0), (66, .ireturn, 0), (67, .aload_n 0, 0), (68, .invokevirtual 159, 0), (71, .iconst 0, 0), (72, .istore 4, 0), (74, .iload 4, 0), (76, .iload_n 3, 0), (77, .iload_n 1, 0), (78, .imul, 0), (79, .if_icmp .ge 21, 100), (82, .aload_n 0, 0), (83, .iload 4, 0), (85, .iload_n 1, 0), (86, .idiv, 0), (87, .iload 4, 0), (89, .iload_n 3, 0), (90, .irem, 0), (91, .invokevirtual 152, 0), (94, .iinc 4 1, 0), (97, .goto (-23), 74), (100, .aload_n 0, 0), (101, .iconst 1, 0), (102, .putfield 60, 0), (105, .aload_n 0, 0), (106, .iload_n 1, 0), (107, .putfield 89, 0), (110, .aload_n 0, 0), (111, .iload_n 2, 0), (112, .putfield 92, 0), (115, .aload_n 0, 0), (116, .aload_n 0, 0), (117, .getfield 49, 0), (120, .invokevirtual 156, 0), (123, .ireturn, 0)] := rfl
theorem at_X5_words_24 : mm_at 24 kdX5_words = [(24, .iconst 1, 0), (25, .invokevirtual 146, 0), (28, .ifCond .eq 5, 33), (31, .iconst 0, 0), (32, .ireturn, 0), (33, .iconst 1, 0), (34, .istore_n 3, 0), (35, .iconst 1, 0), (36, .istore 4, 0), (38, .iload 4, 0), (40, .iload_n 2, 0), (41, .if_icmp .ge 13, 54), (44, .iload_n 3, 0), (45, .iload_n 1, 0), (46, .imul, 0), (47, .istore_n 3, 0), (48, .iinc 4 1, 0), (51, .goto (-13), 38), (54, .iload_n 3, 0), (55, .iload_n 1, 0), (56, .imul, 0), (57, .bipush 30, 0), (59, .if_icmp .le 8, 67), (62, .aload_n 0, 0), (63, .invokevirtual 149, 0), (66, .ireturn, 0), (67, .aload_n 0, 0), (68, .invokevirtual 159, 0), (71, .iconst 0, 0), (72, .istore 4, 0), (74, .iload 4, 0), (76, .iload_n 3, 0), (77, .iload_n 1, 0), (78, .imul, 0), (79, .if_icmp .ge 21, 100), (82, .aload_n 0, 0), (83, .iload 4, 0), (85, .iload_n 1, 0), (86, .idiv, 0), (87, .iload 4, 0), (89, .iload_n 3, 0), (90, .irem, 0), (91, .invokevirtual 152, 0), (94, .iinc 4 1, 0), (97, .goto (-23), 74), (100, .aload_n 0, 0), (101, .iconst 1, 0), (102, .putfield 60, 0), (105, .aload_n 0, 0), (106, .iload_n 1, 0), (107, .putfield 89, 0), (110, .aload_n 0, 0), (111, .iload_n 2, 0), (112, .putfield 92, 0), (115, .aload_n 0, 0), (116, .aload_n 0, 0), (117, .getfield 49, 0), (120, .invokevirtual 156, 0), (123, .ireturn, 0)] := rfl
theorem at_X5_words_33 : mm_at 33 kdX5_words = [(33, .iconst 1, 0), (34, .istore_n 3, 0), (35, .iconst 1, 0), (36, .istore 4, 0), (38, .iload 4, 0), (40, .iload_n 2, 0), (41, .if_icmp .ge 13, 54), (44, .iload_n 3, 0), (45, .iload_n 1, 0), (46, .imul, 0), (47, .istore_n 3, 0), (48, .iinc 4 1, 0), (51, .goto (-13), 38), (54, .iload_n 3, 0), (55, .iload_n 1, 0), (56, .imul, 0), (57, .bipush 30, 0), (59, .if_icmp .le 8, 67), (62, .aload_n 0, 0), (63, .invokevirtual 149, 0), (66, .ireturn, 0), (67, .aload_n 0, 0), (68, .invokevirtual 159, 0), (71, .iconst 0, 0), (72, .istore 4, 0), (74, .iload 4, 0), (76, .iload_n 3, 0), (77, .iload_n 1, 0), (78, .imul, 0), (79, .if_icmp .ge 21, 100), (82, .aload_n 0, 0), (83, .iload 4, 0), (85, .iload_n 1, 0), (86, .idiv, 0), (87, .iload 4, 0), (89, .iload_n 3, 0), (90, .irem, 0), (91, .invokevirtual 152, 0), (94, .iinc 4 1, 0), (97, .goto (-23), 74), (100, .aload_n 0, 0), (101, .iconst 1, 0), (102, .putfield 60, 0), (105, .aload_n 0, 0), (106, .iload_n 1, 0), (107, .putfield 89, 0), (110, .aload_n 0, 0), (111, .iload_n 2, 0), (112, .putfield 92, 0), (115, .aload_n 0, 0), (116, .aload_n 0, 0), (117, .getfield 49, 0), (120, .invokevirtual 156, 0), (123, .ireturn, 0)] := rfl
theorem at_X5_words_38 : mm_at 38 kdX5_words = [(38, .iload 4, 0), (40, .iload_n 2, 0), (41, .if_icmp .ge 13, 54), (44, .iload_n 3, 0), (45, .iload_n 1, 0), (46, .imul, 0), (47, .istore_n 3, 0), (48, .iinc 4 1, 0), (51, .goto (-13), 38), (54, .iload_n 3, 0), (55, .iload_n 1, 0), (56, .imul, 0), (57, .bipush 30, 0), (59, .if_icmp .le 8, 67), (62, .aload_n 0, 0), (63, .invokevirtual 149, 0), (66, .ireturn, 0), (67, .aload_n 0, 0), (68, .invokevirtual 159, 0), (71, .iconst 0, 0), (72, .istore 4, 0), (74, .iload 4, 0), (76, .iload_n 3, 0), (77, .iload_n 1, 0), (78, .imul, 0), (79, .if_icmp .ge 21, 100), (82, .aload_n 0, 0), (83, .iload 4, 0), (85, .iload_n 1, 0), (86, .idiv, 0), (87, .iload 4, 0), (89, .iload_n 3, 0), (90, .irem, 0), (91, .invokevirtual 152, 0), (94, .iinc 4 1, 0), (97, .goto (-23), 74), (100, .aload_n 0, 0), (101, .iconst 1, 0), (102, .putfield 60, 0), (105, .aload_n 0, 0), (106, .iload_n 1, 0), (107, .putfield 89, 0), (110, .aload_n 0, 0), (111, .iload_n 2, 0), (112, .putfield 92, 0), (115, .aload_n 0, 0), (116, .aload_n 0, 0), (117, .getfield 49, 0), (120, .invokevirtual 156, 0), (123, .ireturn, 0)] := rfl
theorem at_X5_words_54 : mm_at 54 kdX5_words = [(54, .iload_n 3, 0), (55, .iload_n 1, 0), (56, .imul, 0), (57, .bipush 30, 0), (59, .if_icmp .le 8, 67), (62, .aload_n 0, 0), (63, .invokevirtual 149, 0), (66, .ireturn, 0), (67, .aload_n 0, 0), (68, .invokevirtual 159, 0), (71, .iconst 0, 0), (72, .istore 4, 0), (74, .iload 4, 0), (76, .iload_n 3, 0), (77, .iload_n 1, 0), (78, .imul, 0), (79, .if_icmp .ge 21, 100), (82, .aload_n 0, 0), (83, .iload 4, 0), (85, .iload_n 1, 0), (86, .idiv, 0), (87, .iload 4, 0), (89, .iload_n 3, 0), (90, .irem, 0), (91, .invokevirtual 152, 0), (94, .iinc 4 1, 0), (97, .goto (-23), 74), (100, .aload_n 0, 0), (101, .iconst 1, 0), (102, .putfield 60, 0), (105, .aload_n 0, 0), (106, .iload_n 1, 0), (107, .putfield 89, 0), (110, .aload_n 0, 0), (111, .iload_n 2, 0), (112, .putfield 92, 0), (115, .aload_n 0, 0), (116, .aload_n 0, 0), (117, .getfield 49, 0), (120, .invokevirtual 156, 0), (123, .ireturn, 0)] := rfl
theorem at_X5_words_67 : mm_at 67 kdX5_words = [(67, .aload_n 0, 0), (68, .invokevirtual 159, 0), (71, .iconst 0, 0), (72, .istore 4, 0), (74, .iload 4, 0), (76, .iload_n 3, 0), (77, .iload_n 1, 0), (78, .imul, 0), (79, .if_icmp .ge 21, 100), (82, .aload_n 0, 0), (83, .iload 4, 0), (85, .iload_n 1, 0), (86, .idiv, 0), (87, .iload 4, 0), (89, .iload_n 3, 0), (90, .irem, 0), (91, .invokevirtual 152, 0), (94, .iinc 4 1, 0), (97, .goto (-23), 74), (100, .aload_n 0, 0), (101, .iconst 1, 0), (102, .putfield 60, 0), (105, .aload_n 0, 0), (106, .iload_n 1, 0), (107, .putfield 89, 0), (110, .aload_n 0, 0), (111, .iload_n 2, 0), (112, .putfield 92, 0), (115, .aload_n 0, 0), (116, .aload_n 0, 0), (117, .getfield 49, 0), (120, .invokevirtual 156, 0), (123, .ireturn, 0)] := rfl
theorem at_X5_words_74 : mm_at 74 kdX5_words = [(74, .iload 4, 0), (76, .iload_n 3, 0), (77, .iload_n 1, 0), (78, .imul, 0), (79, .if_icmp .ge 21, 100), (82, .aload_n 0, 0), (83, .iload 4, 0), (85, .iload_n 1, 0), (86, .idiv, 0), (87, .iload 4, 0), (89, .iload_n 3, 0), (90, .irem, 0), (91, .invokevirtual 152, 0), (94, .iinc 4 1, 0), (97, .goto (-23), 74), (100, .aload_n 0, 0), (101, .iconst 1, 0), (102, .putfield 60, 0), (105, .aload_n 0, 0), (106, .iload_n 1, 0), (107, .putfield 89, 0), (110, .aload_n 0, 0), (111, .iload_n 2, 0), (112, .putfield 92, 0), (115, .aload_n 0, 0), (116, .aload_n 0, 0), (117, .getfield 49, 0), (120, .invokevirtual 156, 0), (123, .ireturn, 0)] := rfl
theorem at_X5_words_100 : mm_at 100 kdX5_words = [(100, .aload_n 0, 0), (101, .iconst 1, 0), (102, .putfield 60, 0), (105, .aload_n 0, 0), (106, .iload_n 1, 0), (107, .putfield 89, 0), (110, .aload_n 0, 0), (111, .iload_n 2, 0), (112, .putfield 92, 0), (115, .aload_n 0, 0), (116, .aload_n 0, 0), (117, .getfield 49, 0), (120, .invokevirtual 156, 0), (123, .ireturn, 0)] := rfl
def sp_X5_words : mm_S := fun av M d Q => match av with
  | [.inr (.inr (.inl o)), .inl a, .inl b] =>  o = 17 ∧ xA M ∧ InI a ∧ InI b ∧ ∀ M' r, xP M M' → C_words a b (vX M) (vX M') (M' 17 0) r → Q (.inl (some (mm_I r))) M' d
  | _ => False
def ct_X5_words : List (Nat × mm_Ca) := [(45, (1, 3, 0, sp_X5_isIn, 0)), (146, (0, 3, 14, sp_X5_start, 0)), (149, (0, 1, 14, sp_X5_cannot, 0)), (159, (0, 1, 14, sp_X5_emptied, 0)), (152, (0, 3, 14, sp_X5_laid, 0)), (156, (0, 2, 14, sp_X5_act, 0))]
abbrev rr_X5_words (Q : mm_Q) := mm_run (mm_look flX5) (mm_look ct_X5_words) mm_x0 (mm_look ([] : List (Nat × Int))) (fun _ => none) 1 0 (fun _ _ => none) Q kdX5_words
def wrI (V V1 : mm_M) (a c : Int) (i : Nat) : Prop := fr [2, 3, 4] V V1 ∧ (∀ j, j ≠ 4 → V1 2 j = V 2 j) ∧ V1 2 4 = i ∧ ∀ k : Nat, k < i → V1 3 k = k / a ∧ V1 4 k = k % c
set_option maxRecDepth 20000 in
theorem wrI_s {V V1 : mm_M} {a c : Int} {i : Nat} (h : wrI V V1 a c i) (ht : tW V1) (hn : V1 2 4 < 30) (hi : V1 2 4 = i) (ca : 0 ≤ (i : Int) / a ∧ (i : Int) / a < 10) (cb : 0 ≤ (i : Int) % c ∧ (i : Int) % c < 10) : wrI V (addS V1 (i / a) (i % c)) a c (i + 1) := by
  obtain ⟨h1, h2, h3, h5⟩ := h
  have hs := addS_spec (n := i) ht hi (by omega) ca cb
  obtain ⟨-, s1, s2, s3, s4, s5, s6⟩ := hs
  refine ⟨h1.tr s1, fun j hj => by rw [s2 j hj, h2 j hj], by omega, fun k hk => ?_⟩
  by_cases e : k = i
  · subst e
    exact ⟨s5, s6⟩
  · rw [(s4 k (by omega)).1, (s4 k (by omega)).2]
    exact h5 k (by omega)
set_option maxRecDepth 20000 in
theorem lp2_X5_words {M0 : mm_M} {d : List Nat} {Q : mm_Q} {a b c : Int} {n : Nat} (ca : 2 ≤ a ∧ a ≤ 5) (cb : 1 ≤ b ∧ b ≤ 4) (cc : 1 ≤ c ∧ c ≤ 10) (hn : c * a = n) (h30 : n ≤ 30) (hda : n ≤ 10 * a) (h10 : M0 17 1 = 0) (hq : ∀ M, xP M0 M → M 17 0 = M0 17 0 → wrI (vX M0) (vX M) a c n → ∀ N, N = mm_up (mm_up (mm_up M 17 4 1) 17 5 a) 17 6 b → Q (.inl (some (mm_I n))) (mm_up N 17 14 (N 17 14 + 1)) d) : ∀ (j i : Nat) (M : mm_M), i + j = n → xP M0 M → M 17 1 = i → M 17 0 = M0 17 0 → wrI (vX M0) (vX M) a c i → rr_X5_words Q 74 [some (mm_R 17), some (mm_I a), some (mm_I b), some (mm_I c), some (mm_I i)] [] M d 0 := by
  intro j
  induction j with
  | zero =>
    intro i M hi hP hl h0 hR
    have e : i = n := by omega
    subst e
    have fin := hq M hP h0 hR
    have e1 : mm_up (mm_up (mm_up M 17 4 1) 17 5 a) 17 6 b 17 1 = i := by simp [mm_up]; exact hl
    clear hq hR
    obtain ⟨K, hK, hK2⟩ : ∃ K : Nat → mm_K, (∀ t ls st M d u, K t ls st M d u → rr_X5_words Q t ls st M d u) ∧ (∀ t ls st M d u, rr_X5_words Q t ls st M d u → K t ls st M d u) := ⟨rr_X5_words Q, fun _ _ _ _ _ _ h => h, fun _ _ _ _ _ _ h => h⟩
    refine mm_run_at (stop := [82]) (S := K) kkX5_words 90 ?_ (fun _ _ _ _ _ _ _ h => hK _ _ _ _ _ _ h)
    repeat' (first | with_reducible assumption | with_reducible exact mm_i17 | with_reducible exact mm_i18 | with_reducible exact mm_i19 | with_reducible exact mm_i20 | with_reducible exact mm_i21 | with_reducible exact mm_i22 | ((with_reducible show mm_rv _ _ _ _ _); first | exact True.intro | exact mm_i17 | exact mm_i18 | exact mm_i19 | exact mm_i20 | exact mm_i21 | exact mm_i22) | ((with_reducible show mm_bool _ _); first | exact True.intro | exact Or.inl rfl | exact Or.inr rfl | (show (_ : Int) = 0 ∨ _ = 1)) | refine And.intro ?_ ?_ | intro _ | with_reducible exact True.intro | exact rfl | with_reducible exact Or.inl rfl | with_reducible exact Or.inr rfl | exact Nat.le_of_ble_eq_true rfl)
    all_goals (try simp (disch := omega) only [hn, e1, InI, Int.toNat_natCast, Int.tmod_eq_emod_of_nonneg, Int.tdiv_eq_ediv_of_nonneg, true_implies, true_or, or_true, mm_l18, mm_l19, mm_l20, mm_l21, mm_l22] at *)
    all_goals first | omega | exact fin _ rfl | skip
  | succ j ih =>
    intro i M hi hP hl h0 hR
    have ht := hP.a.t
    have t1 := ht.1
    have hr := Int.emod_nonneg (i : Int) (show c ≠ 0 by omega)
    have hr2 := Int.emod_lt_of_pos (i : Int) (show 0 < c by omega)
    have hr3 := Int.ediv_nonneg (show 0 ≤ (i : Int) by omega) (show 0 ≤ a by omega)
    have hr4 : (i : Int) / a < 10 := Int.ediv_lt_of_lt_mul (by omega) (by omega)
    have e5 := Int.tmod_eq_emod_of_nonneg (show 0 ≤ (i : Int) by omega) (b := c)
    have e6 := Int.tdiv_eq_ediv_of_nonneg (show 0 ≤ (i : Int) by omega) (b := a)
    obtain ⟨K, hK, hK2⟩ : ∃ K : Nat → mm_K, (∀ t ls st M d u, K t ls st M d u → rr_X5_words Q t ls st M d u) ∧ (∀ t ls st M d u, rr_X5_words Q t ls st M d u → K t ls st M d u) := ⟨rr_X5_words Q, fun _ _ _ _ _ _ h => h, fun _ _ _ _ _ _ h => h⟩
    have st : ∀ M2, M2 = mm_up (mm_up (mm_up M 18 (M 17 1).toNat (i / a)) 19 (M 17 1).toNat (i % c)) 17 1 (M 17 1 + 1) → K 74 [some (mm_R 17), some (mm_I a), some (mm_I b), some (mm_I c), some (mm_I ((i : Int) + 1))] [] M2 d 0 := by
      intro M2 e
      refine hK2 _ _ _ _ _ _ (ih (i + 1) M2 (by omega) (hP.tr (by rw [e]; exact addX_spec hP.a (by omega) (by omega) (by omega))) (by rw [e]; simp [mm_up]; omega) (by rw [e]; simp [mm_up]; exact h0) (by rw [e, vX_add]; exact wrI_s hR ht (show M 17 1 < 30 by omega) (show M 17 1 = i by omega) (by omega) (by omega)))
    clear hq hR
    refine mm_run_at (stop := [74, 100]) (S := K) kkX5_words 90 ?_ (fun _ _ _ _ _ _ _ h => hK _ _ _ _ _ _ h)
    repeat' (first | with_reducible assumption | with_reducible exact mm_i17 | with_reducible exact mm_i18 | with_reducible exact mm_i19 | with_reducible exact mm_i20 | with_reducible exact mm_i21 | with_reducible exact mm_i22 | ((with_reducible show mm_rv _ _ _ _ _); first | exact True.intro | exact mm_i17 | exact mm_i18 | exact mm_i19 | exact mm_i20 | exact mm_i21 | exact mm_i22) | ((with_reducible show mm_bool _ _); first | exact True.intro | exact Or.inl rfl | exact Or.inr rfl | (show (_ : Int) = 0 ∨ _ = 1)) | refine And.intro ?_ ?_ | intro _ | with_reducible exact True.intro | exact rfl | with_reducible exact Or.inl rfl | with_reducible exact Or.inr rfl | exact Nat.le_of_ble_eq_true rfl)
    all_goals (try simp (disch := omega) only [hn, e5, e6, InI, Int.toNat_natCast, Int.tmod_eq_emod_of_nonneg, Int.tdiv_eq_ediv_of_nonneg, true_implies, true_or, or_true, mm_l18, mm_l19, mm_l20, mm_l21, mm_l22] at *)
    all_goals first | omega | exact st _ rfl | skip
set_option maxRecDepth 20000 in
theorem lp_X5_words {M : mm_M} {d : List Nat} {Q : mm_Q} {a : Int} {b : Nat} (ca : 2 ≤ a ∧ a ≤ 5) (cb : 1 ≤ b ∧ b ≤ 4) (hq : ∀ x4, rr_X5_words Q 54 [some (mm_R 17), some (mm_I a), some (mm_I b), some (mm_I (a ^ (b - 1))), x4] [] M d 0) : ∀ (j i : Nat), i + j = b → 1 ≤ i → rr_X5_words Q 38 [some (mm_R 17), some (mm_I a), some (mm_I b), some (mm_I (a ^ (i - 1))), some (mm_I i)] [] M d 0 := by
  intro j
  induction j with
  | zero =>
    intro i hi h1
    have e : i = b := by omega
    subst e
    obtain ⟨K, hK, hK2⟩ : ∃ K : Nat → mm_K, (∀ t ls st M d u, K t ls st M d u → rr_X5_words Q t ls st M d u) ∧ (∀ t ls st M d u, rr_X5_words Q t ls st M d u → K t ls st M d u) := ⟨rr_X5_words Q, fun _ _ _ _ _ _ h => h, fun _ _ _ _ _ _ h => h⟩
    have h9 := fun x => hK2 _ _ _ _ _ _ (hq x)
    refine mm_run_at (stop := [44, 54]) (S := K) kkX5_words 90 ?_ (fun _ _ _ _ _ _ _ h => hK _ _ _ _ _ _ h)
    repeat' (first | with_reducible assumption | with_reducible exact mm_i17 | with_reducible exact mm_i18 | with_reducible exact mm_i19 | with_reducible exact mm_i20 | with_reducible exact mm_i21 | with_reducible exact mm_i22 | ((with_reducible show mm_rv _ _ _ _ _); first | exact True.intro | exact mm_i17 | exact mm_i18 | exact mm_i19 | exact mm_i20 | exact mm_i21 | exact mm_i22) | ((with_reducible show mm_bool _ _); first | exact True.intro | exact Or.inl rfl | exact Or.inr rfl | (show (_ : Int) = 0 ∨ _ = 1)) | refine And.intro ?_ ?_ | intro _ | with_reducible exact True.intro | exact rfl | with_reducible exact Or.inl rfl | with_reducible exact Or.inr rfl | exact Nat.le_of_ble_eq_true rfl)
    all_goals (try simp (disch := omega) only [InI, Int.toNat_natCast, Int.tmod_eq_emod_of_nonneg, Int.tdiv_eq_ediv_of_nonneg, true_implies, true_or, or_true, mm_l18, mm_l19, mm_l20, mm_l21, mm_l22] at *)
    all_goals first | omega | exact h9 _ | skip
  | succ j ih =>
    intro i hi h1
    obtain ⟨K, hK, hK2⟩ : ∃ K : Nat → mm_K, (∀ t ls st M d u, K t ls st M d u → rr_X5_words Q t ls st M d u) ∧ (∀ t ls st M d u, rr_X5_words Q t ls st M d u → K t ls st M d u) := ⟨rr_X5_words Q, fun _ _ _ _ _ _ h => h, fun _ _ _ _ _ _ h => h⟩
    have h9 := hK2 _ _ _ _ _ _ (ih (i + 1) (by omega) (by omega))
    rw [show a ^ (i + 1 - 1) = a ^ (i - 1) * a by rw [← Int.pow_succ]; congr 1; omega] at h9
    refine mm_run_at (stop := [38, 54]) (S := K) kkX5_words 90 ?_ (fun _ _ _ _ _ _ _ h => hK _ _ _ _ _ _ h)
    repeat' (first | with_reducible assumption | with_reducible exact mm_i17 | with_reducible exact mm_i18 | with_reducible exact mm_i19 | with_reducible exact mm_i20 | with_reducible exact mm_i21 | with_reducible exact mm_i22 | ((with_reducible show mm_rv _ _ _ _ _); first | exact True.intro | exact mm_i17 | exact mm_i18 | exact mm_i19 | exact mm_i20 | exact mm_i21 | exact mm_i22) | ((with_reducible show mm_bool _ _); first | exact True.intro | exact Or.inl rfl | exact Or.inr rfl | (show (_ : Int) = 0 ∨ _ = 1)) | refine And.intro ?_ ?_ | intro _ | with_reducible exact True.intro | exact rfl | with_reducible exact Or.inl rfl | with_reducible exact Or.inr rfl | exact Nat.le_of_ble_eq_true rfl)
    all_goals (try simp (disch := omega) only [InI, Int.toNat_natCast, Int.tmod_eq_emod_of_nonneg, Int.tdiv_eq_ediv_of_nonneg, true_implies, true_or, or_true, mm_l18, mm_l19, mm_l20, mm_l21, mm_l22] at *)
    all_goals first | omega | exact h9 | skip
set_option maxRecDepth 20000 in
theorem rn_X5_words : mm_RN flX5 ct_X5_words mm_x0 [] 1 0 5 kdX5_words sp_X5_words := by
  intro av M d Q h
  unfold sp_X5_words at h
  split at h
  · rename_i o a b
    obtain ⟨rfl, ha, h1, h2, hq⟩ := h
    obtain ⟨K, hK, hK2⟩ : ∃ K : Nat → mm_K, (∀ t ls st M d u, K t ls st M d u → rr_X5_words Q t ls st M d u) ∧ (∀ t ls st M d u, rr_X5_words Q t ls st M d u → K t ls st M d u) := ⟨rr_X5_words Q, fun _ _ _ _ _ _ h => h, fun _ _ _ _ _ _ h => h⟩
    have k33 : ∀ v, v = 0 → (2 ≤ a ∧ a ≤ 5) → (1 ≤ b ∧ b ≤ 4) → K 33 [some (mm_R 17), some (mm_I a), some (mm_I b), none, none] [] (mm_up M 17 0 v) d 0 := by
      intro v hv ca cb
      obtain ⟨M1, e0, ha1, hP1, e17, eo⟩ := xS (v := v) ha
      have e00 : M1 17 0 = 0 := by rw [← e0, hv]; simp [mm_up]
      rw [e0]
      obtain ⟨b, rfl⟩ := Int.eq_ofNat_of_zero_le (show 0 ≤ b by omega)
      have eV : vX M1 = vX M := by rw [← e0, vX_u0]
      have hcc : (2 ≤ a ∧ a ≤ 5) ∧ (1 ≤ (b : Int) ∧ (b : Int) ≤ 4) := ⟨ca, cb⟩
      obtain ⟨c, rfl⟩ : ∃ k, b = k + 1 := ⟨b - 1, by omega⟩
      have hp : a ^ (c + 1) = a ^ c * a := Int.pow_succ ..
      have hp1 : 1 ≤ a ^ c := Int.pow_pos (by omega)
      have hp5 := pw_5 (a := a) (b := ((c + 1 : Nat) : Int)) ca cb
      rw [Int.toNat_natCast] at hp5
      have hc9 : a ^ c ≤ 125 := by
        have hb5 : c = 0 ∨ c = 1 ∨ c = 2 ∨ c = 3 := by omega
        have ha5 : a = 2 ∨ a = 3 ∨ a = 4 ∨ a = 5 := by omega
        rcases hb5 with rfl | rfl | rfl | rfl <;> rcases ha5 with rfl | rfl | rfl | rfl <;> decide
      rw [hp] at hp5
      have f9 : 30 < a ^ c * a → Q (.inl (some (mm_I (-9)))) (mm_up M1 17 15 (M1 17 15 + 1)) d := fun h => hq _ (-9) (hP1.tr (xA_u (x := M1 17 15 + 1) ha1)) (Or.inr ⟨hcc, by rw [mm_up_ob2 (by omega)]; exact e00, x9 e0 (by rw [Int.toNat_natCast, hp]; omega)⟩)
      have k74 : a ^ c * a ≤ 30 → ∀ M2, fX M1 M2 ∧ emR (vX M1) (vX M2) ∧ M2 17 10 = -1 ∧ M2 17 0 = M1 17 0 → K 74 [some (mm_R 17), some (mm_I a), some (mm_I ((c + 1 : Nat) : Int)), some (mm_I (a ^ c)), some (mm_I 0)] [] M2 d 0 := by
        intro h30 M2 hM
        have hP2 := xP_e ha1 hM.1 hM.2.1 hM.2.2.1
        have hd10 : a ^ c ≤ 10 := by
          have hb5 : c = 0 ∨ c = 1 ∨ c = 2 ∨ c = 3 := by omega
          have ha5 : a = 2 ∨ a = 3 ∨ a = 4 ∨ a = 5 := by omega
          rcases hb5 with rfl | rfl | rfl | rfl <;> rcases ha5 with rfl | rfl | rfl | rfl <;> omega
        have hda : a ^ c * a ≤ 10 * a := Int.mul_le_mul_of_nonneg_right hd10 (by omega)
        refine hK2 _ _ _ _ _ _ (lp2_X5_words (M0 := M2) (n := (a ^ c * a).toNat) ca cb ⟨hp1, hd10⟩ (by omega) (by omega) (by omega) hP2.2 (fun M' h h0 hR N eN => ?_) (a ^ c * a).toNat 0 M2 (by omega) hP2.1.a.rf (by omega) rfl ⟨fr.rf, fun _ _ => rfl, hP2.2, fun k hk => by omega⟩)
        rw [show (((a ^ c * a).toNat : Nat) : Int) = a ^ c * a by omega]
        obtain ⟨z1, z2, z3, z4, z5, z6, z7, z8⟩ := hM.2.1
        rw [eV] at z1
        obtain ⟨y1, y2, y3, y4⟩ := hR
        have eN2 : vX N = mm_up (mm_up (mm_up (vX M') 2 5 1) 2 6 a) 2 7 ((c + 1 : Nat) : Int) := by rw [eN, vX_u6, vX_u5, vX_u4]
        have eNo : ∀ o, o ≠ 2 → vX N o = vX M' o := fun o ho => by rw [eN2, mm_up_o _ ho, mm_up_o _ ho, mm_up_o _ ho]
        have e0' : N 17 0 = 0 := by rw [eN, mm_up_ob2 (by omega), mm_up_ob2 (by omega), mm_up_ob2 (by omega), h0, hM.2.2.2, e00]
        refine hq _ _ (by rw [eN]; exact xP_ac (((hP1.tr hP2.1).tr h).tr (xP_w (M' := M') (x := 0) (y := 0) h.a ca cb))) (Or.inr ⟨hcc, by rw [mm_up_ob2 (by omega)]; exact e0', no9.y (by rw [Int.toNat_natCast, hp]; exact h30) ⟨by rw [Int.toNat_natCast, hp], vX N, ⟨.of ?_, ?_, ?_, ?_, ?_, fun k hk => ?_, fun w hw => ?_, ?_⟩, SE.eq ?_⟩⟩)
        · rw [eNo 1 (by omega), y1 1 (by simp), z1 1 (by simp)]
        · rw [eN2, mm_up_ob2 (by omega), mm_up_ob2 (by omega), mm_up_ob2 (by omega), y3, Int.toNat_natCast, hp]; omega
        · rw [eN2]; simp [mm_up]
        · rw [eN2]; simp [mm_up]
        · rw [eN2]; simp [mm_up]
        · rw [Int.toNat_natCast, hp] at hk
          rw [eNo 3 (by omega), eNo 4 (by omega), Int.toNat_natCast, Nat.add_sub_cancel]
          exact y4 k (by omega)
        · have hl := isK_le hw.k
          rw [eNo w (by omega), y1 w (by simp; omega)]
          rcases hw with rfl | rfl | rfl
          · exact z6 0 (by omega)
          · exact z6 1 (by omega)
          · exact z6 2 (by omega)
        · rw [eNo 16 (by omega), y1 16 (by simp)]
          exact z7
        · rw [cX_n (r := a ^ c * a) (by omega)]
      have k38 : K 38 [some (mm_R 17), some (mm_I a), some (mm_I ((c + 1 : Nat) : Int)), some (mm_I 1), some (mm_I 1)] [] M1 d 0 := by
        refine hK2 _ _ _ _ _ _ ?_
        have := lp_X5_words (M := M1) (d := d) (Q := Q) (a := a) (b := c + 1) ca (by omega) (fun x4 => ?_) c 1 (by omega) (by omega)
        · rw [Nat.sub_self, Int.pow_zero] at this
          exact this
        · rw [Nat.add_sub_cancel]
          refine mm_run_at (stop := [74]) (S := K) kkX5_words 90 ?_ (fun _ _ _ _ _ _ _ h => hK _ _ _ _ _ _ h)
          repeat' (first | with_reducible assumption | with_reducible exact mm_i17 | with_reducible exact mm_i18 | with_reducible exact mm_i19 | with_reducible exact mm_i20 | with_reducible exact mm_i21 | with_reducible exact mm_i22 | ((with_reducible show mm_rv _ _ _ _ _); first | exact True.intro | exact mm_i17 | exact mm_i18 | exact mm_i19 | exact mm_i20 | exact mm_i21 | exact mm_i22) | ((with_reducible show mm_bool _ _); first | exact True.intro | exact Or.inl rfl | exact Or.inr rfl | (show (_ : Int) = 0 ∨ _ = 1)) | refine And.intro ?_ ?_ | intro _ | with_reducible exact True.intro | exact rfl | with_reducible exact Or.inl rfl | with_reducible exact Or.inr rfl | exact Nat.le_of_ble_eq_true rfl)
          all_goals (try simp (disch := omega) only [InI, Int.toNat_natCast, Int.tmod_eq_emod_of_nonneg, Int.tdiv_eq_ediv_of_nonneg, true_implies, true_or, or_true, mm_l18, mm_l19, mm_l20, mm_l21, mm_l22] at *)
          all_goals first | omega | exact f9 (by omega) | exact k74 (by omega) _ (by assumption) | skip
      refine hK2 _ _ _ _ _ _ ?_
      refine mm_run_at (stop := [38]) (S := K) kkX5_words 90 ?_ (fun _ _ _ _ _ _ _ h => hK _ _ _ _ _ _ h)
      repeat' (first | with_reducible assumption | with_reducible exact mm_i17 | with_reducible exact mm_i18 | with_reducible exact mm_i19 | with_reducible exact mm_i20 | with_reducible exact mm_i21 | with_reducible exact mm_i22 | ((with_reducible show mm_rv _ _ _ _ _); first | exact True.intro | exact mm_i17 | exact mm_i18 | exact mm_i19 | exact mm_i20 | exact mm_i21 | exact mm_i22) | ((with_reducible show mm_bool _ _); first | exact True.intro | exact Or.inl rfl | exact Or.inr rfl | (show (_ : Int) = 0 ∨ _ = 1)) | refine And.intro ?_ ?_ | intro _ | with_reducible exact True.intro | exact rfl | with_reducible exact Or.inl rfl | with_reducible exact Or.inr rfl | exact Nat.le_of_ble_eq_true rfl)
      all_goals (try simp (disch := omega) only [InI, Int.toNat_natCast, Int.tmod_eq_emod_of_nonneg, Int.tdiv_eq_ediv_of_nonneg, true_implies, true_or, or_true, mm_l18, mm_l19, mm_l20, mm_l21, mm_l22] at *)
      all_goals first | omega | exact k38 | skip
    have hx1 : ¬ (2 ≤ a ∧ a ≤ 5 ∧ 1 ≤ b ∧ b ≤ 4) → ∀ v, v = 1 → Q (.inl (some (mm_I 0))) (mm_up M 17 0 v) d := fun h v hv => hq _ _ (xP_s ha) (xq1 (by omega) hv)
    clear hq
    refine ⟨Nat.le_of_ble_eq_true rfl, ?_⟩
    refine mm_run_at (stop := [33]) (S := K) kkX5_words 90 ?_ (fun _ _ _ _ _ _ _ h => hK _ _ _ _ _ _ h)
    repeat' (first | with_reducible assumption | with_reducible exact mm_i17 | with_reducible exact mm_i18 | with_reducible exact mm_i19 | with_reducible exact mm_i20 | with_reducible exact mm_i21 | with_reducible exact mm_i22 | ((with_reducible show mm_rv _ _ _ _ _); first | exact True.intro | exact mm_i17 | exact mm_i18 | exact mm_i19 | exact mm_i20 | exact mm_i21 | exact mm_i22) | ((with_reducible show mm_bool _ _); first | exact True.intro | exact Or.inl rfl | exact Or.inr rfl | (show (_ : Int) = 0 ∨ _ = 1)) | refine And.intro ?_ ?_ | intro _ | with_reducible exact True.intro | exact rfl | with_reducible exact Or.inl rfl | with_reducible exact Or.inr rfl | exact Nat.le_of_ble_eq_true rfl)
    all_goals (try simp (disch := omega) only [InI, Int.toNat_natCast, Int.tmod_eq_emod_of_nonneg, Int.tdiv_eq_ediv_of_nonneg, true_implies, true_or, or_true, mm_l18, mm_l19, mm_l20, mm_l21, mm_l22] at *)
    all_goals first | omega | exact hx1 (by omega) _ (by omega) | exact k33 _ (by omega) (by omega) (by omega) | skip
  · exact h.elim
theorem me_X5_words {l : Launch} (hl : l.stackTraces = false) : mm_Met l yX5_words cX5_words 5 (some .int) [] 8 144 0 sp_X5_words := mm_mt hl rn_X5_words ⟨plX5, rfl⟩ kkX5_words rfl ⟨Nat.le_of_ble_eq_true rfl, Nat.le_of_ble_eq_true rfl⟩ flkX5 (fun _ h => nomatch h) (⟨mm_pe (me_X5_isIn hl) mwX5_isIn (mm_t6 107 rfl rfl) (Nat.le_of_ble_eq_true rfl) (Nat.le_of_ble_eq_true rfl), mm_pe (me_X5_start hl) mwX5_start (mm_t6 110 rfl rfl) (Nat.le_of_ble_eq_true rfl) (Nat.le_of_ble_eq_true rfl), mm_pe (me_X5_cannot hl) mwX5_cannot (mm_t6 118 rfl rfl) (Nat.le_of_ble_eq_true rfl) (Nat.le_of_ble_eq_true rfl), mm_pe (me_X5_emptied hl) mwX5_emptied (mm_t6 142 rfl rfl) (Nat.le_of_ble_eq_true rfl) (Nat.le_of_ble_eq_true rfl), mm_pe (me_X5_laid hl) mwX5_laid (mm_t6 122 rfl rfl) (Nat.le_of_ble_eq_true rfl) (Nat.le_of_ble_eq_true rfl), mm_pe (me_X5_act hl) mwX5_act (mm_t6 130 rfl rfl) (Nat.le_of_ble_eq_true rfl) (Nat.le_of_ble_eq_true rfl), trivial⟩) (mm_xe0 _) n9X5

