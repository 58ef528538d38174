/-! the model: what is asked -/
theorem xA_n {M : mm_M} {x : Int} (h : xA M) : xP M (mm_up M 17 14 x) := ⟨fX.rf.up (by omega), by rw [vX_u14]; exact h.1.n (fr.rf.up (by simp)) (mm_up_ob2 (by omega)), by rw [mm_up_ob2 (by omega)]; exact h.2⟩
theorem xA_u {M : mm_M} {x : Int} (h : xA M) : xP M (mm_up M 17 15 x) := ⟨fX.rf.up (by omega), by rw [vX_u15]; exact h.1.n (fr.rf.up (by simp)) (mm_up_ob2 (by omega)), by rw [mm_up_ob2 (by omega)]; exact h.2⟩
theorem xS {M : mm_M} {v : Int} (h : xA M) : ∃ M1, mm_up M 17 0 v = M1 ∧ xA M1 ∧ xP M M1 ∧ (∀ j, j ≠ 0 → M1 17 j = M 17 j) ∧ (∀ o, o ≠ 17 → M1 o = M o) := ⟨_, rfl, h.s, xP_s h, fun j hj => mm_up_ob2 hj, fun o ho => mm_up_o _ ho⟩
theorem xA_b {M : mm_M} (h : xA M) : M 17 4 = 0 ∨ M 17 4 = 1 := h.t.2.2.1
theorem InI_l {x : Int} {M : mm_M} {k : Nat} (h : mV M k) (e : x = M 21 k) : InI x := by
  have := h.1
  exact ⟨by omega, by omega⟩
theorem xq1 {P R : Prop} {M : mm_M} {v : Int} (hn : ¬ P) (hv : v = 1) : ok1 P (vX M) (vX (mm_up M 17 0 v)) (mm_up M 17 0 v 17 0) R := Or.inl ⟨hn, by simp [mm_up, hv], SE.eq vX_u0⟩
theorem xq0 {P R : Prop} {M : mm_M} {v : Int} (h : P) (hv : v = 0) (g : R) : ok1 P (vX M) (vX (mm_up M 17 0 v)) (mm_up M 17 0 v 17 0) R := Or.inr ⟨h, by simp [mm_up, hv], g⟩
theorem xse {M : mm_M} {v : Int} : SE (vX M) (vX (mm_up M 17 0 v)) := SE.eq vX_u0
theorem x00 {M : mm_M} : mm_up M 17 0 0 17 0 = 0 := by simp [mm_up]
theorem wk_in {a : Int} (h : 0 ≤ a ∧ a ≤ 2) : iw a ∧ a.toNat < 3 ∧ a.toNat < 4 := ⟨⟨h.1, by omega⟩, by omega, by omega⟩
theorem vX_c0 {M : mm_M} (ha : xA M) : (vX M 16 1 ≠ 0 ↔ M 17 10 ≠ -1) ∧ (M 17 10 ≠ -1 → (vX M 16 1).toNat = 8 + 2 * (M 17 10).toNat ∧ (M 17 10).toNat < 3) := by
  have h := ha.2
  rw [vX_c1]
  by_cases e : M 17 10 = -1
  · rw [if_pos e]
    exact ⟨⟨fun h => absurd rfl h, fun h => absurd e h⟩, fun h => absurd e h⟩
  · rw [if_neg e]
    exact ⟨⟨fun _ => e, fun _ => by omega⟩, fun _ => by omega⟩
theorem hsX {M : mm_M} {f : Int} (ha : xA M) : (M 17 10 ≠ -1 ∧ M 17 13 = 0 ∧ (f ≠ 0 → M 17 11 < M 21 (M 17 10).toNat) ∧ (f = 0 → 0 < M 17 11)) ↔ hsP (vX M) f := by
  obtain ⟨h1, h2⟩ := vX_c0 ha
  unfold hsP
  rw [h1, vX_c2, vX_c4]
  by_cases e : M 17 10 = -1
  · exact ⟨fun h => absurd e h.1, fun h => absurd e h.1⟩
  · rw [(h2 e).1, vX_n (by have := (h2 e).2; omega)]
theorem paX {M : mm_M} {f : Int} (ha : xA M) : (if M 17 10 ≠ -1 ∧ M 17 13 = 0 then (if f = 0 then M 17 11 - 1 else M 17 11) else -2) = paF (vX M) f := by
  obtain ⟨h1, h2⟩ := vX_c0 ha
  unfold paF
  by_cases e : M 17 10 ≠ -1 ∧ M 17 13 = 0
  · rw [if_pos e, if_pos (show vX M 16 1 ≠ 0 ∧ vX M 16 4 = 0 from ⟨h1.mpr e.1, e.2⟩)]
    rfl
  · rw [if_neg e, if_neg (show ¬ (vX M 16 1 ≠ 0 ∧ vX M 16 4 = 0) from fun h => e ⟨h1.mp h.1, h.2⟩)]
theorem mm_up_170 {M : mm_M} {a b : Nat} {x : Int} (h : a ≠ 17) : mm_up M 17 b x a = M a := mm_up_o _ h
def sp_X5_end : mm_S := fun av M d Q => match av with
  | [.inr (.inr (.inl o)), .inl s, .inl f] =>  o = 17 ∧ xA M ∧ InI s ∧ (f = 0 ∨ f = 1) ∧ ∀ M' r, xP M M' → C_end s f (vX M) (vX M') (M' 17 0) r → Q (.inl (some (mm_I r))) M' d
  | _ => False
def ct_X5_end : List (Nat × mm_Ca) := [(162, (0, 2, 14, sp_X5_isNoStreet, 0)), (146, (0, 3, 14, sp_X5_start, 0))]
abbrev rr_X5_end (Q : mm_Q) := mm_run (mm_look flX5) (mm_look ct_X5_end) mm_x0 (mm_look ([] : List (Nat × Int))) (fun _ => none) 1 0 (fun _ _ => none) Q kdX5_end
set_option maxRecDepth 20000 in
theorem rn_X5_end : mm_RN flX5 ct_X5_end mm_x0 [] 1 0 3 kdX5_end sp_X5_end := by
  intro av M d Q h
  unfold sp_X5_end at h
  split at h
  · rename_i o s f
    obtain ⟨rfl, ha, h1, h2, hq⟩ := h
    have t1 := ha.t.1
    have q1 : ∀ v, v = 1 → ¬ (0 ≤ s ∧ s < M 17 1) → Q (.inl (some (mm_I 0))) (mm_up M 17 0 v) d := fun v hv hn => hq _ _ (xP_s ha) (xq1 hn hv)
    have q0 : ∀ v r, v = 0 → (0 ≤ s ∧ s < M 17 1) → r = (if f = 0 then M 18 s.toNat else M 19 s.toNat) → Q (.inl (some (mm_I r))) (mm_up M 17 0 v) d := fun v r hv hn e => hq _ _ (xP_s ha) (xq0 hn hv ⟨e, xse⟩)
    clear hq
    obtain ⟨K, hK, hK2⟩ : ∃ K : Nat → mm_K, (∀ t ls st M d u, K t ls st M d u → rr_X5_end Q t ls st M d u) ∧ (∀ t ls st M d u, rr_X5_end Q t ls st M d u → K t ls st M d u) := ⟨rr_X5_end Q, fun _ _ _ _ _ _ h => h, fun _ _ _ _ _ _ h => h⟩
    refine ⟨Nat.le_of_ble_eq_true rfl, mm_run_at (stop := []) (S := K) kkX5_end 90 ?_ (fun _ _ _ _ _ _ _ h => hK _ _ _ _ _ _ h)⟩
    repeat' (first | with_reducible assumption | with_reducible exact mm_i17 | with_reducible exact mm_i18 | with_reducible exact mm_i19 | with_reducible exact mm_i20 | with_reducible exact mm_i21 | with_reducible exact mm_i22 | ((with_reducible show mm_rv _ _ _ _ _); first | exact True.intro | exact mm_i17 | exact mm_i18 | exact mm_i19 | exact mm_i20 | exact mm_i21 | exact mm_i22 | ((with_reducible show tX _); exact ha.t)) | ((with_reducible show tX _); exact ha.t) | ((with_reducible show mm_bool _ _); first | exact True.intro | exact Or.inl rfl | exact Or.inr rfl | (show (_ : Int) = 0 ∨ _ = 1)) | refine And.intro ?_ ?_ | intro _ | with_reducible exact True.intro | exact rfl | with_reducible exact Or.inl rfl | with_reducible exact Or.inr rfl | exact Nat.le_of_ble_eq_true rfl)
    all_goals (try simp (disch := omega) only [mm_up_170, InI, Int.toNat_natCast, Int.tmod_eq_emod_of_nonneg, Int.tdiv_eq_ediv_of_nonneg, true_implies, true_or, or_true, mm_l18, mm_l19, mm_l20, mm_l21, mm_l22] at *)
    all_goals first | omega | exact q1 _ (by omega) (by omega) | exact q0 _ _ (by omega) (by omega) (by split <;> first | rfl | omega) | skip
  · exact h.elim
theorem me_X5_end {l : Launch} (hl : l.stackTraces = false) : mm_Met l yX5_end cX5_end 3 (some .int) [] 8 144 0 sp_X5_end := mm_mt hl rn_X5_end ⟨plX5, rfl⟩ kkX5_end rfl ⟨Nat.le_of_ble_eq_true rfl, Nat.le_of_ble_eq_true rfl⟩ flkX5 (fun _ h => nomatch h) (⟨mm_pe (me_X5_isNoStreet hl) mwX5_isNoStreet (mm_t6 150 rfl rfl) (Nat.le_of_ble_eq_true rfl) (Nat.le_of_ble_eq_true rfl), mm_pe (me_X5_start hl) mwX5_start (mm_t6 110 rfl rfl) (Nat.le_of_ble_eq_true rfl) (Nat.le_of_ble_eq_true rfl), trivial⟩) (mm_xe0 _) n9X5
def sp_X5_ways : mm_S := fun av M d Q => match av with
  | [.inr (.inr (.inl o)), .inl c, .inl x] =>  o = 17 ∧ xA M ∧ InI c ∧ InI x ∧ ∀ M' r, xP M M' → C_ways c x (vX M) (vX M') (M' 17 0) r → Q (.inl (some (mm_I r))) M' d
  | _ => False
def ct_X5_ways : List (Nat × mm_Ca) := [(143, (0, 2, 14, sp_X5_isNoCorner, 0)), (146, (0, 3, 14, sp_X5_start, 0)), (45, (1, 3, 0, sp_X5_isIn, 0)), (35, (0, 3, 14, sp_X5_refuse, 0)), (79, (0, 1, 14, sp_X5_all, 0)), (64, (0, 4, 14, sp_X5_waysOf, 0))]
abbrev rr_X5_ways (Q : mm_Q) := mm_run (mm_look flX5) (mm_look ct_X5_ways) mm_x0 (mm_look ([] : List (Nat × Int))) (fun _ => none) 1 0 (fun _ _ => none) Q kdX5_ways
set_option maxRecDepth 20000 in
theorem rn_X5_ways : mm_RN flX5 ct_X5_ways mm_x0 [] 1 0 3 kdX5_ways sp_X5_ways := by
  intro av M d Q h
  unfold sp_X5_ways at h
  split at h
  · rename_i o c x
    obtain ⟨rfl, ha, h1, h2, hq⟩ := h
    obtain ⟨K, hK, hK2⟩ : ∃ K : Nat → mm_K, (∀ t ls st M d u, K t ls st M d u → rr_X5_ways Q t ls st M d u) ∧ (∀ t ls st M d u, rr_X5_ways Q t ls st M d u → K t ls st M d u) := ⟨rr_X5_ways Q, fun _ _ _ _ _ _ h => h, fun _ _ _ _ _ _ h => h⟩
    have q1 : ∀ v, v = 1 → ¬ (0 ≤ c ∧ c ≤ 9) → Q (.inl (some (mm_I 0))) (mm_up M 17 0 v) d := fun v hv hn => hq _ _ (xP_s ha) (Or.inl ⟨fun h => by unfold ic at h; omega, by simp [mm_up, hv], xse⟩)
    have q2 : (0 ≤ c ∧ c ≤ 9) → ¬ (0 ≤ x ∧ x ≤ 2) → Q (.inl (some (mm_I 0))) (mm_up (mm_up M 17 0 0) 17 0 2) d := fun hc hn => hq _ _ ((xP_s ha).tr (xP_s ha.s)) (Or.inr (Or.inl ⟨⟨hc.1, by omega⟩, hn, by simp [mm_up], SE.eq (by rw [vX_u0, vX_u0])⟩))
    have q0 : (0 ≤ c ∧ c ≤ 9) → (0 ≤ x ∧ x ≤ 2) → ∀ r, (∃ al1 : Int, al1 = 2 ^ (mm_up M 17 0 0 17 1).toNat - 1 ∧ (x = 0 → r = oc (mm_up M 17 0 0 18) al1 c (mm_up M 17 0 0 17 1).toNat + oc (mm_up M 17 0 0 19) al1 c (mm_up M 17 0 0 17 1).toNat) ∧ (x = 1 → r = oc (mm_up M 17 0 0 18) al1 c (mm_up M 17 0 0 17 1).toNat) ∧ (x ≠ 0 → x ≠ 1 → r = oc (mm_up M 17 0 0 19) al1 c (mm_up M 17 0 0 17 1).toNat)) → Q (.inl (some (mm_I r))) (mm_up M 17 0 0) d := fun hc hx r ⟨al1, e0, e1, e2, e3⟩ => hq _ _ (xP_s ha) (Or.inr (Or.inr ⟨⟨hc.1, by omega⟩, hx, x00, by
      rw [e0] at e1 e2 e3
      by_cases x0 : x = 0
      · rw [if_pos x0]; exact e1 x0
      · by_cases x1 : x = 1
        · rw [if_neg x0, if_pos x1]; exact e2 x1
        · rw [if_neg x0, if_neg x1]; exact e3 x0 x1, xse⟩))
    clear hq
    have k39 : (0 ≤ c ∧ c ≤ 9) → (0 ≤ x ∧ x ≤ 2) → K 39 [some (mm_R 17), some (mm_I c), some (mm_I x)] [] (mm_up M 17 0 0) d 0 := by
      intro hc hx
      have q0 := q0 hc hx
      have ht := ha.s (v := 0) |>.t
      refine hK2 _ _ _ _ _ _ ?_
      refine mm_run_at (stop := []) (S := K) kkX5_ways 90 ?_ (fun _ _ _ _ _ _ _ h => hK _ _ _ _ _ _ h)
      have q0 : ∀ r al1 : Int, (al1 = 2 ^ (mm_up M 17 0 0 17 1).toNat - 1 ∧ 0 ≤ al1 ∧ al1 < 1073741824) → ((x = 0 → r = oc (mm_up M 17 0 0 18) al1 c (mm_up M 17 0 0 17 1).toNat + oc (mm_up M 17 0 0 19) al1 c (mm_up M 17 0 0 17 1).toNat) ∧ (x = 1 → r = oc (mm_up M 17 0 0 18) al1 c (mm_up M 17 0 0 17 1).toNat) ∧ (x ≠ 0 → x ≠ 1 → r = oc (mm_up M 17 0 0 19) al1 c (mm_up M 17 0 0 17 1).toNat) ∧ 0 ≤ r ∧ r ≤ 60) → Q (.inl (some (mm_I r))) (mm_up M 17 0 0) d := fun r al1 hr hr2 => q0 r ⟨al1, hr.1, hr2.1, hr2.2.1, hr2.2.2.1⟩
      repeat' (first | with_reducible assumption | with_reducible exact mm_i17 | with_reducible exact mm_i18 | with_reducible exact mm_i19 | with_reducible exact mm_i20 | with_reducible exact mm_i21 | with_reducible exact mm_i22 | ((with_reducible show mm_rv _ _ _ _ _); first | exact True.intro | exact mm_i17 | exact mm_i18 | exact mm_i19 | exact mm_i20 | exact mm_i21 | exact mm_i22) | ((with_reducible show mm_bool _ _); first | exact True.intro | exact Or.inl rfl | exact Or.inr rfl | (show (_ : Int) = 0 ∨ _ = 1)) | refine And.intro ?_ ?_ | intro _ | with_reducible exact True.intro | exact rfl | with_reducible exact Or.inl rfl | with_reducible exact Or.inr rfl | exact Nat.le_of_ble_eq_true rfl)
      all_goals (try simp (disch := omega) only [InI, Int.toNat_natCast, Int.tmod_eq_emod_of_nonneg, Int.tdiv_eq_ediv_of_nonneg, true_implies, true_or, or_true, mm_l18, mm_l19, mm_l20, mm_l21, mm_l22] at *)
      all_goals first | omega | exact q0 _ _ (by assumption) (by assumption) | skip
    have k33 : ∀ (v : Int) M' r, (v = 0 ∨ v = 1) → (0 ≤ c ∧ c ≤ 9 → v = 0) → (v = 0 → 0 ≤ c ∧ c ≤ 9) → v = 0 → ∀ f : Int, (f = 0 ∨ f = 1) → (f = 0 → 0 ≤ x ∧ x ≤ 2) → (f = 1 → ¬ (0 ≤ x ∧ x ≤ 2)) → (M' = if f = 1 ∧ mm_up M 17 0 v 17 0 = 0 then mm_up (mm_up M 17 0 v) 17 0 2 else mm_up M 17 0 v) ∧ (0 < M' 17 0 → r = 1) ∧ (M' 17 0 ≤ 0 → r = 0) → K 32 [some (mm_R 17), some (mm_I c), some (mm_I x)] [mm_I r] M' d 0 := by
      intro v M' r hv hc hc2 hv0 f hf hf0 hf1 ⟨g1, g2, g3⟩
      subst hv0
      have hcc := hc2 rfl
      by_cases e : f = 1
      · rw [if_pos ⟨e, x00⟩] at g1
        have q2 := q2 hcc (hf1 e)
        have hr : r = 1 := g2 (by rw [g1]; simp [mm_up])
        subst g1
        subst hr
        refine hK2 _ _ _ _ _ _ ?_
        refine mm_run_at (stop := [39]) (S := K) kkX5_ways 90 ?_ (fun _ _ _ _ _ _ _ h => hK _ _ _ _ _ _ h)
        repeat' (first | with_reducible assumption | with_reducible exact mm_i17 | with_reducible exact mm_i18 | with_reducible exact mm_i19 | with_reducible exact mm_i20 | with_reducible exact mm_i21 | with_reducible exact mm_i22 | ((with_reducible show mm_rv _ _ _ _ _); first | exact True.intro | exact mm_i17 | exact mm_i18 | exact mm_i19 | exact mm_i20 | exact mm_i21 | exact mm_i22) | ((with_reducible show mm_bool _ _); first | exact True.intro | exact Or.inl rfl | exact Or.inr rfl | (show (_ : Int) = 0 ∨ _ = 1)) | refine And.intro ?_ ?_ | intro _ | with_reducible exact True.intro | exact rfl | with_reducible exact Or.inl rfl | with_reducible exact Or.inr rfl | exact Nat.le_of_ble_eq_true rfl)
        all_goals (try simp (disch := omega) only [InI, Int.toNat_natCast, Int.tmod_eq_emod_of_nonneg, Int.tdiv_eq_ediv_of_nonneg, true_implies, true_or, or_true, mm_l18, mm_l19, mm_l20, mm_l21, mm_l22] at *)
        all_goals first | omega | exact q2 | skip
      · rw [if_neg (fun h => e h.1)] at g1
        have k39 := k39 hcc (hf0 (by omega))
        have hr : r = 0 := g3 (by rw [g1, x00]; exact Int.le_refl _)
        subst g1
        subst hr
        refine hK2 _ _ _ _ _ _ ?_
        refine mm_run_at (stop := [39]) (S := K) kkX5_ways 90 ?_ (fun _ _ _ _ _ _ _ h => hK _ _ _ _ _ _ h)
        repeat' (first | with_reducible assumption | with_reducible exact mm_i17 | with_reducible exact mm_i18 | with_reducible exact mm_i19 | with_reducible exact mm_i20 | with_reducible exact mm_i21 | with_reducible exact mm_i22 | ((with_reducible show mm_rv _ _ _ _ _); first | exact True.intro | exact mm_i17 | exact mm_i18 | exact mm_i19 | exact mm_i20 | exact mm_i21 | exact mm_i22) | ((with_reducible show mm_bool _ _); first | exact True.intro | exact Or.inl rfl | exact Or.inr rfl | (show (_ : Int) = 0 ∨ _ = 1)) | refine And.intro ?_ ?_ | intro _ | with_reducible exact True.intro | exact rfl | with_reducible exact Or.inl rfl | with_reducible exact Or.inr rfl | exact Nat.le_of_ble_eq_true rfl)
        all_goals (try simp (disch := omega) only [InI, Int.toNat_natCast, Int.tmod_eq_emod_of_nonneg, Int.tdiv_eq_ediv_of_nonneg, true_implies, true_or, or_true, mm_l18, mm_l19, mm_l20, mm_l21, mm_l22] at *)
        all_goals first | omega | exact k39 | skip
    have k28 : ∀ v : Int, (v = 0 ∨ v = 1) → (0 ≤ c ∧ c ≤ 9 → v = 0) → (v = 0 → 0 ≤ c ∧ c ≤ 9) → v = 0 → ∀ f : Int, (f = 0 ∨ f = 1) → (f = 0 → 0 ≤ x ∧ x ≤ 2) → (f = 1 → ¬ (0 ≤ x ∧ x ≤ 2)) → K 28 [some (mm_R 17), some (mm_I c), some (mm_I x)] [mm_I f, mm_R 17] (mm_up M 17 0 v) d 0 := by
      intro v hv hc hc2 hv0 f hf hf0 hf1
      have e0 : mm_up M 17 0 v 17 0 = v := by simp [mm_up]
      refine hK2 _ _ _ _ _ _ ?_
      refine mm_run_at (stop := [32]) (S := K) kkX5_ways 90 ?_ (fun _ _ _ _ _ _ _ h => hK _ _ _ _ _ _ h)
      exact mm_c5 rfl (Nat.le_of_ble_eq_true rfl) (by exact mm_i17) (Nat.le_of_ble_eq_true rfl) (Nat.le_of_ble_eq_true rfl) (mm_a5 rfl hf (by rw [e0]; exact ⟨by omega, by omega⟩) ⟨by omega, by omega⟩ (fun M' r hr => k33 v M' r hv hc hc2 hv0 f hf hf0 hf1 hr))
    refine ⟨Nat.le_of_ble_eq_true rfl, ?_⟩
    refine mm_run_at (stop := [28]) (S := K) kkX5_ways 90 ?_ (fun _ _ _ _ _ _ _ h => hK _ _ _ _ _ _ h)
    repeat' (first | with_reducible assumption | with_reducible exact mm_i17 | with_reducible exact mm_i18 | with_reducible exact mm_i19 | with_reducible exact mm_i20 | with_reducible exact mm_i21 | with_reducible exact mm_i22 | ((with_reducible show mm_rv _ _ _ _ _); first | exact True.intro | exact mm_i17 | exact mm_i18 | exact mm_i19 | exact mm_i20 | exact mm_i21 | exact mm_i22) | ((with_reducible show mm_bool _ _); first | exact True.intro | exact Or.inl rfl | exact Or.inr rfl | (show (_ : Int) = 0 ∨ _ = 1)) | refine And.intro ?_ ?_ | intro _ | with_reducible exact True.intro | exact rfl | with_reducible exact Or.inl rfl | with_reducible exact Or.inr rfl | exact Nat.le_of_ble_eq_true rfl)
    all_goals (try simp (disch := omega) only [InI, Int.toNat_natCast, Int.tmod_eq_emod_of_nonneg, Int.tdiv_eq_ediv_of_nonneg, true_implies, true_or, or_true, mm_l18, mm_l19, mm_l20, mm_l21, mm_l22] at *)
    all_goals first | omega | exact q1 _ (by omega) (by omega) | exact k28 _ (by omega) (by omega) (by omega) (by omega) _ (by omega) (by omega) (by omega) | skip
  · exact h.elim
theorem me_X5_ways {l : Launch} (hl : l.stackTraces = false) : mm_Met l yX5_ways cX5_ways 3 (some .int) [] 8 147 0 sp_X5_ways := mm_mt hl rn_X5_ways ⟨plX5, rfl⟩ kkX5_ways rfl ⟨Nat.le_of_ble_eq_true rfl, Nat.le_of_ble_eq_true rfl⟩ flkX5 (fun _ h => nomatch h) (⟨mm_pe (me_X5_isNoCorner hl) mwX5_isNoCorner (mm_t6 103 rfl rfl) (Nat.le_of_ble_eq_true rfl) (Nat.le_of_ble_eq_true rfl), mm_pe (me_X5_start hl) mwX5_start (mm_t6 110 rfl rfl) (Nat.le_of_ble_eq_true rfl) (Nat.le_of_ble_eq_true rfl), mm_pe (me_X5_isIn hl) mwX5_isIn (mm_t6 107 rfl rfl) (Nat.le_of_ble_eq_true rfl) (Nat.le_of_ble_eq_true rfl), mm_pe (me_X5_refuse hl) mwX5_refuse (mm_t6 114 rfl rfl) (Nat.le_of_ble_eq_true rfl) (Nat.le_of_ble_eq_true rfl), mm_pe (me_X5_all hl) mwX5_all (mm_t6 213 rfl rfl) (Nat.le_of_ble_eq_true rfl) (Nat.le_of_ble_eq_true rfl), mm_pe (me_X5_waysOf hl) mwX5_waysOf (mm_t6 217 rfl rfl) (Nat.le_of_ble_eq_true rfl) (Nat.le_of_ble_eq_true rfl), trivial⟩) (mm_xe0 _) n9X5
def sp_X5_odd : mm_S := fun av M d Q => match av with
  | [.inr (.inr (.inl o))] =>  o = 17 ∧ xA M ∧ ∀ M' r, xP M M' → C_odd (vX M) (vX M') (M' 17 0) r → Q (.inl (some (mm_I r))) M' d
  | _ => False
def ct_X5_odd : List (Nat × mm_Ca) := [(79, (0, 1, 14, sp_X5_all, 0)), (75, (0, 2, 14, sp_X5_oddOf, 0))]
abbrev rr_X5_odd (Q : mm_Q) := mm_run (mm_look flX5) (mm_look ct_X5_odd) mm_x0 (mm_look ([] : List (Nat × Int))) (fun _ => none) 1 0 (fun _ _ => none) Q kdX5_odd
set_option maxRecDepth 20000 in
theorem rn_X5_odd : mm_RN flX5 ct_X5_odd mm_x0 [] 1 0 1 kdX5_odd sp_X5_odd := by
  intro av M d Q h
  unfold sp_X5_odd at h
  split at h
  · rename_i o
    obtain ⟨rfl, ha, hq⟩ := h
    have ht := ha.s (v := 0) |>.t
    have q0 : ∀ (all r : Int), all = 2 ^ (mm_up M 17 0 0 17 1).toNat - 1 → r = odn (mm_up M 17 0 0 18) (mm_up M 17 0 0 19) (mm_up M 17 0 0 17 1).toNat (mm_up M 17 0 0 17 4) all 10 → Q (.inl (some (mm_I r))) (mm_up M 17 0 0) d := fun all r e1 e2 => hq _ _ (xP_s ha) ⟨x00, by rw [e2, e1]; rfl, xse⟩
    clear hq
    obtain ⟨K, hK, hK2⟩ : ∃ K : Nat → mm_K, (∀ t ls st M d u, K t ls st M d u → rr_X5_odd Q t ls st M d u) ∧ (∀ t ls st M d u, rr_X5_odd Q t ls st M d u → K t ls st M d u) := ⟨rr_X5_odd Q, fun _ _ _ _ _ _ h => h, fun _ _ _ _ _ _ h => h⟩
    refine ⟨Nat.le_of_ble_eq_true rfl, mm_run_at (stop := []) (S := K) kkX5_odd 90 ?_ (fun _ _ _ _ _ _ _ h => hK _ _ _ _ _ _ h)⟩
    repeat' (first | with_reducible assumption | with_reducible exact mm_i17 | with_reducible exact mm_i18 | with_reducible exact mm_i19 | with_reducible exact mm_i20 | with_reducible exact mm_i21 | with_reducible exact mm_i22 | ((with_reducible show mm_rv _ _ _ _ _); first | exact True.intro | exact mm_i17 | exact mm_i18 | exact mm_i19 | exact mm_i20 | exact mm_i21 | exact mm_i22) | ((with_reducible show mm_bool _ _); first | exact True.intro | exact Or.inl rfl | exact Or.inr rfl | (show (_ : Int) = 0 ∨ _ = 1)) | refine And.intro ?_ ?_ | intro _ | with_reducible exact True.intro | exact rfl | with_reducible exact Or.inl rfl | with_reducible exact Or.inr rfl | exact Nat.le_of_ble_eq_true rfl)
    all_goals (try simp (disch := omega) only [InI, Int.toNat_natCast, Int.tmod_eq_emod_of_nonneg, Int.tdiv_eq_ediv_of_nonneg, true_implies, true_or, or_true, mm_l18, mm_l19, mm_l20, mm_l21, mm_l22] at *)
    all_goals first | omega | exact q0 _ _ (And.left (by assumption)) (And.left (by assumption)) | skip
  · exact h.elim
theorem me_X5_odd {l : Launch} (hl : l.stackTraces = false) : mm_Met l yX5_odd cX5_odd 1 (some .int) [] 10 192 0 sp_X5_odd := mm_mt hl rn_X5_odd ⟨plX5, rfl⟩ kkX5_odd rfl ⟨Nat.le_of_ble_eq_true rfl, Nat.le_of_ble_eq_true rfl⟩ flkX5 (fun _ h => nomatch h) (⟨mm_pe (me_X5_all hl) mwX5_all (mm_t6 213 rfl rfl) (Nat.le_of_ble_eq_true rfl) (Nat.le_of_ble_eq_true rfl), mm_pe (me_X5_oddOf hl) mwX5_oddOf (mm_t6 228 rfl rfl) (Nat.le_of_ble_eq_true rfl) (Nat.le_of_ble_eq_true rfl), trivial⟩) (mm_xe0 _) n9X5
def sp_X5_hangs : mm_S := fun av M d Q => match av with
  | [.inr (.inr (.inl o))] =>  o = 17 ∧ xA M ∧ ∀ M' r, xP M M' → C_hangs (vX M) (vX M') (M' 17 0) r → Q (.inl (some (mm_I r))) M' d
  | _ => False
def ct_X5_hangs : List (Nat × mm_Ca) := [(79, (0, 1, 14, sp_X5_all, 0)), (71, (0, 2, 14, sp_X5_hang, 0))]
abbrev rr_X5_hangs (Q : mm_Q) := mm_run (mm_look flX5) (mm_look ct_X5_hangs) mm_x0 (mm_look ([] : List (Nat × Int))) (fun _ => none) 2 0 (fun _ _ => none) Q kdX5_hangs
set_option maxRecDepth 20000 in
theorem rn_X5_hangs : mm_RN flX5 ct_X5_hangs mm_x0 [] 2 0 1 kdX5_hangs sp_X5_hangs := by
  intro av M d Q h
  unfold sp_X5_hangs at h
  split at h
  · rename_i o
    obtain ⟨rfl, ha, hq⟩ := h
    have ht := ha.s (v := 0) |>.t
    have hs := all_sub (n := (mm_up M 17 0 0 17 1).toNat)
    have q0 : ∀ r, b01 (HG (vX M 3) (vX M 4) (vX M 2 4).toNat (al (vX M))) r → Q (.inl (some (mm_I r))) (mm_up M 17 0 0) d := fun r h => hq _ r (xP_s (v := 0) ha) ⟨x00, h, xse⟩
    clear hq
    obtain ⟨K, hK, hK2⟩ : ∃ K : Nat → mm_K, (∀ t ls st M d u, K t ls st M d u → rr_X5_hangs Q t ls st M d u) ∧ (∀ t ls st M d u, rr_X5_hangs Q t ls st M d u → K t ls st M d u) := ⟨rr_X5_hangs Q, fun _ _ _ _ _ _ h => h, fun _ _ _ _ _ _ h => h⟩
    refine ⟨Nat.le_of_ble_eq_true rfl, mm_run_at (stop := []) (S := K) kkX5_hangs 90 ?_ (fun _ _ _ _ _ _ _ h => hK _ _ _ _ _ _ h)⟩
    refine mm_a2 (by exact mm_i17) (mm_c5 rfl (Nat.le_of_ble_eq_true rfl) (by exact mm_i17) (Nat.le_of_ble_eq_true rfl) (Nat.le_of_ble_eq_true rfl) (mm_a3 rfl ht (fun r hr => ?_)))
    exact mm_c5 rfl (Nat.le_of_ble_eq_true rfl) (by exact mm_i17) (Nat.le_of_ble_eq_true rfl) (Nat.le_of_ble_eq_true rfl) (mm_a5 rfl ht hr.2 (by rw [hr.1]; exact hs) (fun r2 hr2 => mm_a3 (in01 hr2) (Nat.le_refl _) (q0 r2 (by rw [hr.1] at hr2; exact b01.of hr2))))
  · exact h.elim
theorem me_X5_hangs {l : Launch} (hl : l.stackTraces = false) : mm_Met l yX5_hangs cX5_hangs 1 (some .boolean) [] 8 146 0 sp_X5_hangs := mm_mt hl rn_X5_hangs ⟨plX5, rfl⟩ kkX5_hangs rfl ⟨Nat.le_of_ble_eq_true rfl, Nat.le_of_ble_eq_true rfl⟩ flkX5 (fun _ h => nomatch h) (⟨mm_pe (me_X5_all hl) mwX5_all (mm_t6 213 rfl rfl) (Nat.le_of_ble_eq_true rfl) (Nat.le_of_ble_eq_true rfl), mm_pe (me_X5_hang hl) mwX5_hang (mm_t7 0 rfl rfl) (Nat.le_of_ble_eq_true rfl) (Nat.le_of_ble_eq_true rfl), trivial⟩) (mm_xe0 _) n9X5
def sp_X5_kind : mm_S := fun av M d Q => match av with
  | [.inr (.inr (.inl o))] =>  o = 17 ∧ xA M ∧ ∀ M' r, xP M M' → C_kind (vX M) (vX M') (M' 17 0) r → Q (.inl (some (mm_I r))) M' d
  | _ => False
def ct_X5_kind : List (Nat × mm_Ca) := [(172, (0, 1, 14, sp_X5_kindOf, 0))]
abbrev rr_X5_kind (Q : mm_Q) := mm_run (mm_look flX5) (mm_look ct_X5_kind) mm_x0 (mm_look ([] : List (Nat × Int))) (fun _ => none) 1 0 (fun _ _ => none) Q kdX5_kind
set_option maxRecDepth 20000 in
theorem rn_X5_kind : mm_RN flX5 ct_X5_kind mm_x0 [] 1 0 1 kdX5_kind sp_X5_kind := by
  intro av M d Q h
  unfold sp_X5_kind at h
  split at h
  · rename_i o
    obtain ⟨rfl, ha, hq⟩ := h
    have ht := ha.s (v := 0) |>.t
    have q0 : ∀ r, kdR (vX M 3) (vX M 4) (vX M 2 4).toNat (vX M 2 5) r → Q (.inl (some (mm_I r))) (mm_up M 17 0 0) d := fun r h => hq _ r (xP_s (v := 0) ha) ⟨x00, h, xse⟩
    clear hq
    obtain ⟨K, hK, hK2⟩ : ∃ K : Nat → mm_K, (∀ t ls st M d u, K t ls st M d u → rr_X5_kind Q t ls st M d u) ∧ (∀ t ls st M d u, rr_X5_kind Q t ls st M d u → K t ls st M d u) := ⟨rr_X5_kind Q, fun _ _ _ _ _ _ h => h, fun _ _ _ _ _ _ h => h⟩
    refine ⟨Nat.le_of_ble_eq_true rfl, mm_run_at (stop := []) (S := K) kkX5_kind 90 ?_ (fun _ _ _ _ _ _ _ h => hK _ _ _ _ _ _ h)⟩
    repeat' (first | with_reducible assumption | with_reducible exact mm_i17 | with_reducible exact mm_i18 | with_reducible exact mm_i19 | with_reducible exact mm_i20 | with_reducible exact mm_i21 | with_reducible exact mm_i22 | ((with_reducible show mm_rv _ _ _ _ _); first | exact True.intro | exact mm_i17 | exact mm_i18 | exact mm_i19 | exact mm_i20 | exact mm_i21 | exact mm_i22) | ((with_reducible show mm_bool _ _); first | exact True.intro | exact Or.inl rfl | exact Or.inr rfl | (show (_ : Int) = 0 ∨ _ = 1)) | refine And.intro ?_ ?_ | intro _ | with_reducible exact True.intro | exact rfl | with_reducible exact Or.inl rfl | with_reducible exact Or.inr rfl | exact Nat.le_of_ble_eq_true rfl)
    all_goals (try simp (disch := omega) only [InI, Int.toNat_natCast, Int.tmod_eq_emod_of_nonneg, Int.tdiv_eq_ediv_of_nonneg, true_implies, true_or, or_true, mm_l18, mm_l19, mm_l20, mm_l21, mm_l22] at *)
    all_goals first | omega | exact q0 _ (by assumption) | skip
  · exact h.elim
theorem me_X5_kind {l : Launch} (hl : l.stackTraces = false) : mm_Met l yX5_kind cX5_kind 1 (some .int) [] 13 256 0 sp_X5_kind := mm_mt hl rn_X5_kind ⟨plX5, rfl⟩ kkX5_kind rfl ⟨Nat.le_of_ble_eq_true rfl, Nat.le_of_ble_eq_true rfl⟩ flkX5 (fun _ h => nomatch h) (⟨mm_pe (me_X5_kindOf hl) mwX5_kindOf (mm_t7 8 rfl rfl) (Nat.le_of_ble_eq_true rfl) (Nat.le_of_ble_eq_true rfl), trivial⟩) (mm_xe0 _) n9X5
def sp_X5_isStart : mm_S := fun av M d Q => match av with
  | [.inr (.inr (.inl o)), .inl c] =>  o = 17 ∧ xA M ∧ InI c ∧ ∀ M' r, xP M M' → C_isStart c (vX M) (vX M') (M' 17 0) r → Q (.inl (some (mm_I r))) M' d
  | _ => False
def ct_X5_isStart : List (Nat × mm_Ca) := [(143, (0, 2, 14, sp_X5_isNoCorner, 0)), (146, (0, 3, 14, sp_X5_start, 0)), (79, (0, 1, 14, sp_X5_all, 0)), (83, (0, 3, 14, sp_X5_isStartOf, 0))]
abbrev rr_X5_isStart (Q : mm_Q) := mm_run (mm_look flX5) (mm_look ct_X5_isStart) mm_x0 (mm_look ([] : List (Nat × Int))) (fun _ => none) 2 0 (fun _ _ => none) Q kdX5_isStart
set_option maxRecDepth 20000 in
theorem rn_X5_isStart : mm_RN flX5 ct_X5_isStart mm_x0 [] 2 0 2 kdX5_isStart sp_X5_isStart := by
  intro av M d Q h
  unfold sp_X5_isStart at h
  split at h
  · rename_i o c
    obtain ⟨rfl, ha, h1, hq⟩ := h
    obtain ⟨K, hK, hK2⟩ : ∃ K : Nat → mm_K, (∀ t ls st M d u, K t ls st M d u → rr_X5_isStart Q t ls st M d u) ∧ (∀ t ls st M d u, rr_X5_isStart Q t ls st M d u → K t ls st M d u) := ⟨rr_X5_isStart Q, fun _ _ _ _ _ _ h => h, fun _ _ _ _ _ _ h => h⟩
    have q1 : ∀ v, v = 1 → ¬ ic c → Q (.inl (some (mm_I 0))) (mm_up M 17 0 v) d := fun v hv hn => hq _ _ (xP_s ha) (xq1 hn hv)
    have q0 : ∀ v r, v = 0 → ic c → b01 (STV (vX M) (al (vX M)) c) r → Q (.inl (some (mm_I r))) (mm_up M 17 0 v) d := fun v r hv hn e => hq _ _ (xP_s ha) (xq0 hn hv ⟨e, xse⟩)
    clear hq
    have k13 : ∀ v, v = 0 → (0 ≤ c ∧ c ≤ 9) → K 13 [some (mm_R 17), some (mm_I c)] [] (mm_up M 17 0 v) d 0 := by
      intro v hv hc
      have ht := ha.s (v := v) |>.t
      have hs := all_sub (n := (mm_up M 17 0 v 17 1).toNat)
      have q0 := fun r => q0 v r hv ⟨hc.1, by omega⟩
      have k22 : ∀ r, (r = 0 ∨ r = 1) → b01 (STV (vX M) (al (vX M)) c) r → K 22 [some (mm_R 17), some (mm_I c)] [mm_I r] (mm_up M 17 0 v) d 0 := by
        intro r hr hb
        have q0 := q0 r hb
        refine hK2 _ _ _ _ _ _ ?_
        refine mm_run_at (stop := []) (S := K) kkX5_isStart 90 ?_ (fun _ _ _ _ _ _ _ h => hK _ _ _ _ _ _ h)
        repeat' (first | with_reducible assumption | with_reducible exact mm_i17 | with_reducible exact mm_i18 | with_reducible exact mm_i19 | with_reducible exact mm_i20 | with_reducible exact mm_i21 | with_reducible exact mm_i22 | ((with_reducible show mm_rv _ _ _ _ _); first | exact True.intro | exact mm_i17 | exact mm_i18 | exact mm_i19 | exact mm_i20 | exact mm_i21 | exact mm_i22) | ((with_reducible show mm_bool _ _); first | exact True.intro | exact Or.inl rfl | exact Or.inr rfl | (show (_ : Int) = 0 ∨ _ = 1)) | refine And.intro ?_ ?_ | intro _ | with_reducible exact True.intro | exact rfl | with_reducible exact Or.inl rfl | with_reducible exact Or.inr rfl | exact Nat.le_of_ble_eq_true rfl)
        all_goals (try simp (disch := omega) only [InI, Int.toNat_natCast, Int.tmod_eq_emod_of_nonneg, Int.tdiv_eq_ediv_of_nonneg, true_implies, true_or, or_true, mm_l18, mm_l19, mm_l20, mm_l21, mm_l22] at *)
        all_goals first | omega | exact q0 | (have q0' := q0; rw [show r = 0 by omega] at q0'; exact q0') | (have q0' := q0; rw [show r = 1 by omega] at q0'; exact q0') | skip
      refine hK2 _ _ _ _ _ _ ?_
      refine mm_run_at (stop := [22]) (S := K) kkX5_isStart 90 ?_ (fun _ _ _ _ _ _ _ h => hK _ _ _ _ _ _ h)
      refine mm_c5 rfl (Nat.le_of_ble_eq_true rfl) (by exact mm_i17) (Nat.le_of_ble_eq_true rfl) (Nat.le_of_ble_eq_true rfl) (mm_a3 rfl ht (fun r hr => ?_))
      exact mm_c5 rfl (Nat.le_of_ble_eq_true rfl) (by exact mm_i17) (Nat.le_of_ble_eq_true rfl) (Nat.le_of_ble_eq_true rfl) (mm_a6 rfl ht hr.2 (by rw [hr.1]; exact hs) h1 (fun r2 hr2 => k22 r2 (in01 hr2) (by rw [hr.1] at hr2; exact b01.of hr2)))
    refine ⟨Nat.le_of_ble_eq_true rfl, ?_⟩
    refine mm_run_at (stop := [13]) (S := K) kkX5_isStart 90 ?_ (fun _ _ _ _ _ _ _ h => hK _ _ _ _ _ _ h)
    repeat' (first | with_reducible assumption | with_reducible exact mm_i17 | with_reducible exact mm_i18 | with_reducible exact mm_i19 | with_reducible exact mm_i20 | with_reducible exact mm_i21 | with_reducible exact mm_i22 | ((with_reducible show mm_rv _ _ _ _ _); first | exact True.intro | exact mm_i17 | exact mm_i18 | exact mm_i19 | exact mm_i20 | exact mm_i21 | exact mm_i22) | ((with_reducible show mm_bool _ _); first | exact True.intro | exact Or.inl rfl | exact Or.inr rfl | (show (_ : Int) = 0 ∨ _ = 1)) | refine And.intro ?_ ?_ | intro _ | with_reducible exact True.intro | exact rfl | with_reducible exact Or.inl rfl | with_reducible exact Or.inr rfl | exact Nat.le_of_ble_eq_true rfl)
    all_goals (try simp (disch := omega) only [InI, Int.toNat_natCast, Int.tmod_eq_emod_of_nonneg, Int.tdiv_eq_ediv_of_nonneg, true_implies, true_or, or_true, mm_l18, mm_l19, mm_l20, mm_l21, mm_l22] at *)
    all_goals first | omega | exact q1 _ (by omega) (by unfold ic; omega) | exact k13 _ (by omega) (by omega) | skip
  · exact h.elim
theorem me_X5_isStart {l : Launch} (hl : l.stackTraces = false) : mm_Met l yX5_isStart cX5_isStart 2 (some .boolean) [] 11 215 0 sp_X5_isStart := mm_mt hl rn_X5_isStart ⟨plX5, rfl⟩ kkX5_isStart rfl ⟨Nat.le_of_ble_eq_true rfl, Nat.le_of_ble_eq_true rfl⟩ flkX5 (fun _ h => nomatch h) (⟨mm_pe (me_X5_isNoCorner hl) mwX5_isNoCorner (mm_t6 103 rfl rfl) (Nat.le_of_ble_eq_true rfl) (Nat.le_of_ble_eq_true rfl), mm_pe (me_X5_start hl) mwX5_start (mm_t6 110 rfl rfl) (Nat.le_of_ble_eq_true rfl) (Nat.le_of_ble_eq_true rfl), mm_pe (me_X5_all hl) mwX5_all (mm_t6 213 rfl rfl) (Nat.le_of_ble_eq_true rfl) (Nat.le_of_ble_eq_true rfl), mm_pe (me_X5_isStartOf hl) mwX5_isStartOf (mm_t7 16 rfl rfl) (Nat.le_of_ble_eq_true rfl) (Nat.le_of_ble_eq_true rfl), trivial⟩) (mm_xe0 _) n9X5
def sp_X5_rule : mm_S := fun av M d Q => match av with
  | [.inr (.inr (.inl o)), .inl c] =>  o = 17 ∧ xA M ∧ InI c ∧ ∀ M' r, xP M M' → C_rule c (vX M) (vX M') (M' 17 0) r → Q (.inl (some (mm_I r))) M' d
  | _ => False
def ct_X5_rule : List (Nat × mm_Ca) := [(45, (1, 3, 0, sp_X5_isIn, 0)), (146, (0, 3, 14, sp_X5_start, 0)), (175, (0, 2, 14, sp_X5_ruleOf, 0))]
abbrev rr_X5_rule (Q : mm_Q) := mm_run (mm_look flX5) (mm_look ct_X5_rule) mm_x0 (mm_look ([] : List (Nat × Int))) (fun _ => none) 1 0 (fun _ _ => none) Q kdX5_rule
set_option maxRecDepth 20000 in
theorem rn_X5_rule : mm_RN flX5 ct_X5_rule mm_x0 [] 1 0 2 kdX5_rule sp_X5_rule := by
  intro av M d Q h
  unfold sp_X5_rule at h
  split at h
  · rename_i o c
    obtain ⟨rfl, ha, h1, hq⟩ := h
    have hb := xA_b ha
    have q1 : ∀ v, v = 1 → ¬ (0 ≤ c ∧ c ≤ 2) → Q (.inl (some (mm_I 0))) (mm_up M 17 0 v) d := fun v hv hn => hq _ _ (xP_s ha) (xq1 hn hv)
    have q0 : ∀ v r, v = 0 → (0 ≤ c ∧ c ≤ 2) → r = (if c = 0 then M 17 5 else if c = 1 then M 17 6 else M 17 4) → Q (.inl (some (mm_I r))) (mm_up M 17 0 v) d := fun v r hv hn e => hq _ _ (xP_s ha) (xq0 hn hv ⟨e, xse⟩)
    clear hq
    obtain ⟨K, hK, hK2⟩ : ∃ K : Nat → mm_K, (∀ t ls st M d u, K t ls st M d u → rr_X5_rule Q t ls st M d u) ∧ (∀ t ls st M d u, rr_X5_rule Q t ls st M d u → K t ls st M d u) := ⟨rr_X5_rule Q, fun _ _ _ _ _ _ h => h, fun _ _ _ _ _ _ h => h⟩
    refine ⟨Nat.le_of_ble_eq_true rfl, mm_run_at (stop := []) (S := K) kkX5_rule 90 ?_ (fun _ _ _ _ _ _ _ h => hK _ _ _ _ _ _ h)⟩
    repeat' (first | with_reducible assumption | with_reducible exact mm_i17 | with_reducible exact mm_i18 | with_reducible exact mm_i19 | with_reducible exact mm_i20 | with_reducible exact mm_i21 | with_reducible exact mm_i22 | ((with_reducible show mm_rv _ _ _ _ _); first | exact True.intro | exact mm_i17 | exact mm_i18 | exact mm_i19 | exact mm_i20 | exact mm_i21 | exact mm_i22) | ((with_reducible show mm_bool _ _); first | exact True.intro | exact Or.inl rfl | exact Or.inr rfl | (show (_ : Int) = 0 ∨ _ = 1)) | refine And.intro ?_ ?_ | intro _ | with_reducible exact True.intro | exact rfl | with_reducible exact Or.inl rfl | with_reducible exact Or.inr rfl | exact Nat.le_of_ble_eq_true rfl)
    all_goals (try simp (disch := omega) only [mm_up_ob2, InI, Int.toNat_natCast, Int.tmod_eq_emod_of_nonneg, Int.tdiv_eq_ediv_of_nonneg, true_implies, true_or, or_true, mm_l18, mm_l19, mm_l20, mm_l21, mm_l22] at *)
    all_goals first | omega | exact q1 _ (by omega) (by omega) | exact q0 _ _ (by omega) (by omega) (by simp [mm_up_ob2]) | skip
  · exact h.elim
theorem me_X5_rule {l : Launch} (hl : l.stackTraces = false) : mm_Met l yX5_rule cX5_rule 2 (some .int) [] 8 144 0 sp_X5_rule := mm_mt hl rn_X5_rule ⟨plX5, rfl⟩ kkX5_rule rfl ⟨Nat.le_of_ble_eq_true rfl, Nat.le_of_ble_eq_true rfl⟩ flkX5 (fun _ h => nomatch h) (⟨mm_pe (me_X5_isIn hl) mwX5_isIn (mm_t6 107 rfl rfl) (Nat.le_of_ble_eq_true rfl) (Nat.le_of_ble_eq_true rfl), mm_pe (me_X5_start hl) mwX5_start (mm_t6 110 rfl rfl) (Nat.le_of_ble_eq_true rfl) (Nat.le_of_ble_eq_true rfl), mm_pe (me_X5_ruleOf hl) mwX5_ruleOf (mm_t7 28 rfl rfl) (Nat.le_of_ble_eq_true rfl) (Nat.le_of_ble_eq_true rfl), trivial⟩) (mm_xe0 _) n9X5
def sp_X5_house : mm_S := fun av M d Q => match av with
  | [.inr (.inr (.inl o)), .inl c] =>  o = 17 ∧ xA M ∧ InI c ∧ ∀ M' r, xP M M' → C_house c (vX M) (vX M') (M' 17 0) r → Q (.inl (some (mm_I r))) M' d
  | _ => False
def ct_X5_house : List (Nat × mm_Ca) := [(45, (1, 3, 0, sp_X5_isIn, 0)), (146, (0, 3, 14, sp_X5_start, 0)), (260, (0, 2, 14, sp_X5_houseOf, 0))]
abbrev rr_X5_house (Q : mm_Q) := mm_run (mm_look flX5) (mm_look ct_X5_house) mm_x0 (mm_look ([] : List (Nat × Int))) (fun _ => none) 1 0 (fun _ _ => none) Q kdX5_house
set_option maxRecDepth 20000 in
theorem rn_X5_house : mm_RN flX5 ct_X5_house mm_x0 [] 1 0 2 kdX5_house sp_X5_house := by
  intro av M d Q h
  unfold sp_X5_house at h
  split at h
  · rename_i o c
    obtain ⟨rfl, ha, h1, hq⟩ := h
    have q1 : ∀ v, v = 1 → ¬ (0 ≤ c ∧ c ≤ 2) → Q (.inl (some (mm_I 0))) (mm_up M 17 0 v) d := fun v hv hn => hq _ _ (xP_s ha) (xq1 hn hv)
    have q0 : ∀ v r, v = 0 → (0 ≤ c ∧ c ≤ 2) → r = (if c = 0 then M 17 14 else if c = 1 then M 17 15 else M 17 16) → Q (.inl (some (mm_I r))) (mm_up M 17 0 v) d := fun v r hv hn e => hq _ _ (xP_s ha) (xq0 hn hv ⟨e, xse⟩)
    clear hq
    obtain ⟨K, hK, hK2⟩ : ∃ K : Nat → mm_K, (∀ t ls st M d u, K t ls st M d u → rr_X5_house Q t ls st M d u) ∧ (∀ t ls st M d u, rr_X5_house Q t ls st M d u → K t ls st M d u) := ⟨rr_X5_house Q, fun _ _ _ _ _ _ h => h, fun _ _ _ _ _ _ h => h⟩
    refine ⟨Nat.le_of_ble_eq_true rfl, mm_run_at (stop := []) (S := K) kkX5_house 90 ?_ (fun _ _ _ _ _ _ _ h => hK _ _ _ _ _ _ h)⟩
    repeat' (first | with_reducible assumption | with_reducible exact mm_i17 | with_reducible exact mm_i18 | with_reducible exact mm_i19 | with_reducible exact mm_i20 | with_reducible exact mm_i21 | with_reducible exact mm_i22 | ((with_reducible show mm_rv _ _ _ _ _); first | exact True.intro | exact mm_i17 | exact mm_i18 | exact mm_i19 | exact mm_i20 | exact mm_i21 | exact mm_i22) | ((with_reducible show mm_bool _ _); first | exact True.intro | exact Or.inl rfl | exact Or.inr rfl | (show (_ : Int) = 0 ∨ _ = 1)) | refine And.intro ?_ ?_ | intro _ | with_reducible exact True.intro | exact rfl | with_reducible exact Or.inl rfl | with_reducible exact Or.inr rfl | exact Nat.le_of_ble_eq_true rfl)
    all_goals (try simp (disch := omega) only [InI, Int.toNat_natCast, Int.tmod_eq_emod_of_nonneg, Int.tdiv_eq_ediv_of_nonneg, true_implies, true_or, or_true, mm_l18, mm_l19, mm_l20, mm_l21, mm_l22] at *)
    all_goals first | omega | exact q1 _ (by omega) (by omega) | exact q0 _ _ (by omega) (by omega) (by simp [mm_up_ob2]) | skip
  · exact h.elim
theorem me_X5_house {l : Launch} (hl : l.stackTraces = false) : mm_Met l yX5_house cX5_house 2 (some .int) [] 8 144 0 sp_X5_house := mm_mt hl rn_X5_house ⟨plX5, rfl⟩ kkX5_house rfl ⟨Nat.le_of_ble_eq_true rfl, Nat.le_of_ble_eq_true rfl⟩ flkX5 (fun _ h => nomatch h) (⟨mm_pe (me_X5_isIn hl) mwX5_isIn (mm_t6 107 rfl rfl) (Nat.le_of_ble_eq_true rfl) (Nat.le_of_ble_eq_true rfl), mm_pe (me_X5_start hl) mwX5_start (mm_t6 110 rfl rfl) (Nat.le_of_ble_eq_true rfl) (Nat.le_of_ble_eq_true rfl), mm_pe (me_X5_houseOf hl) mwX5_houseOf (mm_t8 19 rfl rfl) (Nat.le_of_ble_eq_true rfl) (Nat.le_of_ble_eq_true rfl), trivial⟩) (mm_xe0 _) n9X5
def sp_X5_length : mm_S := fun av M d Q => match av with
  | [.inr (.inr (.inl o)), .inl a] =>  o = 17 ∧ xA M ∧ InI a ∧ ∀ M' r, xP M M' → C_length a (vX M) (vX M') (M' 17 0) r → Q (.inl (some (mm_I r))) M' d
  | _ => False
def ct_X5_length : List (Nat × mm_Ca) := [(178, (0, 2, 14, sp_X5_isNoWalk, 0)), (146, (0, 3, 14, sp_X5_start, 0))]
abbrev rr_X5_length (Q : mm_Q) := mm_run (mm_look flX5) (mm_look ct_X5_length) mm_x0 (mm_look ([] : List (Nat × Int))) (fun _ => none) 1 0 (fun _ _ => none) Q kdX5_length
set_option maxRecDepth 20000 in
theorem rn_X5_length : mm_RN flX5 ct_X5_length mm_x0 [] 1 0 2 kdX5_length sp_X5_length := by
  intro av M d Q h
  unfold sp_X5_length at h
  split at h
  · rename_i o a
    obtain ⟨rfl, ha, h1, hq⟩ := h
    have q1 : ∀ v, v = 1 → ¬ (0 ≤ a ∧ a < 3) → Q (.inl (some (mm_I 0))) (mm_up M 17 0 v) d := fun v hv hn => hq _ _ (xP_s ha) (xq1 hn hv)
    have q0 : ∀ v r, v = 0 → (0 ≤ a ∧ a ≤ 2) → r = M 21 a.toNat → Q (.inl (some (mm_I r))) (mm_up M 17 0 v) d := fun v r hv hn e => hq _ _ (xP_s ha) (xq0 (wk_in hn).1 hv ⟨by rw [e]; exact (vX_n (wk_in hn).2.2).symm, xse⟩)
    clear hq
    obtain ⟨K, hK, hK2⟩ : ∃ K : Nat → mm_K, (∀ t ls st M d u, K t ls st M d u → rr_X5_length Q t ls st M d u) ∧ (∀ t ls st M d u, rr_X5_length Q t ls st M d u → K t ls st M d u) := ⟨rr_X5_length Q, fun _ _ _ _ _ _ h => h, fun _ _ _ _ _ _ h => h⟩
    refine ⟨Nat.le_of_ble_eq_true rfl, mm_run_at (stop := []) (S := K) kkX5_length 90 ?_ (fun _ _ _ _ _ _ _ h => hK _ _ _ _ _ _ h)⟩
    repeat' (first | with_reducible assumption | with_reducible exact mm_i17 | with_reducible exact mm_i18 | with_reducible exact mm_i19 | with_reducible exact mm_i20 | with_reducible exact mm_i21 | with_reducible exact mm_i22 | ((with_reducible show mm_rv _ _ _ _ _); first | exact True.intro | exact mm_i17 | exact mm_i18 | exact mm_i19 | exact mm_i20 | exact mm_i21 | exact mm_i22) | ((with_reducible show mm_bool _ _); first | exact True.intro | exact Or.inl rfl | exact Or.inr rfl | (show (_ : Int) = 0 ∨ _ = 1)) | refine And.intro ?_ ?_ | intro _ | with_reducible exact True.intro | exact rfl | with_reducible exact Or.inl rfl | with_reducible exact Or.inr rfl | exact Nat.le_of_ble_eq_true rfl)
    all_goals (try simp (disch := omega) only [InI, Int.toNat_natCast, Int.tmod_eq_emod_of_nonneg, Int.tdiv_eq_ediv_of_nonneg, true_implies, true_or, or_true, mm_l18, mm_l19, mm_l20, mm_l21, mm_l22] at *)
    all_goals first | omega | exact q1 _ (by omega) (by omega) | exact q0 _ _ (by omega) (by omega) (by rw [mm_up_170 (by omega)]) | skip
  · exact h.elim
theorem me_X5_length {l : Launch} (hl : l.stackTraces = false) : mm_Met l yX5_length cX5_length 2 (some .int) [] 8 144 0 sp_X5_length := mm_mt hl rn_X5_length ⟨plX5, rfl⟩ kkX5_length rfl ⟨Nat.le_of_ble_eq_true rfl, Nat.le_of_ble_eq_true rfl⟩ flkX5 (fun _ h => nomatch h) (⟨mm_pe (me_X5_isNoWalk hl) mwX5_isNoWalk (mm_t7 36 rfl rfl) (Nat.le_of_ble_eq_true rfl) (Nat.le_of_ble_eq_true rfl), mm_pe (me_X5_start hl) mwX5_start (mm_t6 110 rfl rfl) (Nat.le_of_ble_eq_true rfl) (Nat.le_of_ble_eq_true rfl), trivial⟩) (mm_xe0 _) n9X5
def sp_X5_cornerAt : mm_S := fun av M d Q => match av with
  | [.inr (.inr (.inl o)), .inl a, .inl b] =>  o = 17 ∧ xA M ∧ InI a ∧ InI b ∧ ∀ M' r, xP M M' → C_cornerAt a b (vX M) (vX M') (M' 17 0) r → Q (.inl (some (mm_I r))) M' d
  | _ => False
def ct_X5_cornerAt : List (Nat × mm_Ca) := [(178, (0, 2, 14, sp_X5_isNoWalk, 0)), (45, (1, 3, 0, sp_X5_isIn, 0)), (146, (0, 3, 14, sp_X5_start, 0)), (105, (0, 3, 14, sp_X5_cornerOf, 0))]
abbrev rr_X5_cornerAt (Q : mm_Q) := mm_run (mm_look flX5) (mm_look ct_X5_cornerAt) mm_x0 (mm_look ([] : List (Nat × Int))) (fun _ => none) 1 0 (fun _ _ => none) Q kdX5_cornerAt
set_option maxRecDepth 20000 in
theorem rn_X5_cornerAt : mm_RN flX5 ct_X5_cornerAt mm_x0 [] 1 0 3 kdX5_cornerAt sp_X5_cornerAt := by
  intro av M d Q h
  unfold sp_X5_cornerAt at h
  split at h
  · rename_i o a b
    obtain ⟨rfl, ha, h1, h2, hq⟩ := h
    have hl : (0 ≤ a ∧ a ≤ 2) → InI (M 21 a.toNat) := fun h => InI_l (ha.v (k := a.toNat) (by omega)) rfl
    have hn2 : (0 ≤ a ∧ a ≤ 2) → vX M (wk a) 2 = M 21 a.toNat := fun h => vX_n (wk_in h).2.2
    have q1 : ∀ v, v = 1 → (¬ (0 ≤ a ∧ a ≤ 2) ∨ ((0 ≤ a ∧ a ≤ 2) ∧ ¬ (0 ≤ b ∧ b ≤ M 21 a.toNat))) → Q (.inl (some (mm_I 0))) (mm_up M 17 0 v) d := fun v hv hn => hq _ _ (xP_s ha) (xq1 (fun h => by
      obtain ⟨g1, g2⟩ := h
      unfold iw at g1
      unfold onW at g2
      rcases hn with hn | ⟨hn, hn'⟩
      · omega
      · rw [hn2 hn] at g2
        exact hn' g2) hv)
    have q0 : ∀ v r, v = 0 → (0 ≤ a ∧ a ≤ 2) → (0 ≤ b ∧ b ≤ M 21 a.toNat) → r = corX (mm_up M 17 0 v) a.toNat b → Q (.inl (some (mm_I r))) (mm_up M 17 0 v) d := fun v r hv hn hb e => hq _ _ (xP_s ha) (xq0 ⟨(wk_in hn).1, by unfold onW; rw [hn2 hn]; exact hb⟩ hv ⟨by rw [e, cor_v (wk_in hn).2.2 (ha.s.v (wk_in hn).2.1) (by rw [mm_up_170 (by omega)]; exact hb), vX_u0]; rfl, xse⟩)
    clear hq
    obtain ⟨K, hK, hK2⟩ : ∃ K : Nat → mm_K, (∀ t ls st M d u, K t ls st M d u → rr_X5_cornerAt Q t ls st M d u) ∧ (∀ t ls st M d u, rr_X5_cornerAt Q t ls st M d u → K t ls st M d u) := ⟨rr_X5_cornerAt Q, fun _ _ _ _ _ _ h => h, fun _ _ _ _ _ _ h => h⟩
    refine ⟨Nat.le_of_ble_eq_true rfl, mm_run_at (stop := []) (S := K) kkX5_cornerAt 90 ?_ (fun _ _ _ _ _ _ _ h => hK _ _ _ _ _ _ h)⟩
    repeat' (first | with_reducible assumption | with_reducible exact mm_i17 | with_reducible exact mm_i18 | with_reducible exact mm_i19 | with_reducible exact mm_i20 | with_reducible exact mm_i21 | with_reducible exact mm_i22 | ((with_reducible show mm_rv _ _ _ _ _); first | exact True.intro | exact mm_i17 | exact mm_i18 | exact mm_i19 | exact mm_i20 | exact mm_i21 | exact mm_i22 | ((with_reducible show InI _); exact hl (by omega)) | ((with_reducible show tX _); exact ha.s.t) | ((with_reducible show mV _ _); exact ha.s.v (by omega))) | ((with_reducible show InI _); exact hl (by omega)) | ((with_reducible show tX _); exact ha.s.t) | ((with_reducible show mV _ _); exact ha.s.v (by omega)) | ((with_reducible show mm_bool _ _); first | exact True.intro | exact Or.inl rfl | exact Or.inr rfl | (show (_ : Int) = 0 ∨ _ = 1)) | refine And.intro ?_ ?_ | intro _ | with_reducible exact True.intro | exact rfl | with_reducible exact Or.inl rfl | with_reducible exact Or.inr rfl | exact Nat.le_of_ble_eq_true rfl)
    all_goals (try simp (disch := omega) only [mm_up_170, InI, Int.toNat_natCast, Int.tmod_eq_emod_of_nonneg, Int.tdiv_eq_ediv_of_nonneg, true_implies, true_or, or_true, mm_l18, mm_l19, mm_l20, mm_l21, mm_l22] at *)
    all_goals first | omega | exact q1 _ (by omega) (by omega) | exact q0 _ _ (by omega) (by omega) (by omega) (And.left (by assumption)) | skip
  · exact h.elim
theorem me_X5_cornerAt {l : Launch} (hl : l.stackTraces = false) : mm_Met l yX5_cornerAt cX5_cornerAt 3 (some .int) [] 8 144 0 sp_X5_cornerAt := mm_mt hl rn_X5_cornerAt ⟨plX5, rfl⟩ kkX5_cornerAt rfl ⟨Nat.le_of_ble_eq_true rfl, Nat.le_of_ble_eq_true rfl⟩ flkX5 (fun _ h => nomatch h) (⟨mm_pe (me_X5_isNoWalk hl) mwX5_isNoWalk (mm_t7 36 rfl rfl) (Nat.le_of_ble_eq_true rfl) (Nat.le_of_ble_eq_true rfl), mm_pe (me_X5_isIn hl) mwX5_isIn (mm_t6 107 rfl rfl) (Nat.le_of_ble_eq_true rfl) (Nat.le_of_ble_eq_true rfl), mm_pe (me_X5_start hl) mwX5_start (mm_t6 110 rfl rfl) (Nat.le_of_ble_eq_true rfl) (Nat.le_of_ble_eq_true rfl), mm_pe (me_X5_cornerOf hl) mwX5_cornerOf (mm_t6 185 rfl rfl) (Nat.le_of_ble_eq_true rfl) (Nat.le_of_ble_eq_true rfl), trivial⟩) (mm_xe0 _) n9X5
def sp_X5_stepAt : mm_S := fun av M d Q => match av with
  | [.inr (.inr (.inl o)), .inl a, .inl b] =>  o = 17 ∧ xA M ∧ InI a ∧ InI b ∧ ∀ M' r, xP M M' → C_stepAt a b (vX M) (vX M') (M' 17 0) r → Q (.inl (some (mm_I r))) M' d
  | _ => False
def ct_X5_stepAt : List (Nat × mm_Ca) := [(178, (0, 2, 14, sp_X5_isNoWalk, 0)), (45, (1, 3, 0, sp_X5_isIn, 0)), (146, (0, 3, 14, sp_X5_start, 0)), (98, (0, 3, 14, sp_X5_stepOf, 0))]
abbrev rr_X5_stepAt (Q : mm_Q) := mm_run (mm_look flX5) (mm_look ct_X5_stepAt) mm_x0 (mm_look ([] : List (Nat × Int))) (fun _ => none) 1 0 (fun _ _ => none) Q kdX5_stepAt
set_option maxRecDepth 20000 in
theorem rn_X5_stepAt : mm_RN flX5 ct_X5_stepAt mm_x0 [] 1 0 3 kdX5_stepAt sp_X5_stepAt := by
  intro av M d Q h
  unfold sp_X5_stepAt at h
  split at h
  · rename_i o a b
    obtain ⟨rfl, ha, h1, h2, hq⟩ := h
    have hl : (0 ≤ a ∧ a ≤ 2) → 0 ≤ M 21 a.toNat ∧ M 21 a.toNat ≤ 30 := fun h => (ha.v (k := a.toNat) (by omega)).1
    have hn2 : (0 ≤ a ∧ a ≤ 2) → vX M (wk a) 2 = M 21 a.toNat := fun h => vX_n (wk_in h).2.2
    have q1 : ∀ v, v = 1 → (¬ (0 ≤ a ∧ a ≤ 2) ∨ ((0 ≤ a ∧ a ≤ 2) ∧ ¬ (0 ≤ b ∧ b < M 21 a.toNat))) → Q (.inl (some (mm_I 0))) (mm_up M 17 0 v) d := fun v hv hn => hq _ _ (xP_s ha) (xq1 (fun h => by
      obtain ⟨g1, g2⟩ := h
      unfold iw at g1
      rcases hn with hn | ⟨hn, hn'⟩
      · omega
      · rw [hn2 hn] at g2
        exact hn' g2) hv)
    have q0 : ∀ v r, v = 0 → (0 ≤ a ∧ a ≤ 2) → (0 ≤ b ∧ b < M 21 a.toNat) → r = M 20 (30 * a.toNat + b.toNat) → Q (.inl (some (mm_I r))) (mm_up M 17 0 v) d := fun v r hv hn hb e => hq _ _ (xP_s ha) (xq0 ⟨(wk_in hn).1, by rw [hn2 hn]; exact hb⟩ hv ⟨by rw [e]; exact (vX_i (wk_in hn).2.2 (by have := hl hn; omega)).symm, xse⟩)
    clear hq
    obtain ⟨K, hK, hK2⟩ : ∃ K : Nat → mm_K, (∀ t ls st M d u, K t ls st M d u → rr_X5_stepAt Q t ls st M d u) ∧ (∀ t ls st M d u, rr_X5_stepAt Q t ls st M d u → K t ls st M d u) := ⟨rr_X5_stepAt Q, fun _ _ _ _ _ _ h => h, fun _ _ _ _ _ _ h => h⟩
    refine ⟨Nat.le_of_ble_eq_true rfl, mm_run_at (stop := []) (S := K) kkX5_stepAt 90 ?_ (fun _ _ _ _ _ _ _ h => hK _ _ _ _ _ _ h)⟩
    repeat' (first | with_reducible assumption | with_reducible exact mm_i17 | with_reducible exact mm_i18 | with_reducible exact mm_i19 | with_reducible exact mm_i20 | with_reducible exact mm_i21 | with_reducible exact mm_i22 | ((with_reducible show mm_rv _ _ _ _ _); first | exact True.intro | exact mm_i17 | exact mm_i18 | exact mm_i19 | exact mm_i20 | exact mm_i21 | exact mm_i22) | ((with_reducible show mm_bool _ _); first | exact True.intro | exact Or.inl rfl | exact Or.inr rfl | (show (_ : Int) = 0 ∨ _ = 1)) | refine And.intro ?_ ?_ | intro _ | with_reducible exact True.intro | exact rfl | with_reducible exact Or.inl rfl | with_reducible exact Or.inr rfl | exact Nat.le_of_ble_eq_true rfl)
    all_goals (try simp (disch := omega) only [mm_up_170, InI, Int.toNat_natCast, Int.tmod_eq_emod_of_nonneg, Int.tdiv_eq_ediv_of_nonneg, true_implies, true_or, or_true, mm_l18, mm_l19, mm_l20, mm_l21, mm_l22] at *)
    all_goals first | omega | exact q1 _ (by omega) (by omega) | exact q0 _ _ (by omega) (by omega) (by omega) rfl | (have := hl (by omega); omega) | skip
  · exact h.elim
theorem me_X5_stepAt {l : Launch} (hl : l.stackTraces = false) : mm_Met l yX5_stepAt cX5_stepAt 3 (some .int) [] 8 144 0 sp_X5_stepAt := mm_mt hl rn_X5_stepAt ⟨plX5, rfl⟩ kkX5_stepAt rfl ⟨Nat.le_of_ble_eq_true rfl, Nat.le_of_ble_eq_true rfl⟩ flkX5 (fun _ h => nomatch h) (⟨mm_pe (me_X5_isNoWalk hl) mwX5_isNoWalk (mm_t7 36 rfl rfl) (Nat.le_of_ble_eq_true rfl) (Nat.le_of_ble_eq_true rfl), mm_pe (me_X5_isIn hl) mwX5_isIn (mm_t6 107 rfl rfl) (Nat.le_of_ble_eq_true rfl) (Nat.le_of_ble_eq_true rfl), mm_pe (me_X5_start hl) mwX5_start (mm_t6 110 rfl rfl) (Nat.le_of_ble_eq_true rfl) (Nat.le_of_ble_eq_true rfl), mm_pe (me_X5_stepOf hl) mwX5_stepOf (mm_t6 158 rfl rfl) (Nat.le_of_ble_eq_true rfl) (Nat.le_of_ble_eq_true rfl), trivial⟩) (mm_xe0 _) n9X5
def sp_X5_find : mm_S := fun av M d Q => match av with
  | [.inr (.inr (.inl o)), .inl a, .inl b] =>  o = 17 ∧ xA M ∧ InI a ∧ InI b ∧ ∀ M' r, xP M M' → C_find a b (vX M) (vX M') (M' 17 0) r → Q (.inl (some (mm_I r))) M' d
  | _ => False
def ct_X5_find : List (Nat × mm_Ca) := [(178, (0, 2, 14, sp_X5_isNoWalk, 0)), (162, (0, 2, 14, sp_X5_isNoStreet, 0)), (146, (0, 3, 14, sp_X5_start, 0)), (165, (0, 3, 14, sp_X5_placeOf, 0))]
abbrev rr_X5_find (Q : mm_Q) := mm_run (mm_look flX5) (mm_look ct_X5_find) mm_x0 (mm_look ([] : List (Nat × Int))) (fun _ => none) 1 0 (fun _ _ => none) Q kdX5_find
set_option maxRecDepth 20000 in
theorem rn_X5_find : mm_RN flX5 ct_X5_find mm_x0 [] 1 0 3 kdX5_find sp_X5_find := by
  intro av M d Q h
  unfold sp_X5_find at h
  split at h
  · rename_i o a b
    obtain ⟨rfl, ha, h1, h2, hq⟩ := h
    have hn2 : (0 ≤ a ∧ a ≤ 2) → vX M (wk a) 2 = M 21 a.toNat := fun h => vX_n (wk_in h).2.2
    have q1 : ∀ v, v = 1 → (¬ (0 ≤ a ∧ a ≤ 2) ∨ ¬ (0 ≤ b ∧ b < M 17 1)) → Q (.inl (some (mm_I 0))) (mm_up M 17 0 v) d := fun v hv hn => hq _ _ (xP_s ha) (xq1 (fun h => by
      obtain ⟨g1, g2⟩ := h
      unfold iw at g1
      have g3 : 0 ≤ b ∧ b < M 17 1 := g2
      omega) hv)
    have q0 : ∀ v r, v = 0 → (0 ≤ a ∧ a ≤ 2) → (0 ≤ b ∧ b < M 17 1) → ((r = -1 ∧ ∀ i : Nat, i < M 21 a.toNat → M 20 (30 * a.toNat + i) / 2 ≠ b) ∨ (0 ≤ r ∧ r < M 21 a.toNat ∧ M 20 (30 * a.toNat + r.toNat) / 2 = b ∧ ∀ i : Nat, i < r → M 20 (30 * a.toNat + i) / 2 ≠ b)) → Q (.inl (some (mm_I r))) (mm_up M 17 0 v) d := fun v r hv hn hb e => hq _ _ (xP_s ha) (xq0 ⟨(wk_in hn).1, hb⟩ hv ⟨by
      have v1 := (ha.v (k := a.toNat) (by omega)).1
      unfold plR
      rw [hn2 hn]
      rcases e with ⟨e1, e2⟩ | ⟨e1, e2, e3, e4⟩
      · exact Or.inl ⟨e1, fun i hi => by rw [wk, vX_i (wk_in hn).2.2 (by omega)]; exact e2 i hi⟩
      · exact Or.inr ⟨e1, e2, by rw [wk, vX_i (wk_in hn).2.2 (by omega)]; exact e3, fun i hi => by rw [wk, vX_i (wk_in hn).2.2 (by omega)]; exact e4 i hi⟩, xse⟩)
    clear hq
    obtain ⟨K, hK, hK2⟩ : ∃ K : Nat → mm_K, (∀ t ls st M d u, K t ls st M d u → rr_X5_find Q t ls st M d u) ∧ (∀ t ls st M d u, rr_X5_find Q t ls st M d u → K t ls st M d u) := ⟨rr_X5_find Q, fun _ _ _ _ _ _ h => h, fun _ _ _ _ _ _ h => h⟩
    refine ⟨Nat.le_of_ble_eq_true rfl, mm_run_at (stop := []) (S := K) kkX5_find 90 ?_ (fun _ _ _ _ _ _ _ h => hK _ _ _ _ _ _ h)⟩
    repeat' (first | with_reducible assumption | with_reducible exact mm_i17 | with_reducible exact mm_i18 | with_reducible exact mm_i19 | with_reducible exact mm_i20 | with_reducible exact mm_i21 | with_reducible exact mm_i22 | ((with_reducible show mm_rv _ _ _ _ _); first | exact True.intro | exact mm_i17 | exact mm_i18 | exact mm_i19 | exact mm_i20 | exact mm_i21 | exact mm_i22 | ((with_reducible show tX _); first | exact ha.t | exact ha.s.t) | ((with_reducible show mV _ _); exact ha.s.v (by omega))) | ((with_reducible show tX _); first | exact ha.t | exact ha.s.t) | ((with_reducible show mV _ _); exact ha.s.v (by omega)) | ((with_reducible show mm_bool _ _); first | exact True.intro | exact Or.inl rfl | exact Or.inr rfl | (show (_ : Int) = 0 ∨ _ = 1)) | refine And.intro ?_ ?_ | intro _ | with_reducible exact True.intro | exact rfl | with_reducible exact Or.inl rfl | with_reducible exact Or.inr rfl | exact Nat.le_of_ble_eq_true rfl)
    all_goals (try simp (disch := omega) only [mm_up_170, InI, Int.toNat_natCast, Int.tmod_eq_emod_of_nonneg, Int.tdiv_eq_ediv_of_nonneg, true_implies, true_or, or_true, mm_l18, mm_l19, mm_l20, mm_l21, mm_l22] at *)
    all_goals first | omega | exact q1 _ (by omega) (by omega) | exact q0 _ _ (by omega) (by omega) (by omega) (by assumption) | skip
  · exact h.elim
theorem me_X5_find {l : Launch} (hl : l.stackTraces = false) : mm_Met l yX5_find cX5_find 3 (some .int) [] 8 145 0 sp_X5_find := mm_mt hl rn_X5_find ⟨plX5, rfl⟩ kkX5_find rfl ⟨Nat.le_of_ble_eq_true rfl, Nat.le_of_ble_eq_true rfl⟩ flkX5 (fun _ h => nomatch h) (⟨mm_pe (me_X5_isNoWalk hl) mwX5_isNoWalk (mm_t7 36 rfl rfl) (Nat.le_of_ble_eq_true rfl) (Nat.le_of_ble_eq_true rfl), mm_pe (me_X5_isNoStreet hl) mwX5_isNoStreet (mm_t6 150 rfl rfl) (Nat.le_of_ble_eq_true rfl) (Nat.le_of_ble_eq_true rfl), mm_pe (me_X5_start hl) mwX5_start (mm_t6 110 rfl rfl) (Nat.le_of_ble_eq_true rfl) (Nat.le_of_ble_eq_true rfl), mm_pe (me_X5_placeOf hl) mwX5_placeOf (mm_t6 154 rfl rfl) (Nat.le_of_ble_eq_true rfl) (Nat.le_of_ble_eq_true rfl), trivial⟩) (mm_xe0 _) n9X5
def sp_X5_is : mm_S := fun av M d Q => match av with
  | [.inr (.inr (.inl o)), .inl a, .inl b] =>  o = 17 ∧ xA M ∧ InI a ∧ (b = 0 ∨ b = 1) ∧ ∀ M' r, xP M M' → C_is a b (vX M) (vX M') (M' 17 0) r → Q (.inl (some (mm_I r))) M' d
  | _ => False
def ct_X5_is : List (Nat × mm_Ca) := [(178, (0, 2, 14, sp_X5_isNoWalk, 0)), (146, (0, 3, 14, sp_X5_start, 0)), (207, (0, 2, 14, sp_X5_isWhole, 0)), (137, (0, 2, 14, sp_X5_isHome, 0))]
abbrev rr_X5_is (Q : mm_Q) := mm_run (mm_look flX5) (mm_look ct_X5_is) mm_x0 (mm_look ([] : List (Nat × Int))) (fun _ => none) 2 0 (fun _ _ => none) Q kdX5_is
set_option maxRecDepth 20000 in
theorem rn_X5_is : mm_RN flX5 ct_X5_is mm_x0 [] 2 0 3 kdX5_is sp_X5_is := by
  intro av M d Q h
  unfold sp_X5_is at h
  split at h
  · rename_i o a b
    obtain ⟨rfl, ha, h1, h2, hq⟩ := h
    have hn2 : (0 ≤ a ∧ a ≤ 2) → vX M (wk a) 2 = M 21 a.toNat := fun h => vX_n (wk_in h).2.2
    have q1 : ∀ v, v = 1 → ¬ (0 ≤ a ∧ a ≤ 2) → Q (.inl (some (mm_I 0))) (mm_up M 17 0 v) d := fun v hv hn => hq _ _ (xP_s ha) (xq1 (fun h => by unfold iw at h; omega) hv)
    have q0 : ∀ v r, v = 0 → (0 ≤ a ∧ a ≤ 2) → (if b = 0 then (r = 0 ∨ r = 1) ∧ (r = 1 ↔ cor (vX (mm_up M 17 0 v)) (8 + 2 * a.toNat) (vX (mm_up M 17 0 v) (8 + 2 * a.toNat) 2) = vX (mm_up M 17 0 v) (8 + 2 * a.toNat) 3) else (r = 0 ∨ r = 1) ∧ (r = 1 ↔ M 21 a.toNat = mm_up M 17 0 v 17 1)) → Q (.inl (some (mm_I r))) (mm_up M 17 0 v) d := fun v r hv hn e => hq _ _ (xP_s ha) (xq0 (wk_in hn).1 hv ⟨by
      by_cases hb : b = 0
      · rw [if_pos hb] at e ⊢
        rw [vX_u0] at e
        exact e
      · rw [if_neg hb] at e ⊢
        rw [mm_up_ob2 (by omega)] at e
        rw [hn2 hn]
        exact e, xse⟩)
    clear hq
    obtain ⟨K, hK, hK2⟩ : ∃ K : Nat → mm_K, (∀ t ls st M d u, K t ls st M d u → rr_X5_is Q t ls st M d u) ∧ (∀ t ls st M d u, rr_X5_is Q t ls st M d u → K t ls st M d u) := ⟨rr_X5_is Q, fun _ _ _ _ _ _ h => h, fun _ _ _ _ _ _ h => h⟩
    refine ⟨Nat.le_of_ble_eq_true rfl, mm_run_at (stop := []) (S := K) kkX5_is 90 ?_ (fun _ _ _ _ _ _ _ h => hK _ _ _ _ _ _ h)⟩
    repeat' (first | with_reducible assumption | with_reducible exact mm_i17 | with_reducible exact mm_i18 | with_reducible exact mm_i19 | with_reducible exact mm_i20 | with_reducible exact mm_i21 | with_reducible exact mm_i22 | ((with_reducible show mm_rv _ _ _ _ _); first | exact True.intro | exact mm_i17 | exact mm_i18 | exact mm_i19 | exact mm_i20 | exact mm_i21 | exact mm_i22 | ((with_reducible show tX _); exact ha.s.t) | ((with_reducible show mV _ _); exact ha.s.v (by omega)) | ((with_reducible show wD _ _); exact ha.s.d (by omega))) | ((with_reducible show tX _); exact ha.s.t) | ((with_reducible show mV _ _); exact ha.s.v (by omega)) | ((with_reducible show wD _ _); exact ha.s.d (by omega)) | ((with_reducible show mm_bool _ _); first | exact True.intro | exact Or.inl rfl | exact Or.inr rfl | (show (_ : Int) = 0 ∨ _ = 1)) | refine And.intro ?_ ?_ | intro _ | with_reducible exact True.intro | exact rfl | with_reducible exact Or.inl rfl | with_reducible exact Or.inr rfl | exact Nat.le_of_ble_eq_true rfl)
    all_goals (try simp (disch := omega) only [mm_up_170, InI, Int.toNat_natCast, Int.tmod_eq_emod_of_nonneg, Int.tdiv_eq_ediv_of_nonneg, true_implies, true_or, or_true, mm_l18, mm_l19, mm_l20, mm_l21, mm_l22] at *)
    all_goals first | omega | exact q1 _ (by omega) (by omega) | exact q0 _ _ (by omega) (by omega) (by first | (rw [if_pos (by omega)]; assumption) | (rw [if_neg (by omega)]; assumption)) | skip
  · exact h.elim
theorem me_X5_is {l : Launch} (hl : l.stackTraces = false) : mm_Met l yX5_is cX5_is 3 (some .boolean) [] 10 186 0 sp_X5_is := mm_mt hl rn_X5_is ⟨plX5, rfl⟩ kkX5_is rfl ⟨Nat.le_of_ble_eq_true rfl, Nat.le_of_ble_eq_true rfl⟩ flkX5 (fun _ h => nomatch h) (⟨mm_pe (me_X5_isNoWalk hl) mwX5_isNoWalk (mm_t7 36 rfl rfl) (Nat.le_of_ble_eq_true rfl) (Nat.le_of_ble_eq_true rfl), mm_pe (me_X5_start hl) mwX5_start (mm_t6 110 rfl rfl) (Nat.le_of_ble_eq_true rfl) (Nat.le_of_ble_eq_true rfl), mm_pe (me_X5_isWhole hl) mwX5_isWhole (mm_t7 136 rfl rfl) (Nat.le_of_ble_eq_true rfl) (Nat.le_of_ble_eq_true rfl), mm_pe (me_X5_isHome hl) mwX5_isHome (mm_t7 92 rfl rfl) (Nat.le_of_ble_eq_true rfl) (Nat.le_of_ble_eq_true rfl), trivial⟩) (mm_xe0 _) n9X5
def sp_X5_same : mm_S := fun av M d Q => match av with
  | [.inr (.inr (.inl o)), .inl a, .inl b] =>  o = 17 ∧ xA M ∧ InI a ∧ InI b ∧ ∀ M' r, xP M M' → C_same a b (vX M) (vX M') (M' 17 0) r → Q (.inl (some (mm_I r))) M' d
  | _ => False
def ct_X5_same : List (Nat × mm_Ca) := [(178, (0, 2, 14, sp_X5_isNoWalk, 0)), (146, (0, 3, 14, sp_X5_start, 0)), (134, (0, 3, 14, sp_X5_isSame, 0))]
abbrev rr_X5_same (Q : mm_Q) := mm_run (mm_look flX5) (mm_look ct_X5_same) mm_x0 (mm_look ([] : List (Nat × Int))) (fun _ => none) 2 0 (fun _ _ => none) Q kdX5_same
set_option maxRecDepth 20000 in
theorem rn_X5_same : mm_RN flX5 ct_X5_same mm_x0 [] 2 0 3 kdX5_same sp_X5_same := by
  intro av M d Q h
  unfold sp_X5_same at h
  split at h
  · rename_i o a b
    obtain ⟨rfl, ha, h1, h2, hq⟩ := h
    have q1 : ∀ v, v = 1 → (¬ (0 ≤ a ∧ a ≤ 2) ∨ ¬ (0 ≤ b ∧ b ≤ 2)) → Q (.inl (some (mm_I 0))) (mm_up M 17 0 v) d := fun v hv hn => hq _ _ (xP_s ha) (xq1 (fun h => by unfold iw at h; omega) hv)
    have q0 : ∀ (v r : Int), v = 0 → (0 ≤ a ∧ a ≤ 2) → (0 ≤ b ∧ b ≤ 2) → ((r = 0 ∨ r = 1) ∧ (r = 1 ↔ smR (vX (mm_up M 17 0 v)) (8 + 2 * a.toNat) (8 + 2 * b.toNat))) → Q (.inl (some (mm_I r))) (mm_up M 17 0 v) d := fun v r hv hn hb e => hq _ _ (xP_s ha) (xq0 ⟨(wk_in hn).1, (wk_in hb).1⟩ hv ⟨by rw [vX_u0] at e; exact e, xse⟩)
    have q0y : ∀ v, v = 0 → (0 ≤ a ∧ a ≤ 2) → (0 ≤ b ∧ b ≤ 2) → ∀ r : Int, ((r = 0 ∨ r = 1) ∧ (r = 1 ↔ smR (vX (mm_up M 17 0 v)) (8 + 2 * a.toNat) (8 + 2 * b.toNat))) → (r = 0 → Q (.inl (some (mm_I 0))) (mm_up M 17 0 v) d) ∧ (r ≠ 0 → Q (.inl (some (mm_I 1))) (mm_up M 17 0 v) d) := by
      intro v hv hn hb r e
      refine ⟨fun h => ?_, fun h => ?_⟩
      · subst h
        exact q0 v 0 hv hn hb e
      · have h1 : r = 1 := by omega
        subst h1
        exact q0 v 1 hv hn hb e
    clear hq
    obtain ⟨K, hK, hK2⟩ : ∃ K : Nat → mm_K, (∀ t ls st M d u, K t ls st M d u → rr_X5_same Q t ls st M d u) ∧ (∀ t ls st M d u, rr_X5_same Q t ls st M d u → K t ls st M d u) := ⟨rr_X5_same Q, fun _ _ _ _ _ _ h => h, fun _ _ _ _ _ _ h => h⟩
    refine ⟨Nat.le_of_ble_eq_true rfl, mm_run_at (stop := []) (S := K) kkX5_same 90 ?_ (fun _ _ _ _ _ _ _ h => hK _ _ _ _ _ _ h)⟩
    repeat' (first | with_reducible assumption | with_reducible exact mm_i17 | with_reducible exact mm_i18 | with_reducible exact mm_i19 | with_reducible exact mm_i20 | with_reducible exact mm_i21 | with_reducible exact mm_i22 | ((with_reducible show mm_rv _ _ _ _ _); first | exact True.intro | exact mm_i17 | exact mm_i18 | exact mm_i19 | exact mm_i20 | exact mm_i21 | exact mm_i22 | ((with_reducible show tX _); exact ha.s.t) | ((with_reducible show stB _); exact ha.s.t.1) | ((with_reducible show mV _ _); exact ha.s.v (by omega))) | ((with_reducible show tX _); exact ha.s.t) | ((with_reducible show stB _); exact ha.s.t.1) | ((with_reducible show mV _ _); exact ha.s.v (by omega)) | ((with_reducible show mm_bool _ _); first | exact True.intro | exact Or.inl rfl | exact Or.inr rfl | (show (_ : Int) = 0 ∨ _ = 1)) | refine And.intro ?_ ?_ | intro _ | with_reducible exact True.intro | exact rfl | with_reducible exact Or.inl rfl | with_reducible exact Or.inr rfl | exact Nat.le_of_ble_eq_true rfl)
    all_goals (try simp (disch := omega) only [mm_up_170, InI, Int.toNat_natCast, Int.tmod_eq_emod_of_nonneg, Int.tdiv_eq_ediv_of_nonneg, true_implies, true_or, or_true, mm_l18, mm_l19, mm_l20, mm_l21, mm_l22] at *)
    all_goals first | omega | exact q1 _ (by omega) (by omega) | exact q0 _ _ (by omega) (by omega) (by omega) (by assumption) | exact (q0y _ (by omega) (by omega) (by omega) _ (by assumption)).1 (by omega) | exact (q0y _ (by omega) (by omega) (by omega) _ (by assumption)).2 (by omega) | skip
  · exact h.elim
theorem me_X5_same {l : Launch} (hl : l.stackTraces = false) : mm_Met l yX5_same cX5_same 3 (some .boolean) [] 8 145 0 sp_X5_same := mm_mt hl rn_X5_same ⟨plX5, rfl⟩ kkX5_same rfl ⟨Nat.le_of_ble_eq_true rfl, Nat.le_of_ble_eq_true rfl⟩ flkX5 (fun _ h => nomatch h) (⟨mm_pe (me_X5_isNoWalk hl) mwX5_isNoWalk (mm_t7 36 rfl rfl) (Nat.le_of_ble_eq_true rfl) (Nat.le_of_ble_eq_true rfl), mm_pe (me_X5_start hl) mwX5_start (mm_t6 110 rfl rfl) (Nat.le_of_ble_eq_true rfl) (Nat.le_of_ble_eq_true rfl), mm_pe (me_X5_isSame hl) mwX5_isSame (mm_t7 172 rfl rfl) (Nat.le_of_ble_eq_true rfl) (Nat.le_of_ble_eq_true rfl), trivial⟩) (mm_xe0 _) n9X5
def sp_X5_turnOf : mm_S := fun av M d Q => match av with
  | [.inr (.inr (.inl o)), .inl a, .inl b] =>  o = 17 ∧ xA M ∧ InI a ∧ InI b ∧ ∀ M' r, xP M M' → C_turnOf a b (vX M) (vX M') (M' 17 0) r → Q (.inl (some (mm_I r))) M' d
  | _ => False
def ct_X5_turnOf : List (Nat × mm_Ca) := [(178, (0, 2, 14, sp_X5_isNoWalk, 0)), (146, (0, 3, 14, sp_X5_start, 0)), (213, (0, 3, 14, sp_X5_turnTo, 0))]
abbrev rr_X5_turnOf (Q : mm_Q) := mm_run (mm_look flX5) (mm_look ct_X5_turnOf) mm_x0 (mm_look ([] : List (Nat × Int))) (fun _ => none) 1 0 (fun _ _ => none) Q kdX5_turnOf
set_option maxRecDepth 20000 in
theorem rn_X5_turnOf : mm_RN flX5 ct_X5_turnOf mm_x0 [] 1 0 3 kdX5_turnOf sp_X5_turnOf := by
  intro av M d Q h
  unfold sp_X5_turnOf at h
  split at h
  · rename_i o a b
    obtain ⟨rfl, ha, h1, h2, hq⟩ := h
    have q1 : ∀ v, v = 1 → (¬ (0 ≤ a ∧ a ≤ 2) ∨ ¬ (0 ≤ b ∧ b ≤ 2)) → Q (.inl (some (mm_I 0))) (mm_up M 17 0 v) d := fun v hv hn => hq _ _ (xP_s ha) (xq1 (fun h => by unfold iw at h; omega) hv)
    have q0 : ∀ v r, v = 0 → (0 ≤ a ∧ a ≤ 2) → (0 ≤ b ∧ b ≤ 2) → tuR (vX (mm_up M 17 0 v)) (8 + 2 * a.toNat) (8 + 2 * b.toNat) r → Q (.inl (some (mm_I r))) (mm_up M 17 0 v) d := fun v r hv hn hb e => hq _ _ (xP_s ha) (xq0 ⟨(wk_in hn).1, (wk_in hb).1⟩ hv ⟨by rw [vX_u0] at e; exact e, xse⟩)
    clear hq
    obtain ⟨K, hK, hK2⟩ : ∃ K : Nat → mm_K, (∀ t ls st M d u, K t ls st M d u → rr_X5_turnOf Q t ls st M d u) ∧ (∀ t ls st M d u, rr_X5_turnOf Q t ls st M d u → K t ls st M d u) := ⟨rr_X5_turnOf Q, fun _ _ _ _ _ _ h => h, fun _ _ _ _ _ _ h => h⟩
    refine ⟨Nat.le_of_ble_eq_true rfl, mm_run_at (stop := []) (S := K) kkX5_turnOf 90 ?_ (fun _ _ _ _ _ _ _ h => hK _ _ _ _ _ _ h)⟩
    repeat' (first | with_reducible assumption | with_reducible exact mm_i17 | with_reducible exact mm_i18 | with_reducible exact mm_i19 | with_reducible exact mm_i20 | with_reducible exact mm_i21 | with_reducible exact mm_i22 | ((with_reducible show mm_rv _ _ _ _ _); first | exact True.intro | exact mm_i17 | exact mm_i18 | exact mm_i19 | exact mm_i20 | exact mm_i21 | exact mm_i22 | ((with_reducible show tX _); exact ha.s.t) | ((with_reducible show mV _ _); exact ha.s.v (by omega))) | ((with_reducible show tX _); exact ha.s.t) | ((with_reducible show mV _ _); exact ha.s.v (by omega)) | ((with_reducible show mm_bool _ _); first | exact True.intro | exact Or.inl rfl | exact Or.inr rfl | (show (_ : Int) = 0 ∨ _ = 1)) | refine And.intro ?_ ?_ | intro _ | with_reducible exact True.intro | exact rfl | with_reducible exact Or.inl rfl | with_reducible exact Or.inr rfl | exact Nat.le_of_ble_eq_true rfl)
    all_goals (try simp (disch := omega) only [mm_up_170, InI, Int.toNat_natCast, Int.tmod_eq_emod_of_nonneg, Int.tdiv_eq_ediv_of_nonneg, true_implies, true_or, or_true, mm_l18, mm_l19, mm_l20, mm_l21, mm_l22] at *)
    all_goals first | omega | exact q1 _ (by omega) (by omega) | exact q0 _ _ (by omega) (by omega) (by omega) (And.right (by assumption)) | skip
  · exact h.elim
theorem me_X5_turnOf {l : Launch} (hl : l.stackTraces = false) : mm_Met l yX5_turnOf cX5_turnOf 3 (some .int) [] 11 209 0 sp_X5_turnOf := mm_mt hl rn_X5_turnOf ⟨plX5, rfl⟩ kkX5_turnOf rfl ⟨Nat.le_of_ble_eq_true rfl, Nat.le_of_ble_eq_true rfl⟩ flkX5 (fun _ h => nomatch h) (⟨mm_pe (me_X5_isNoWalk hl) mwX5_isNoWalk (mm_t7 36 rfl rfl) (Nat.le_of_ble_eq_true rfl) (Nat.le_of_ble_eq_true rfl), mm_pe (me_X5_start hl) mwX5_start (mm_t6 110 rfl rfl) (Nat.le_of_ble_eq_true rfl) (Nat.le_of_ble_eq_true rfl), mm_pe (me_X5_turnTo hl) mwX5_turnTo (mm_t7 180 rfl rfl) (Nat.le_of_ble_eq_true rfl) (Nat.le_of_ble_eq_true rfl), trivial⟩) (mm_xe0 _) n9X5
def sp_X5_cursorCan : mm_S := fun av M d Q => match av with
  | [.inr (.inr (.inl o)), .inl f] =>  o = 17 ∧ xA M ∧ (f = 0 ∨ f = 1) ∧ ∀ M' r, xP M M' → C_cursorCan f (vX M) (vX M') (M' 17 0) r → Q (.inl (some (mm_I r))) M' d
  | _ => False
def ct_X5_cursorCan : List (Nat × mm_Ca) := [(244, (0, 2, 14, sp_X5_canGo, 0))]
abbrev rr_X5_cursorCan (Q : mm_Q) := mm_run (mm_look flX5) (mm_look ct_X5_cursorCan) mm_x0 (mm_look ([] : List (Nat × Int))) (fun _ => none) 2 0 (fun _ _ => none) Q kdX5_cursorCan
set_option maxRecDepth 20000 in
theorem rn_X5_cursorCan : mm_RN flX5 ct_X5_cursorCan mm_x0 [] 2 0 2 kdX5_cursorCan sp_X5_cursorCan := by
  intro av M d Q h
  unfold sp_X5_cursorCan at h
  split at h
  · rename_i o f
    obtain ⟨rfl, ha, hf, hq⟩ := h
    have ha0 := ha.s (v := 0)
    have q0 : ∀ r, ((r = 0 ∨ r = 1) ∧ (r = 1 ↔ (mm_up M 17 0 0 17 10 ≠ -1 ∧ mm_up M 17 0 0 17 13 = 0 ∧ (f ≠ 0 → mm_up M 17 0 0 17 11 < mm_up M 17 0 0 21 (mm_up M 17 0 0 17 10).toNat) ∧ (f = 0 → 0 < mm_up M 17 0 0 17 11)))) → Q (.inl (some (mm_I r))) (mm_up M 17 0 0) d := fun r h => hq _ _ (xP_s ha) ⟨x00, ⟨h.1, by
      have e := h.2
      rw [mm_up_ob2 (by omega), mm_up_ob2 (by omega), mm_up_ob2 (by omega), mm_up_170 (by omega)] at e
      rw [e]
      exact hsX ha⟩, xse⟩
    clear hq
    obtain ⟨K, hK, hK2⟩ : ∃ K : Nat → mm_K, (∀ t ls st M d u, K t ls st M d u → rr_X5_cursorCan Q t ls st M d u) ∧ (∀ t ls st M d u, rr_X5_cursorCan Q t ls st M d u → K t ls st M d u) := ⟨rr_X5_cursorCan Q, fun _ _ _ _ _ _ h => h, fun _ _ _ _ _ _ h => h⟩
    refine ⟨Nat.le_of_ble_eq_true rfl, mm_run_at (stop := []) (S := K) kkX5_cursorCan 90 ?_ (fun _ _ _ _ _ _ _ h => hK _ _ _ _ _ _ h)⟩
    repeat' (first | with_reducible assumption | with_reducible exact mm_i17 | with_reducible exact mm_i18 | with_reducible exact mm_i19 | with_reducible exact mm_i20 | with_reducible exact mm_i21 | with_reducible exact mm_i22 | ((with_reducible show mm_rv _ _ _ _ _); first | exact True.intro | exact mm_i17 | exact mm_i18 | exact mm_i19 | exact mm_i20 | exact mm_i21 | exact mm_i22) | ((with_reducible show mm_bool _ _); first | exact True.intro | exact Or.inl rfl | exact Or.inr rfl | (show (_ : Int) = 0 ∨ _ = 1)) | refine And.intro ?_ ?_ | intro _ | with_reducible exact True.intro | exact rfl | with_reducible exact Or.inl rfl | with_reducible exact Or.inr rfl | exact Nat.le_of_ble_eq_true rfl)
    all_goals (try simp (disch := omega) only [InI, Int.toNat_natCast, Int.tmod_eq_emod_of_nonneg, Int.tdiv_eq_ediv_of_nonneg, true_implies, true_or, or_true, mm_l18, mm_l19, mm_l20, mm_l21, mm_l22] at *)
    all_goals first | omega | exact q0 _ (by assumption) | skip
  · exact h.elim
theorem me_X5_cursorCan {l : Launch} (hl : l.stackTraces = false) : mm_Met l yX5_cursorCan cX5_cursorCan 2 (some .boolean) [] 8 141 0 sp_X5_cursorCan := mm_mt hl rn_X5_cursorCan ⟨plX5, rfl⟩ kkX5_cursorCan rfl ⟨Nat.le_of_ble_eq_true rfl, Nat.le_of_ble_eq_true rfl⟩ flkX5 (fun _ h => nomatch h) (⟨mm_pe (me_X5_canGo hl) mwX5_canGo (mm_t7 215 rfl rfl) (Nat.le_of_ble_eq_true rfl) (Nat.le_of_ble_eq_true rfl), trivial⟩) (mm_xe0 _) n9X5
def sp_X5_cursorPlace : mm_S := fun av M d Q => match av with
  | [.inr (.inr (.inl o)), .inl f] =>  o = 17 ∧ xA M ∧ (f = 0 ∨ f = 1) ∧ ∀ M' r, xP M M' → C_cursorPlace f (vX M) (vX M') (M' 17 0) r → Q (.inl (some (mm_I r))) M' d
  | _ => False
def ct_X5_cursorPlace : List (Nat × mm_Ca) := [(254, (0, 2, 14, sp_X5_placeTold, 0))]
abbrev rr_X5_cursorPlace (Q : mm_Q) := mm_run (mm_look flX5) (mm_look ct_X5_cursorPlace) mm_x0 (mm_look ([] : List (Nat × Int))) (fun _ => none) 1 0 (fun _ _ => none) Q kdX5_cursorPlace
set_option maxRecDepth 20000 in
theorem rn_X5_cursorPlace : mm_RN flX5 ct_X5_cursorPlace mm_x0 [] 1 0 2 kdX5_cursorPlace sp_X5_cursorPlace := by
  intro av M d Q h
  unfold sp_X5_cursorPlace at h
  split at h
  · rename_i o f
    obtain ⟨rfl, ha, hf, hq⟩ := h
    have ha0 := ha.s (v := 0)
    have q0 : ∀ r, r = (if M 17 10 ≠ -1 ∧ M 17 13 = 0 then (if f = 0 then M 17 11 - 1 else M 17 11) else -2) → Q (.inl (some (mm_I r))) (mm_up M 17 0 0) d := fun r h => hq _ _ (xP_s ha) ⟨x00, by rw [h]; exact paX ha, xse⟩
    clear hq
    obtain ⟨K, hK, hK2⟩ : ∃ K : Nat → mm_K, (∀ t ls st M d u, K t ls st M d u → rr_X5_cursorPlace Q t ls st M d u) ∧ (∀ t ls st M d u, rr_X5_cursorPlace Q t ls st M d u → K t ls st M d u) := ⟨rr_X5_cursorPlace Q, fun _ _ _ _ _ _ h => h, fun _ _ _ _ _ _ h => h⟩
    refine ⟨Nat.le_of_ble_eq_true rfl, mm_run_at (stop := []) (S := K) kkX5_cursorPlace 90 ?_ (fun _ _ _ _ _ _ _ h => hK _ _ _ _ _ _ h)⟩
    repeat' (first | with_reducible assumption | with_reducible exact mm_i17 | with_reducible exact mm_i18 | with_reducible exact mm_i19 | with_reducible exact mm_i20 | with_reducible exact mm_i21 | with_reducible exact mm_i22 | ((with_reducible show mm_rv _ _ _ _ _); first | exact True.intro | exact mm_i17 | exact mm_i18 | exact mm_i19 | exact mm_i20 | exact mm_i21 | exact mm_i22) | ((with_reducible show mm_bool _ _); first | exact True.intro | exact Or.inl rfl | exact Or.inr rfl | (show (_ : Int) = 0 ∨ _ = 1)) | refine And.intro ?_ ?_ | intro _ | with_reducible exact True.intro | exact rfl | with_reducible exact Or.inl rfl | with_reducible exact Or.inr rfl | exact Nat.le_of_ble_eq_true rfl)
    all_goals (try simp (disch := omega) only [InI, Int.toNat_natCast, Int.tmod_eq_emod_of_nonneg, Int.tdiv_eq_ediv_of_nonneg, true_implies, true_or, or_true, mm_l18, mm_l19, mm_l20, mm_l21, mm_l22] at *)
    all_goals first | omega | exact q0 _ (by simp [mm_up_ob2]) | skip
  · exact h.elim
theorem me_X5_cursorPlace {l : Launch} (hl : l.stackTraces = false) : mm_Met l yX5_cursorPlace cX5_cursorPlace 2 (some .int) [] 8 141 0 sp_X5_cursorPlace := mm_mt hl rn_X5_cursorPlace ⟨plX5, rfl⟩ kkX5_cursorPlace rfl ⟨Nat.le_of_ble_eq_true rfl, Nat.le_of_ble_eq_true rfl⟩ flkX5 (fun _ h => nomatch h) (⟨mm_pe (me_X5_placeTold hl) mwX5_placeTold (mm_t8 11 rfl rfl) (Nat.le_of_ble_eq_true rfl) (Nat.le_of_ble_eq_true rfl), trivial⟩) (mm_xe0 _) n9X5

