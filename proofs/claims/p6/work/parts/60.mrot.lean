/-! the model's walks: rotated, home, whole -/
def sp_X5_rotated : mm_S := fun av M d Q => match av with
  | [.inr (.inr (.inl o)), .inl k, .inl b] =>  o = 17 ∧ tX M ∧ (0 ≤ k ∧ k < 4) ∧ mV M k.toNat ∧ (0 ≤ b ∧ b ≤ 30) ∧ ∀ M', fX M M' ∧ M' 17 = M 17 ∧ fr [8 + 2 * k.toNat, 8 + 2 * k.toNat + 1] (vX M) (vX M') ∧ rotR (vX M) (vX M') (8 + 2 * k.toNat) (if M 21 k.toNat = 0 then 0 else b.toNat) ∧ mV M' k.toNat → Q (.inl none) M' d
  | _ => False
def ct_X5_rotated : List (Nat × mm_Ca) := [(117, (0, 3, 14, sp_X5_take, 0)), (102, (0, 2, 14, sp_X5_comesTo, 0)), (120, (0, 4, 14, sp_X5_put, 0))]
abbrev rr_X5_rotated (Q : mm_Q) := mm_run (mm_look flX5) (mm_look ct_X5_rotated) mm_x0 (mm_look ([] : List (Nat × Int))) (fun _ => none) 0 0 (fun _ _ => none) Q kdX5_rotated
set_option maxRecDepth 20000 in
theorem lp_X5_rotated {M0 : mm_M} {d : List Nat} {Q : mm_Q} {k b : Nat} (hk : k < 4) (ht0 : tX M0) (hm0 : mV M0 k) (h0 : 0 < M0 21 k) (hb : b ≤ 30) (hq : ∀ M', fX M0 M' ∧ M' 17 = M0 17 ∧ fr [8 + 2 * k, 8 + 2 * k + 1] (vX M0) (vX M') ∧ rotR (vX M0) (vX M') (8 + 2 * k) b ∧ mV M' k → Q (.inl none) M' d) : ∀ (j t : Nat) (M : mm_M) (x4 : Option mm_V), t + j = b → fX M0 M → M 17 = M0 17 → mV M k → fr [8 + 2 * k, 8 + 2 * k + 1] (vX M0) (vX M) → rotR (vX M0) (vX M) (8 + 2 * k) t → rr_X5_rotated Q 2 [some (mm_R 17), some (mm_I k), some (mm_I b), some (mm_I t), x4] [] M d 0 := by
  have hw := isKk hk
  have en0 := vX_n (M := M0) hk
  have hw0 := (mV_i hk).mp hm0
  intro j
  induction j with
  | zero =>
    intro t M x4 hi hx h17 hm hf hr
    have e : t = b := by omega
    subst e
    have h9 := hq M ⟨hx, h17, hf, hr, hm⟩
    obtain ⟨K, hK, hK2⟩ : ∃ K : Nat → mm_K, (∀ t ls st M d u, K t ls st M d u → rr_X5_rotated Q t ls st M d u) ∧ (∀ t ls st M d u, rr_X5_rotated Q t ls st M d u → K t ls st M d u) := ⟨rr_X5_rotated Q, fun _ _ _ _ _ _ h => h, fun _ _ _ _ _ _ h => h⟩
    refine mm_run_at (stop := [7]) (S := K) kkX5_rotated 90 ?_ (fun _ _ _ _ _ _ _ h => hK _ _ _ _ _ _ h)
    repeat' (first | with_reducible assumption | with_reducible exact True.intro | with_reducible exact mm_i17 | with_reducible exact mm_i18 | with_reducible exact mm_i19 | with_reducible exact mm_i20 | with_reducible exact mm_i21 | with_reducible exact mm_i22 | ((with_reducible show mm_rv _ _ _ _ _); first | exact True.intro | exact mm_i17 | exact mm_i18 | exact mm_i19 | exact mm_i20 | exact mm_i21 | exact mm_i22) | ((with_reducible show mm_bool _ _); first | exact True.intro | exact Or.inl rfl | exact Or.inr rfl | (show (_ : Int) = 0 ∨ _ = 1)) | rfl | with_reducible exact Or.inl rfl | with_reducible exact Or.inr rfl | exact Nat.le_of_ble_eq_true rfl | refine And.intro ?_ ?_ | intro _)
    all_goals (try simp (disch := omega) only [InI, Int.toNat_natCast, Int.tmod_eq_emod_of_nonneg, Int.tdiv_eq_ediv_of_nonneg, true_implies, true_or, or_true, mm_l18, mm_l19, mm_l20, mm_l21, mm_l22] at *)
    all_goals first | omega | exact h9 | skip
  | succ j ih =>
    intro t M x4 hi hx h17 hm hf hr
    have en := vX_n (M := M) hk
    have hwv := (mV_i hk).mp hm
    have ht := tX_to ht0 hf hw
    have hlen : M 21 k = M0 21 k := by rw [← en, hr.1, en0]
    have v1 := hm.1
    have hst : stO (vX M) (vX M (8 + 2 * k + 1) (0 : Int).toNat) := hwv.2.2 0 (by rw [en, hlen]; exact h0)
    obtain ⟨K, hK, hK2⟩ : ∃ K : Nat → mm_K, (∀ t ls st M d u, K t ls st M d u → rr_X5_rotated Q t ls st M d u) ∧ (∀ t ls st M d u, rr_X5_rotated Q t ls st M d u → K t ls st M d u) := ⟨rr_X5_rotated Q, fun _ _ _ _ _ _ h => h, fun _ _ _ _ _ _ h => h⟩
    have tk : ∀ M1, fX M M1 ∧ fr [8 + 2 * k, 8 + 2 * k + 1] (vX M) (vX M1) ∧ mV M1 k ∧ takR (vX M) (vX M1) (8 + 2 * k) 0 ∧ M1 17 = M 17 → (tX M1 ∧ M1 21 k = M 21 k - 1 ∧ 0 ≤ vX M (8 + 2 * k + 1) (0 : Int).toNat ∧ vX M (8 + 2 * k + 1) (0 : Int).toNat < 2 * M1 17 1) := by
      intro M1 ⟨g1, g2, g3, g4, g5⟩
      refine ⟨tX_to ht g2 hw, ?_, by have := hst.1; exact this, by have := hst.2; rw [g5]; exact this⟩
      rw [← vX_n (M := M1) hk, ← en]
      rcases g4 with h | h
      · exact h.2.1
      · exact absurd ⟨Int.le_refl _, by rw [en, hlen]; exact h0⟩ h.1
    have nxt : ∀ M1, fX M M1 ∧ fr [8 + 2 * k, 8 + 2 * k + 1] (vX M) (vX M1) ∧ mV M1 k ∧ takR (vX M) (vX M1) (8 + 2 * k) 0 ∧ M1 17 = M 17 → ∀ c, (c = glX M1 (vX M (8 + 2 * k + 1) (0 : Int).toNat) ∧ 0 ≤ c ∧ c < 10) → ∀ M2, M2 = mm_up M1 22 k c → (mV M2 k ∧ M2 21 k = M1 21 k ∧ stO (vX M2) (vX M (8 + 2 * k + 1) (0 : Int).toNat)) ∧ ∀ M3, fX M2 M3 ∧ fr [8 + 2 * k, 8 + 2 * k + 1] (vX M2) (vX M3) ∧ mV M3 k ∧ putR (vX M2) (vX M3) (8 + 2 * k) (M2 21 k) (vX M (8 + 2 * k + 1) (0 : Int).toNat) ∧ M3 17 = M2 17 → ∀ x4, K 2 [some (mm_R 17), some (mm_I k), some (mm_I b), some (mm_I ((t : Int) + 1)), x4] [] M3 d 0 := by
      intro M1 hg c hc M2 hM2
      have hk1 := tk M1 hg
      obtain ⟨g1, g2, g3, g4, g5⟩ := hg
      have hw1 := (mV_i hk).mp g3
      have e1 := g2.k hw
      have v2 : vX M2 = mm_up (vX M1) (8 + 2 * k) 3 c := by rw [hM2]; exact vX_u22 hk
      have e17 : M2 17 = M1 17 := by rw [hM2, mm_up_o _ (by omega)]
      refine ⟨⟨(mV_i hk).mpr (by rw [v2]; exact hw1.b hc.2 hw), by rw [hM2, mm_up_ob (by omega)], by unfold stO; rw [vX_24, e17]; exact hk1.2.2⟩, fun M3 ⟨q1, q2, q3, q4, q5⟩ x4 => ?_⟩
      have hgl : c = gl (vX M) (vX M (8 + 2 * k + 1) 0) := by
        rw [hc.1, gl_v]
        unfold gl
        rw [e1.2.1, e1.2.2]
        rfl
      have hr3 := rot_s (V := vX M0) (V1 := vX M) (V2 := vX M1) (V3 := vX M2) (V4 := vX M3) (t := t) hw hw0 (by rw [en0]; exact h0) hr (hf.k hw) g4 g2 ⟨by rw [v2, mm_up_ob2 (by omega)], by rw [v2, hgl]; simp [mm_up], by rw [v2, mm_up_o _ (by omega)]⟩ (by rw [vX_n (M := M2) hk]; exact q4)
      exact hK2 _ _ _ _ _ _ (ih (t + 1) M3 x4 (by omega) (((hx.tr g1).tr (by rw [hM2]; exact fX.rf.up (by omega))).tr q1) (by rw [q5, e17, g5, h17]) q3 (((hf.tr g2).tr (by rw [v2]; exact fr.rf.up (by simp))).tr q2) hr3)
    refine mm_run_at (stop := [2, 55]) (S := K) kkX5_rotated 90 ?_ (fun _ _ _ _ _ _ _ h => hK _ _ _ _ _ _ h)
    repeat' (first | with_reducible assumption | with_reducible exact True.intro | with_reducible exact mm_i17 | with_reducible exact mm_i18 | with_reducible exact mm_i19 | with_reducible exact mm_i20 | with_reducible exact mm_i21 | with_reducible exact mm_i22 | ((with_reducible show mm_rv _ _ _ _ _); first | exact True.intro | exact mm_i17 | exact mm_i18 | exact mm_i19 | exact mm_i20 | exact mm_i21 | exact mm_i22 | ((with_reducible show mV _ _); exact hm) | ((with_reducible show tX _); exact (tk _ (by assumption)).1) | ((with_reducible show mV _ _); exact (nxt _ (by assumption) _ (by assumption) _ rfl).1.1) | ((with_reducible show stO _ _); exact (nxt _ (by assumption) _ (by assumption) _ rfl).1.2.2)) | ((with_reducible show mV _ _); exact hm) | ((with_reducible show tX _); exact (tk _ (by assumption)).1) | ((with_reducible show mV _ _); exact (nxt _ (by assumption) _ (by assumption) _ rfl).1.1) | ((with_reducible show stO _ _); exact (nxt _ (by assumption) _ (by assumption) _ rfl).1.2.2) | ((with_reducible show mm_bool _ _); first | exact True.intro | exact Or.inl rfl | exact Or.inr rfl | (show (_ : Int) = 0 ∨ _ = 1)) | rfl | with_reducible exact Or.inl rfl | with_reducible exact Or.inr rfl | exact Nat.le_of_ble_eq_true rfl | refine And.intro ?_ ?_ | intro _)
    all_goals (try simp (disch := omega) only [mm_up_ob_21, InI, Int.toNat_natCast, Int.tmod_eq_emod_of_nonneg, Int.tdiv_eq_ediv_of_nonneg, true_implies, true_or, or_true, mm_l18, mm_l19, mm_l20, mm_l21, mm_l22] at *)
    all_goals first | omega | (have hx := tk _ (by assumption); omega) | exact (nxt _ (by assumption) _ (by assumption) _ rfl).2 _ (by assumption) _ | exact (nxt _ (by assumption) _ (by assumption) _ rfl).2 _ (by rw [mm_up_ob_21]; assumption) _ | skip
set_option maxRecDepth 20000 in
theorem rn_X5_rotated : mm_RN flX5 ct_X5_rotated mm_x0 [] 0 0 5 kdX5_rotated sp_X5_rotated := by
  intro av M d Q h
  unfold sp_X5_rotated at h
  split at h
  · rename_i o k b
    obtain ⟨rfl, ht, hk, hm, hb, hq⟩ := h
    have v1 := hm.1
    obtain ⟨k, rfl⟩ := Int.eq_ofNat_of_zero_le hk.1
    obtain ⟨b, rfl⟩ := Int.eq_ofNat_of_zero_le hb.1
    simp only [Int.toNat_natCast] at *
    have hk4 : k < 4 := by omega
    have hw := (mV_i hk4).mp hm
    have en := vX_n (M := M) hk4
    by_cases h0 : M 21 k = 0
    · have h9 := hq M ⟨fX.rf, rfl, fr.rf, by rw [if_pos h0]; exact rot_0 hw, hm⟩
      obtain ⟨K, hK, hK2⟩ : ∃ K : Nat → mm_K, (∀ t ls st M d u, K t ls st M d u → rr_X5_rotated Q t ls st M d u) ∧ (∀ t ls st M d u, rr_X5_rotated Q t ls st M d u → K t ls st M d u) := ⟨rr_X5_rotated Q, fun _ _ _ _ _ _ h => h, fun _ _ _ _ _ _ h => h⟩
      refine ⟨Nat.le_of_ble_eq_true rfl, mm_run_at (stop := [16]) (S := K) kkX5_rotated 90 ?_ (fun _ _ _ _ _ _ _ h => hK _ _ _ _ _ _ h)⟩
      repeat' (first | with_reducible assumption | with_reducible exact True.intro | with_reducible exact mm_i17 | with_reducible exact mm_i18 | with_reducible exact mm_i19 | with_reducible exact mm_i20 | with_reducible exact mm_i21 | with_reducible exact mm_i22 | ((with_reducible show mm_rv _ _ _ _ _); first | exact True.intro | exact mm_i17 | exact mm_i18 | exact mm_i19 | exact mm_i20 | exact mm_i21 | exact mm_i22) | ((with_reducible show mm_bool _ _); first | exact True.intro | exact Or.inl rfl | exact Or.inr rfl | (show (_ : Int) = 0 ∨ _ = 1)) | rfl | with_reducible exact Or.inl rfl | with_reducible exact Or.inr rfl | exact Nat.le_of_ble_eq_true rfl | refine And.intro ?_ ?_ | intro _)
      all_goals (try simp (disch := omega) only [InI, Int.toNat_natCast, Int.tmod_eq_emod_of_nonneg, Int.tdiv_eq_ediv_of_nonneg, true_implies, true_or, or_true, mm_l18, mm_l19, mm_l20, mm_l21, mm_l22] at *)
      all_goals first | omega | exact h9 | skip
    · have h8 := lp_X5_rotated (M0 := M) (d := d) (Q := Q) (b := b) hk4 ht hm (by omega) (by omega) (fun M' h => hq M' ⟨h.1, h.2.1, h.2.2.1, by rw [if_neg h0]; exact h.2.2.2.1, h.2.2.2.2⟩) b 0 M none (by omega) fX.rf rfl hm fr.rf (rot_0 hw)
      obtain ⟨K, hK, hK2⟩ : ∃ K : Nat → mm_K, (∀ t ls st M d u, K t ls st M d u → rr_X5_rotated Q t ls st M d u) ∧ (∀ t ls st M d u, rr_X5_rotated Q t ls st M d u → K t ls st M d u) := ⟨rr_X5_rotated Q, fun _ _ _ _ _ _ h => h, fun _ _ _ _ _ _ h => h⟩
      refine ⟨Nat.le_of_ble_eq_true rfl, mm_run_at (stop := [2]) (S := K) kkX5_rotated 90 ?_ (fun _ _ _ _ _ _ _ h => hK _ _ _ _ _ _ h)⟩
      have h8 := hK2 _ _ _ _ _ _ h8
      repeat' (first | with_reducible assumption | with_reducible exact True.intro | with_reducible exact mm_i17 | with_reducible exact mm_i18 | with_reducible exact mm_i19 | with_reducible exact mm_i20 | with_reducible exact mm_i21 | with_reducible exact mm_i22 | ((with_reducible show mm_rv _ _ _ _ _); first | exact True.intro | exact mm_i17 | exact mm_i18 | exact mm_i19 | exact mm_i20 | exact mm_i21 | exact mm_i22) | ((with_reducible show mm_bool _ _); first | exact True.intro | exact Or.inl rfl | exact Or.inr rfl | (show (_ : Int) = 0 ∨ _ = 1)) | rfl | with_reducible exact Or.inl rfl | with_reducible exact Or.inr rfl | exact Nat.le_of_ble_eq_true rfl | refine And.intro ?_ ?_ | intro _)
      exact h8
  · exact h.elim
theorem me_X5_rotated {l : Launch} (hl : l.stackTraces = false) : mm_Met l yX5_rotated cX5_rotated 5 none [] 8 146 0 sp_X5_rotated := mm_mt hl rn_X5_rotated ⟨by decide, rfl⟩ kkX5_rotated rfl ⟨by decide, by decide⟩ flkX5 (fun _ h => nomatch h) (⟨mm_pe (me_X5_take hl) mwX5_take (mm_t6 193 rfl rfl) (Nat.le_of_ble_eq_true rfl) (Nat.le_of_ble_eq_true rfl), mm_pe (me_X5_comesTo hl) mwX5_comesTo (mm_t6 189 rfl rfl) (Nat.le_of_ble_eq_true rfl) (Nat.le_of_ble_eq_true rfl), mm_pe (me_X5_put hl) mwX5_put (mm_t6 197 rfl rfl) (Nat.le_of_ble_eq_true rfl) (Nat.le_of_ble_eq_true rfl), trivial⟩) (mm_xe0 _)
def sp_X5_isHome : mm_S := fun av M d Q => match av with
  | [.inr (.inr (.inl o)), .inl k] =>  o = 17 ∧ tX M ∧ (0 ≤ k ∧ k < 4) ∧ mV M k.toNat ∧ ∀ r, (r = 0 ∨ r = 1) ∧ (r = 1 ↔ cor (vX M) (8 + 2 * k.toNat) (vX M (8 + 2 * k.toNat) 2) = vX M (8 + 2 * k.toNat) 3) → Q (.inl (some (mm_I r))) M d
  | _ => False
def ct_X5_isHome : List (Nat × mm_Ca) := [(108, (0, 2, 14, sp_X5_endOf, 0))]
abbrev rr_X5_isHome (Q : mm_Q) := mm_run (mm_look flX5) (mm_look ct_X5_isHome) mm_x0 (mm_look ([] : List (Nat × Int))) (fun _ => none) 2 0 (fun _ _ => none) Q kdX5_isHome
set_option maxRecDepth 20000 in
theorem rn_X5_isHome : mm_RN flX5 ct_X5_isHome mm_x0 [] 2 0 2 kdX5_isHome sp_X5_isHome := by
  intro av M d Q h
  unfold sp_X5_isHome at h
  split at h
  · rename_i o k
    obtain ⟨rfl, ht, hk, hm, hq⟩ := h
    have v1 := hm.1
    have v2 := hm.2.1
    obtain ⟨k, rfl⟩ := Int.eq_ofNat_of_zero_le hk.1
    simp only [Int.toNat_natCast] at *
    have hk4 : k < 4 := by omega
    have eb := vX_b (M := M) hk4
    have q1 : ∀ r, (r = cor (vX M) (8 + 2 * k) (vX M (8 + 2 * k) 2) ∧ 0 ≤ r ∧ r < 10) → r = M 22 k → Q (.inl (some (mm_I 1))) M d := fun r hr h => hq 1 ⟨Or.inr rfl, fun _ => by rw [eb, ← h, hr.1], fun _ => rfl⟩
    have q0 : ∀ r, (r = cor (vX M) (8 + 2 * k) (vX M (8 + 2 * k) 2) ∧ 0 ≤ r ∧ r < 10) → r ≠ M 22 k → Q (.inl (some (mm_I 0))) M d := fun r hr h => hq 0 ⟨Or.inl rfl, fun h2 => by omega, fun h2 => absurd (by rw [hr.1, h2, eb]) h⟩
    obtain ⟨K, hK, hK2⟩ : ∃ K : Nat → mm_K, (∀ t ls st M d u, K t ls st M d u → rr_X5_isHome Q t ls st M d u) ∧ (∀ t ls st M d u, rr_X5_isHome Q t ls st M d u → K t ls st M d u) := ⟨rr_X5_isHome Q, fun _ _ _ _ _ _ h => h, fun _ _ _ _ _ _ h => h⟩
    refine ⟨Nat.le_of_ble_eq_true rfl, mm_run_at (stop := []) (S := K) kkX5_isHome 90 ?_ (fun _ _ _ _ _ _ _ h => hK _ _ _ _ _ _ h)⟩
    repeat' (first | with_reducible assumption | with_reducible exact True.intro | with_reducible exact mm_i17 | with_reducible exact mm_i18 | with_reducible exact mm_i19 | with_reducible exact mm_i20 | with_reducible exact mm_i21 | with_reducible exact mm_i22 | ((with_reducible show mm_rv _ _ _ _ _); first | exact True.intro | exact mm_i17 | exact mm_i18 | exact mm_i19 | exact mm_i20 | exact mm_i21 | exact mm_i22 | ((with_reducible show mV _ _); exact hm)) | ((with_reducible show mV _ _); exact hm) | ((with_reducible show mm_bool _ _); first | exact True.intro | exact Or.inl rfl | exact Or.inr rfl | (show (_ : Int) = 0 ∨ _ = 1)) | rfl | with_reducible exact Or.inl rfl | with_reducible exact Or.inr rfl | exact Nat.le_of_ble_eq_true rfl | refine And.intro ?_ ?_ | intro _)
    all_goals (try simp (disch := omega) only [InI, Int.toNat_natCast, Int.tmod_eq_emod_of_nonneg, Int.tdiv_eq_ediv_of_nonneg, true_implies, true_or, or_true, mm_l18, mm_l19, mm_l20, mm_l21, mm_l22] at *)
    all_goals first | omega | exact q1 _ (by assumption) (by omega) | exact q0 _ (by assumption) (by omega) | skip
  · exact h.elim
theorem me_X5_isHome {l : Launch} (hl : l.stackTraces = false) : mm_Met l yX5_isHome cX5_isHome 2 (some .boolean) [] 9 165 0 sp_X5_isHome := mm_mt hl rn_X5_isHome ⟨by decide, rfl⟩ kkX5_isHome rfl ⟨by decide, by decide⟩ flkX5 (fun _ h => nomatch h) (⟨mm_pe (me_X5_endOf hl) mwX5_endOf (mm_t6 181 rfl rfl) (Nat.le_of_ble_eq_true rfl) (Nat.le_of_ble_eq_true rfl), trivial⟩) (mm_xe0 _)
/-- whole: as many steps as streets -/
theorem whole_iff {V : mm_M} {w n : Nat} {set : Int} (ht : tW V) (hv : wV V w) (hd : wD V w) (hn : V 2 4 = n) (hs : 0 ≤ set ∧ set < 1073741824) (hset : ∀ s : Nat, bt set s = 1 ↔ ∃ i : Nat, i < V w 2 ∧ V (w + 1) i / 2 = s) : set = 2 ^ n - 1 ↔ V w 2 = V 2 4 := by
  have t1 := ht.1
  have v1 := hv.1
  have hn30 : n ≤ 30 := by omega
  have p1 := pw_le (k := n) (n := 30) hn30
  have p2 := pw_lt (k := n) (by omega)
  have hle : V w 2 ≤ n := by
    have := pigeon n (fun i => (V (w + 1) i / 2).toNat) (V w 2).toNat (fun i hi => by
      have := hv.2.2 i (by omega)
      show (V (w + 1) i / 2).toNat < n
      omega) (fun i j hi hj e => by
      have a := hv.2.2 i (by omega)
      have b := hv.2.2 j (by omega)
      have e : (V (w + 1) i / 2).toNat = (V (w + 1) j / 2).toNat := e
      exact hd i j (by omega) (by omega) (by omega))
    omega
  constructor
  · intro h
    have hx : ∀ s : Nat, ∃ i : Nat, s < n → i < (V w 2).toNat ∧ V (w + 1) i / 2 = s := fun s => by
      by_cases hs : s < n
      · obtain ⟨i, h1, h2⟩ := (hset s).mp (by rw [h, bt_all, if_pos hs])
        exact ⟨i, fun _ => ⟨by omega, h2⟩⟩
      · exact ⟨0, fun h => absurd h hs⟩
    have := pigeon (V w 2).toNat (fun s => (hx s).choose) n (fun s hs => ((hx s).choose_spec hs).1) (fun i j hi hj e => by
      have a := ((hx i).choose_spec hi).2
      have b := ((hx j).choose_spec hj).2
      have e : (hx i).choose = (hx j).choose := e
      rw [e] at a
      omega)
    omega
  · intro h
    refine bt_ext hs ⟨by omega, by omega⟩ (fun s _ => ?_)
    rw [bt_all]
    have hb := bt_01 set s
    by_cases hsn : s < n
    · rw [if_pos hsn]
      by_cases e : bt set s = 1
      · exact e
      · exfalso
        have hN : wN V w s := fun i hi e2 => e ((hset s).mpr ⟨i, hi, e2⟩)
        have := wD_lt hv hd (s := s) (by omega) hN
        omega
    · rw [if_neg hsn]
      have : ¬ bt set s = 1 := fun e => by
        obtain ⟨i, h1, h2⟩ := (hset s).mp e
        have := hv.2.2 i h1
        omega
      omega
def sp_X5_isWhole : mm_S := fun av M d Q => match av with
  | [.inr (.inr (.inl o)), .inl k] =>  o = 17 ∧ tX M ∧ (0 ≤ k ∧ k < 4) ∧ mV M k.toNat ∧ wD (vX M) (8 + 2 * k.toNat) ∧ ∀ r, (r = 0 ∨ r = 1) ∧ (r = 1 ↔ M 21 k.toNat = M 17 1) → Q (.inl (some (mm_I r))) M d
  | _ => False
def ct_X5_isWhole : List (Nat × mm_Ca) := [(111, (0, 2, 14, sp_X5_setOf, 0)), (79, (0, 1, 14, sp_X5_all, 0))]
abbrev rr_X5_isWhole (Q : mm_Q) := mm_run (mm_look flX5) (mm_look ct_X5_isWhole) mm_x0 (mm_look ([] : List (Nat × Int))) (fun _ => none) 2 0 (fun _ _ => none) Q kdX5_isWhole
set_option maxRecDepth 20000 in
theorem rn_X5_isWhole : mm_RN flX5 ct_X5_isWhole mm_x0 [] 2 0 2 kdX5_isWhole sp_X5_isWhole := by
  intro av M d Q h
  unfold sp_X5_isWhole at h
  split at h
  · rename_i o k
    obtain ⟨rfl, ht, hk, hm, hD, hq⟩ := h
    have t1 := ht.1
    obtain ⟨n, hn⟩ := Int.eq_ofNat_of_zero_le t1.1
    obtain ⟨k, rfl⟩ := Int.eq_ofNat_of_zero_le hk.1
    simp only [Int.toNat_natCast] at *
    have hk4 : k < 4 := by omega
    have en := vX_n (M := M) hk4
    have hw := (mV_i hk4).mp hm
    have key : ∀ set all, ((0 ≤ set ∧ set < 1073741824) ∧ (∀ s : Nat, bt set s = 1 ↔ ∃ i : Nat, i < M 21 k ∧ M 20 (30 * k + i) / 2 = s)) → (all = 2 ^ (M 17 1).toNat - 1 ∧ 0 ≤ all ∧ all < 1073741824) → (set = all ↔ M 21 k = M 17 1) := by
      intro set all h1 h2
      have := whole_iff (V := vX M) (w := 8 + 2 * k) (n := n) ht hw hD (by rw [vX_24]; exact hn) h1.1 (vX_set hk4 hm h1.2)
      rw [h2.1, show (M 17 1).toNat = n by omega, this, en, vX_24]
    have q1 : ∀ set all, ((0 ≤ set ∧ set < 1073741824) ∧ (∀ s : Nat, bt set s = 1 ↔ ∃ i : Nat, i < M 21 k ∧ M 20 (30 * k + i) / 2 = s)) → (all = 2 ^ (M 17 1).toNat - 1 ∧ 0 ≤ all ∧ all < 1073741824) → set = all → Q (.inl (some (mm_I 1))) M d := fun set all h1 h2 h => hq 1 ⟨Or.inr rfl, fun _ => (key set all h1 h2).mp h, fun _ => rfl⟩
    have q0 : ∀ set all, ((0 ≤ set ∧ set < 1073741824) ∧ (∀ s : Nat, bt set s = 1 ↔ ∃ i : Nat, i < M 21 k ∧ M 20 (30 * k + i) / 2 = s)) → (all = 2 ^ (M 17 1).toNat - 1 ∧ 0 ≤ all ∧ all < 1073741824) → set ≠ all → Q (.inl (some (mm_I 0))) M d := fun set all h1 h2 h => hq 0 ⟨Or.inl rfl, fun h => by omega, fun h3 => absurd ((key set all h1 h2).mpr h3) h⟩
    obtain ⟨K, hK, hK2⟩ : ∃ K : Nat → mm_K, (∀ t ls st M d u, K t ls st M d u → rr_X5_isWhole Q t ls st M d u) ∧ (∀ t ls st M d u, rr_X5_isWhole Q t ls st M d u → K t ls st M d u) := ⟨rr_X5_isWhole Q, fun _ _ _ _ _ _ h => h, fun _ _ _ _ _ _ h => h⟩
    refine ⟨Nat.le_of_ble_eq_true rfl, mm_run_at (stop := []) (S := K) kkX5_isWhole 90 ?_ (fun _ _ _ _ _ _ _ h => hK _ _ _ _ _ _ h)⟩
    repeat' (first | with_reducible assumption | with_reducible exact True.intro | with_reducible exact mm_i17 | with_reducible exact mm_i18 | with_reducible exact mm_i19 | with_reducible exact mm_i20 | with_reducible exact mm_i21 | with_reducible exact mm_i22 | ((with_reducible show mm_rv _ _ _ _ _); first | exact True.intro | exact mm_i17 | exact mm_i18 | exact mm_i19 | exact mm_i20 | exact mm_i21 | exact mm_i22 | ((with_reducible show mV _ _); exact hm)) | ((with_reducible show mV _ _); exact hm) | ((with_reducible show mm_bool _ _); first | exact True.intro | exact Or.inl rfl | exact Or.inr rfl | (show (_ : Int) = 0 ∨ _ = 1)) | rfl | with_reducible exact Or.inl rfl | with_reducible exact Or.inr rfl | exact Nat.le_of_ble_eq_true rfl | refine And.intro ?_ ?_ | intro _)
    all_goals (try simp (disch := omega) only [InI, Int.toNat_natCast, Int.tmod_eq_emod_of_nonneg, Int.tdiv_eq_ediv_of_nonneg, true_implies, true_or, or_true, mm_l18, mm_l19, mm_l20, mm_l21, mm_l22] at *)
    all_goals first | omega | exact q1 _ _ (by assumption) (by assumption) (by omega) | exact q0 _ _ (by assumption) (by assumption) (by omega) | skip
  · exact h.elim
theorem me_X5_isWhole {l : Launch} (hl : l.stackTraces = false) : mm_Met l yX5_isWhole cX5_isWhole 2 (some .boolean) [] 8 145 0 sp_X5_isWhole := mm_mt hl rn_X5_isWhole ⟨by decide, rfl⟩ kkX5_isWhole rfl ⟨by decide, by decide⟩ flkX5 (fun _ h => nomatch h) (⟨mm_pe (me_X5_setOf hl) mwX5_setOf (mm_t7 72 rfl rfl) (Nat.le_of_ble_eq_true rfl) (Nat.le_of_ble_eq_true rfl), mm_pe (me_X5_all hl) mwX5_all (mm_t6 213 rfl rfl) (Nat.le_of_ble_eq_true rfl) (Nat.le_of_ble_eq_true rfl), trivial⟩) (mm_xe0 _)

